/-! HOW FAR, HOW HIGH: both -/
theorem ev_env {env env' : Nat → Int32} (h : ∀ k, k < 6 → env k = env' k) : ∀ (c : Cd_) (st : List Int32), (∀ s ∈ c, s.1 = 1 → s.2 < 6) → ev_ env c st = ev_ env' c st := by
  intro c
  induction c with
  | nil => intro st _; rfl
  | cons s c ih =>
    intro st hc
    have e : e1_ env s st = e1_ env' s st := by
      obtain ⟨o, a⟩ := s
      by_cases z : o = 1
      · subst z
        show env a :: st = env' a :: st
        rw [h a (hc (1, a) List.mem_cons_self rfl)]
      · unfold e1_
        simp only
        split
        · rfl
        · exact absurd rfl z
        · rfl
        · rfl
        · rfl
        · rfl
        · rfl
        · rfl
        · rfl
        · rfl
        · rfl
    show ev_ env c (e1_ env s st) = ev_ env' c (e1_ env' s st)
    rw [e]
    exact ih _ (fun x hx => hc x (List.mem_cons_of_mem _ hx))
theorem va_env {env env' : Nat → Int32} (h : ∀ k, k < 6 → env k = env' k) {c : Cd_} {m : Nat} (hg : Gd_ c m) : va_l env c = va_l env' c := by
  unfold va_l
  rw [ev_env h c [] (fun s hs => (hg.2.2.1 s hs).2.2)]
/-- the six names -/
def nv6_ (nu fl ni on w : Nat) (k : Nat) : Int32 := if k = 0 then nI w else if k = 1 then nI nu else if k = 2 then nI (on % 6) else if k = 3 then nI (on / 6) else if k = 4 then nI ni else if k = 5 then nI fl else 0
def ek_ (kd nu ni w : Nat) (v : Int32) : Int32 := if kd = 1 then 2 * v else if kd = 2 then (if w % 2 = 0 then v else 0) else if kd = 3 then 2 * v + nI (nu % 3) else if kd = 4 then (if w % 2 = 0 ∧ ni % 2 = 0 then v else 0) else if kd = 5 then -v else v
def sk_ (kd w : Nat) (v : Int32) : Int32 := if kd = 2 then v + 1 else if kd = 3 then (if w ≤ 5 then v else -v) else if kd = 4 then v + 1 else if kd = 5 then v / 2 else v
def hk_ (kd : Nat) (v near : Int32) : Int32 := if kd = 1 then v + near + 2 else if kd = 2 then v else if kd = 3 then 2 * (v + near + 2) else if kd = 4 then 0 else v + near
def wi_ (x lo hi : Int32) : Int32 := f_X8_bounded x lo hi
def ea_ (kd nu fl ni : Nat) (ce : Cd_) (on w : Nat) : Int32 := wi_ (ek_ kd nu ni w (wi_ (va_l (nv6_ nu fl ni on w) ce) (-5) 5)) (-5) 5
def so_ (kd nu fl ni : Nat) (cs : Cd_) (on w : Nat) : Int32 := wi_ (sk_ kd w (wi_ (va_l (nv6_ nu fl ni on w) cs) (-5) 5)) (-5) 5
def he_ (kd nu fl ni : Nat) (cr : Cd_) (on : Nat) (near : Int32) : Int32 := wi_ (hk_ kd (wi_ (va_l (nv6_ nu fl ni on 0) cr) 0 99) near) 0 99
/-- the cell that a word leads to -/
def gt_ (kd nu fl ni m : Nat) (ce cs : Cd_) (on w : Nat) : Nat :=
  if f_X8_isBelow (nI (on % 6) + ea_ kd nu fl ni ce on w) 6 = 0 then on else if f_X8_isBelow (nI (on / 6) + so_ kd nu fl ni cs on w) 6 = 0 then on
  else if m.testBit (6 * (nI (on / 6) + so_ kd nu fl ni cs on w).toNatClampNeg + (nI (on % 6) + ea_ kd nu fl ni ce on w).toNatClampNeg) then on
  else 6 * (nI (on / 6) + so_ kd nu fl ni cs on w).toNatClampNeg + (nI (on % 6) + ea_ kd nu fl ni ce on w).toNatClampNeg
theorem gt_lt (kd nu fl ni m : Nat) (ce cs : Cd_) (on w : Nat) (h : on < 36) : gt_ kd nu fl ni m ce cs on w < 36 := by
  unfold gt_
  generalize nI (on % 6) + ea_ kd nu fl ni ce on w = x
  generalize nI (on / 6) + so_ kd nu fl ni cs on w = y
  rcases bel_c x (n := 6) (by omega) with z | ⟨j, hj, rfl⟩
  · rw [if_pos (show f_X8_isBelow x 6 = 0 from z)]; exact h
  rcases bel_c y (n := 6) (by omega) with z | ⟨k, hk, rfl⟩
  · rw [if_pos (show f_X8_isBelow y 6 = 0 from z)]; split <;> exact h
  · rw [nI_clamp (by omega), nI_clamp (by omega)]
    repeat' split
    all_goals omega
def Pm_ (kd nu fl ni m : Nat) (ce cs cr : Cd_) : Prop := kd < 6 ∧ nu < 10 ∧ fl < 2 ∧ ni < 1000 ∧ m < 2 ^ 36 ∧ Gd_ ce 158 ∧ Gd_ cs 158 ∧ Gd_ cr 158
/-- a carpet in thought, here -/
def Th_ (σ : St_) (kd nu fl ni m : Nat) (ce cs cr : Cd_) : Prop := ShX_ σ ∧ si_ σ 21 2 = nI kd ∧ sl_ σ 21 3 = lN m ∧ si_ σ 22 1 = nI nu ∧ si_ σ 22 4 = nI ni ∧ si_ σ 22 5 = nI fl ∧ ∃ b e s r, sr_ σ 21 4 = some b ∧ 49 ≤ e ∧ 49 ≤ s ∧ 49 ≤ r ∧ 49 ≤ b ∧ kd_ σ b = 5 ∧ sr_ σ b 0 = some e ∧ sr_ σ b 1 = some s ∧ sr_ σ b 2 = some r ∧ Ar_ σ e ce ∧ Ar_ σ s cs ∧ Ar_ σ r cr
def xG_ (r k : Nat) : Prop := (r = 22 ∧ (k = 0 ∨ k = 2 ∨ k = 3)) ∨ r = 23
def TX_ (σ σ' : St_) : Prop := ShX_ σ' ∧ Fr_ (fun r k => ¬ xG_ r k) σ σ'
theorem TX_.trans {σ σ' σ'' : St_} (h : TX_ σ σ') (g : TX_ σ' σ'') : TX_ σ σ'' := ⟨g.1, h.2.trans g.2⟩
theorem TX_.sc {σ σ' : St_} (h : TX_ σ σ') : ScX_ σ σ' := ⟨h.1, h.2.mono (by intro r k z w; apply z; simp only [xG_, xZ_] at w ⊢; omega)⟩
theorem Th_.congr {σ σ' : St_} {kd nu fl ni m : Nat} {ce cs cr : Cd_} (h : Th_ σ kd nu fl ni m ce cs cr) (t : TX_ σ σ') : Th_ σ' kd nu fl ni m ce cs cr := by
  obtain ⟨-, h1, h2, h3, h4, h5, b, e, s, r, g1, q1, q2, q3, q4, g2, g3, g4, g5, a1, a2, a3⟩ := h
  obtain ⟨hX, hf⟩ := t
  have ar : ∀ {a : Nat} {c : Cd_}, 49 ≤ a → Ar_ σ a c → Ar_ σ' a c := fun ha h => h.congr (congrFun hf.1 _) (congrFun hf.2.1 _) (fun j => hf.i (by simp only [xG_]; omega))
  refine ⟨hX, (hf.i (by simp [xG_])).trans h1, (hf.l (by simp [xG_])).trans h2, (hf.i (by simp [xG_])).trans h3, (hf.i (by simp [xG_])).trans h4, (hf.i (by simp [xG_])).trans h5, b, e, s, r, (hf.r (by simp [xG_])).trans g1, q1, q2, q3, q4, (congrFun hf.1 b).trans g2, (hf.r (by simp only [xG_]; omega)).trans g3, (hf.r (by simp only [xG_]; omega)).trans g4, (hf.r (by simp only [xG_]; omega)).trans g5, ar q1 a1, ar q2 a2, ar q3 a3⟩
theorem rem6 : ∀ on, on < 36 → (nI on - nI on / 6 * 6 = nI (on % 6) ∧ nI on / 6 = nI (on / 6)) := by decide +kernel
/-- a code of the text that is gone by -/
theorem v_ok {σ : St_} {kd nu fl ni m : Nat} {ce cs cr : Cd_} (h : Th_ σ kd nu fl ni m ce cs cr) {a : Nat} (ha : 49 ≤ a) {c : Cd_} (har : Ar_ σ a c) (hg : Gd_ c 158) {on w : Nat} (hon : on < 36) : ∃ σ', f_X6_valueOf 5000 σ 21 a (nI on) (nI w) = some (va_l (nv6_ nu fl ni on w) c, σ') ∧ TX_ σ σ' := by
  obtain ⟨hX, h1, h2, h3, h4, h5, -⟩ := h
  obtain ⟨r1, r2⟩ := rem6 on hon
  let σ1 := ui_ (ui_ (ui_ σ 22 0 (nI w)) 22 2 (nI (on % 6))) 22 3 (nI (on / 6))
  have hX1 : ShX_ σ1 := hX
  have har1 : Ar_ σ1 a c := har.congr rfl rfl (fun j => by rw [g_si_ne (by omega), g_si_ne (by omega), g_si_ne (by omega)])
  obtain ⟨f, e⟩ := v_all hX1 ha har1 hg (by omega)
  have hv : va_l (si_ σ1 22) c = va_l (nv6_ nu fl ni on w) c := va_env (fun k hk => by
    have q : k = 0 ∨ k = 1 ∨ k = 2 ∨ k = 3 ∨ k = 4 ∨ k = 5 := by omega
    rcases q with rfl | rfl | rfl | rfl | rfl | rfl
    · rfl
    · exact h3
    · rfl
    · rfl
    · exact h4
    · exact h5) hg
  rw [hv] at e
  refine ⟨uw_ σ1 23 f, ?_, hX1, Fr_.uw (Fr_.ui (Fr_.ui (Fr_.ui (Fr_.refl _ _) _ _ _ (by simp [xG_])) _ _ _ (by simp [xG_])) _ _ _ (by simp [xG_])) _ _ (fun _ => by simp [xG_])⟩
  unfold f_X6_valueOf
  rw [dx_21_0 hX, Option.bind_some, lx_22 hX, show ix_ (0 : Int32) 6 = some 0 from by decide +kernel, Option.bind_some, show ln_ (ui_ σ 22 0 (nI w)) 22 = 6 from lx_22 hX, show ix_ (2 : Int32) 6 = some 2 from by decide +kernel, Option.bind_some, r1, r2, show ln_ (ui_ (ui_ σ 22 0 (nI w)) 22 2 (nI (on % 6))) 22 = 6 from lx_22 hX, show ix_ (3 : Int32) 6 = some 3 from by decide +kernel, Option.bind_some]
  exact e
theorem odd8 : ∀ w, w < 8 → ((nI w - nI w / 2 * 2 = 0) ↔ w % 2 = 0) := by decide +kernel
theorem odd8' : ∀ w, w < 8 → ((nI w - nI w / 2 * 2 = 1) ↔ ¬ w % 2 = 0) := by decide +kernel
theorem oddn : ∀ w, w < 1000 → ((nI w - nI w / 2 * 2 = 0) ↔ w % 2 = 0) := by decide +kernel
theorem oddn' : ∀ w, w < 1000 → ((nI w - nI w / 2 * 2 = 1) ↔ ¬ w % 2 = 0) := by decide +kernel
theorem mod3 : ∀ n, n < 10 → nI n - nI n / 3 * 3 = nI (n % 3) := by decide +kernel
theorem th_east {σ : St_} {kd nu fl ni m : Nat} {ce cs cr : Cd_} (h : Th_ σ kd nu fl ni m ce cs cr) (p : Pm_ kd nu fl ni m ce cs cr) {on w : Nat} (hon : on < 36) (hw : w < 8) : ∃ σ', f_X6_east 5000 σ 21 (nI on) (nI w) = some (ea_ kd nu fl ni ce on w, σ') ∧ TX_ σ σ' := by
  have h0 := h
  obtain ⟨hX, h1, h2, h3, h4, h5, b, e, s, r, g1, q1, q2, q3, q4, g2, g3, g4, g5, a1, a2, a3⟩ := h
  obtain ⟨p1, p2, p3, p4, p5, p6, p7, p8⟩ := p
  obtain ⟨σ', e1, t⟩ := v_ok h0 q1 a1 p6 hon (w := w)
  refine ⟨σ', ?_, t⟩
  unfold f_X6_east
  rw [g1]
  show (if kd_ σ b = 5 then _ else _) = _
  rw [if_pos g2, dr_ok g3 a1.1, Option.bind_some, e1, Option.bind_some]
  simp only
  have hk : f_X6_eastOfKind σ' 21 (f_X8_bounded (va_l (nv6_ nu fl ni on w) ce) (-5) 5) (nI w) = some (ek_ kd nu ni w (wi_ (va_l (nv6_ nu fl ni on w) ce) (-5) 5)) := by
    obtain ⟨hX', k1, k2, k3, k4, k5, -⟩ := h0.congr t
    show f_X6_eastOfKind σ' 21 (wi_ (va_l (nv6_ nu fl ni on w) ce) (-5) 5) (nI w) = _
    generalize wi_ (va_l (nv6_ nu fl ni on w) ce) (-5) 5 = v
    have e11 : ∀ s0 : Int32, (s0 = 0 ↔ w % 2 = 0) → f_X6_eastOfKind_11 σ' 21 v s0 = some (ek_ kd nu ni w v) := fun s0 hs => by
      unfold f_X6_eastOfKind_11
      have i1 : ix_ (1 : Int32) 6 = some 1 := by decide +kernel
      have i4 : ix_ (4 : Int32) 6 = some 4 := by decide +kernel
      simp only [k1, dx_21_0 hX', lx_22 hX', i1, i4, Option.bind_some, k3, k4, mod3 nu p2]
      unfold ek_
      have q : kd = 0 ∨ kd = 1 ∨ kd = 2 ∨ kd = 3 ∨ kd = 4 ∨ kd = 5 := by omega
      have od := oddn ni p4
      by_cases z : w % 2 = 0
      · have z' := hs.mpr z
        by_cases y : ni % 2 = 0
        · have y' := od.mpr y
          simp only [if_pos z, if_pos z', if_pos y', if_pos (And.intro z y)]
          rcases q with rfl | rfl | rfl | rfl | rfl | rfl <;> rfl
        · have y' : ¬ nI ni - nI ni / 2 * 2 = 0 := fun q => y (od.mp q)
          simp only [if_pos z, if_pos z', if_neg y', if_neg (show ¬ (w % 2 = 0 ∧ ni % 2 = 0) from fun q => y q.2)]
          rcases q with rfl | rfl | rfl | rfl | rfl | rfl <;> rfl
      · have z' : ¬ s0 = 0 := fun q => z (hs.mp q)
        simp only [if_neg z, if_neg z', if_neg (show ¬ (w % 2 = 0 ∧ ni % 2 = 0) from fun q => z q.1)]
        rcases q with rfl | rfl | rfl | rfl | rfl | rfl <;> rfl
    unfold f_X6_eastOfKind
    by_cases z : w % 2 = 0
    · rw [if_pos ((odd8 w hw).mpr z), e11 0 ⟨fun _ => z, fun _ => rfl⟩]
    · rw [if_neg (fun q => z ((odd8 w hw).mp q)), e11 1 ⟨fun q => absurd q (by decide), fun q => absurd q z⟩]
  rw [hk, Option.bind_some]
  rfl
theorem th_south {σ : St_} {kd nu fl ni m : Nat} {ce cs cr : Cd_} (h : Th_ σ kd nu fl ni m ce cs cr) (p : Pm_ kd nu fl ni m ce cs cr) {on w : Nat} (hon : on < 36) (hw : w < 8) : ∃ σ', f_X6_south 5000 σ 21 (nI on) (nI w) = some (so_ kd nu fl ni cs on w, σ') ∧ TX_ σ σ' := by
  have h0 := h
  obtain ⟨hX, h1, h2, h3, h4, h5, b, e, s, r, g1, q1, q2, q3, q4, g2, g3, g4, g5, a1, a2, a3⟩ := h
  obtain ⟨p1, p2, p3, p4, p5, p6, p7, p8⟩ := p
  obtain ⟨σ', e1, t⟩ := v_ok h0 q2 a2 p7 hon (w := w)
  refine ⟨σ', ?_, t⟩
  unfold f_X6_south
  rw [g1]
  show (if kd_ σ b = 5 then _ else _) = _
  rw [if_pos g2, dr_ok g4 a2.1, Option.bind_some, e1, Option.bind_some]
  simp only
  have k1 := (h0.congr t).2.1
  have hk : ∀ v, f_X6_southOfKind σ' 21 v (nI w) = sk_ kd w v := fun v => by
    unfold f_X6_southOfKind sk_
    rw [k1]
    have q : kd = 0 ∨ kd = 1 ∨ kd = 2 ∨ kd = 3 ∨ kd = 4 ∨ kd = 5 := by omega
    by_cases z : w ≤ 5
    · have z' : nI w ≤ 5 := nI_le (b := 5) z (by omega)
      rw [if_pos z, if_pos z']
      rcases q with rfl | rfl | rfl | rfl | rfl | rfl <;> rfl
    · have z' : ¬ nI w ≤ 5 := nI_ge (a := 5) (by omega) (by omega)
      rw [if_neg z, if_neg z']
      rcases q with rfl | rfl | rfl | rfl | rfl | rfl <;> rfl
  rw [hk]
  rfl
theorem th_height {σ : St_} {kd nu fl ni m : Nat} {ce cs cr : Cd_} (h : Th_ σ kd nu fl ni m ce cs cr) (p : Pm_ kd nu fl ni m ce cs cr) {on : Nat} (hon : on < 36) (near : Int32) : ∃ σ', f_X6_height 5000 σ 21 (nI on) near = some (he_ kd nu fl ni cr on near, σ') ∧ TX_ σ σ' := by
  have h0 := h
  obtain ⟨hX, h1, h2, h3, h4, h5, b, e, s, r, g1, q1, q2, q3, q4, g2, g3, g4, g5, a1, a2, a3⟩ := h
  obtain ⟨p1, p2, p3, p4, p5, p6, p7, p8⟩ := p
  obtain ⟨σ', e1, t⟩ := v_ok h0 q3 a3 p8 hon (w := 0)
  refine ⟨σ', ?_, t⟩
  unfold f_X6_height
  rw [g1]
  show (if kd_ σ b = 5 then _ else _) = _
  have e1' : f_X6_valueOf 5000 σ 21 r (nI on) 0 = some (va_l (nv6_ nu fl ni on 0) cr, σ') := e1
  rw [if_pos g2, dr_ok g5 a3.1, Option.bind_some, e1', Option.bind_some]
  simp only
  have k1 := (h0.congr t).2.1
  have hk : ∀ v, f_X6_heightOfKind σ' 21 v near = hk_ kd v near := fun v => by
    unfold f_X6_heightOfKind hk_
    rw [k1]
    have q : kd = 0 ∨ kd = 1 ∨ kd = 2 ∨ kd = 3 ∨ kd = 4 ∨ kd = 5 := by omega
    rcases q with rfl | rfl | rfl | rfl | rfl | rfl <;> rfl
  rw [hk]
  rfl
theorem lgc_1 (b : Bool) : (lg_cmp (if b then (1 : Int64) else 0) 1 = 0) ↔ b = true := by cases b <;> decide +kernel
theorem cel6 {j k : Nat} (hj : j < 6) (hk : k < 6) : nI k * 6 + nI j = nI (6 * k + j) ∧ 6 * nI k + nI j = nI (6 * k + j) := (show ∀ k, k < 6 → ∀ j, j < 6 → (nI k * 6 + nI j = nI (6 * k + j) ∧ 6 * nI k + nI j = nI (6 * k + j)) by decide +kernel) k hk j hj
theorem th_goal {σ : St_} {kd nu fl ni m : Nat} {ce cs cr : Cd_} (h : Th_ σ kd nu fl ni m ce cs cr) (p : Pm_ kd nu fl ni m ce cs cr) {on w : Nat} (hon : on < 36) (hw : w < 8) : ∃ σ', f_X6_goal 5000 σ 21 (nI on) (nI w) = some (nI (gt_ kd nu fl ni m ce cs on w), σ') ∧ TX_ σ σ' := by
  obtain ⟨σ1, e1, t1⟩ := th_east h p hon hw
  obtain ⟨σ2, e2, t2⟩ := th_south (h.congr t1) p hon hw
  obtain ⟨r1, r2⟩ := rem6 on hon
  have hw2 := (h.congr (t1.trans t2)).2.2.1
  have hm := p.2.2.2.2.1
  unfold f_X6_goal gt_
  rw [e1, Option.bind_some]
  simp only
  rw [r1, r2]
  generalize hx : nI (on % 6) + ea_ kd nu fl ni ce on w = x at *
  rcases bel_c x (n := 6) (by omega) with z | ⟨j, hj, rfl⟩
  · rw [if_pos (show f_X8_isBelow x 6 = 0 from z), if_pos (show f_X8_isBelow x 6 = 0 from z)]
    exact ⟨σ1, rfl, t1⟩
  have bj : ¬ f_X8_isBelow (nI j) 6 = 0 := bel_n (n := 6) hj (by omega)
  rw [if_neg bj, if_neg bj, e2, Option.bind_some]
  simp only
  generalize hy : nI (on / 6) + so_ kd nu fl ni cs on w = y at *
  rcases bel_c y (n := 6) (by omega) with z | ⟨k, hk, rfl⟩
  · rw [if_pos (show f_X8_isBelow y 6 = 0 from z), if_pos (show f_X8_isBelow y 6 = 0 from z)]
    exact ⟨σ2, rfl, t1.trans t2⟩
  have bk : ¬ f_X8_isBelow (nI k) 6 = 0 := bel_n (n := 6) hk (by omega)
  rw [if_neg bk, if_neg bk, nI_clamp (by omega), nI_clamp (by omega), (cel6 hj hk).1, hw2, wal_b hm (by omega)]
  by_cases b : m.testBit (6 * k + j) = true
  · rw [if_pos ((lgc_1 _).mpr b), if_pos b]
    exact ⟨σ2, rfl, t1.trans t2⟩
  · rw [if_neg (fun q => b ((lgc_1 _).mp q)), if_neg b]
    exact ⟨σ2, rfl, t1.trans t2⟩
