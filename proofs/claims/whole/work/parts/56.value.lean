/-! CODE IS WORKED OUT, HERE -/
def re_ (env : Nat → Int32) (o arg : Nat) (x y : Int32) : Int32 := match o with
  | 0 => nI arg
  | 1 => env arg
  | 2 => if x = 0 then 1 else 0
  | 3 => -x
  | 4 => if x ≠ 0 ∨ y ≠ 0 then 1 else 0
  | 5 => if x ≠ 0 ∧ y ≠ 0 then 1 else 0
  | 6 => if x < y then 1 else 0
  | 7 => if x = y then 1 else 0
  | 8 => x + y
  | 9 => x - y
  | _ => x * y
theorem v_step {σ1 : St_} (hX : ShX_ σ1) (k33 : St_ → Nat → Nat → Int32 → Int32 → Option (Int32 × St_)) (f : Nat → Int32) (a i o arg s : Nat) (ho : o ≤ 10) (ha : arg < 10000) (hn : o = 1 → arg < 6) (hs : pp_ o ≤ s) (h80 : s - pp_ o + 1 < 80) :
    f_X6_valueOf_80 5000 k33 (uw_ σ1 23 f) 21 a (nI i) (nI o) (nI arg) (nI s) (nI (pp_ o)) = k33 (uw_ σ1 23 (upd f (s - pp_ o) (re_ (si_ σ1 22) o arg (f (s - pp_ o)) (f (s - pp_ o + 1))))) 21 a (nI (s - pp_ o + 1)) (nI (i + 1)) := by
  have hp2 : pp_ o ≤ 2 := by unfold pp_; split <;> (try split) <;> omega
  have e : nI s - nI (pp_ o) = nI (s - pp_ o) := by
    have : nI s = nI (s - pp_ o) + nI (pp_ o) := by rw [nI_add]; congr 1; omega
    rw [this, Int32.add_sub_cancel]
  unfold f_X6_valueOf_80
  rw [e]
  generalize s - pp_ o = p at *
  have d1 : dr_ (uw_ σ1 23 f) 10 (sr_ (uw_ σ1 23 f) 21 1) = some 23 := dx_21_1 hX
  have d0 : dr_ (uw_ σ1 23 f) 10 (sr_ (uw_ σ1 23 f) 21 0) = some 22 := dx_21_0 hX
  have l1 : ln_ (uw_ σ1 23 f) 23 = 80 := lx_23 hX
  have l0 : ln_ (uw_ σ1 23 f) 22 = 6 := lx_22 hX
  have r1 : ∀ j, si_ (uw_ σ1 23 f) 23 j = f j := fun j => by rw [si_uw]
  have r0 : ∀ j, si_ (uw_ σ1 23 f) 22 j = si_ σ1 22 j := fun j => rfl
  rw [if_neg (nI_pos (by omega)), d1, Option.bind_some, l1, nI_1, if_neg (nI_ge (by omega) (by omega)), if_pos (nI_pos' (by omega)), ix_ok (by omega) (by omega), ix_ok (by omega) (by omega)]
  unfold f_X6_valueOf_396
  simp only [Option.bind_some, d0, l0, r1, r0, ui_uw, nI_1]
  have q : o = 0 ∨ o = 1 ∨ o = 2 ∨ o = 3 ∨ o = 4 ∨ o = 5 ∨ o = 6 ∨ o = 7 ∨ o = 8 ∨ o = 9 ∨ o = 10 := by omega
  rcases q with rfl | rfl | rfl | rfl | rfl | rfl | rfl | rfl | rfl | rfl | rfl
  · rfl
  · have h6 := hn rfl
    rw [if_neg (by decide), if_pos (show nI 1 = 1 from rfl), if_neg (nI_ge (by omega) (by omega)), ix_ok (by omega) (by omega)]
    rfl
  · rw [if_neg (by decide), if_neg (by decide), if_pos (show nI 2 = 2 from rfl)]
    show _ = k33 (uw_ σ1 23 (upd f p (if f p = 0 then 1 else 0))) 21 a (nI (p + 1)) (nI (i + 1))
    split <;> rfl
  · rfl
  · rw [if_neg (by decide), if_neg (by decide), if_neg (by decide), if_neg (by decide), if_pos (show nI 4 = 4 from rfl)]
    show _ = k33 (uw_ σ1 23 (upd f p (if f p ≠ 0 ∨ f (p + 1) ≠ 0 then 1 else 0))) 21 a (nI (p + 1)) (nI (i + 1))
    by_cases z1 : f p = 0
    · rw [if_pos z1]
      by_cases z2 : f (p + 1) = 0
      · rw [if_pos z2, if_neg (fun z => z.elim (fun w => w z1) (fun w => w z2))]
      · rw [if_neg z2, if_pos (Or.inr z2)]
    · rw [if_neg z1, if_pos (Or.inl z1)]
  · rw [if_neg (by decide), if_neg (by decide), if_neg (by decide), if_neg (by decide), if_neg (by decide), if_pos (show nI 5 = 5 from rfl)]
    show _ = k33 (uw_ σ1 23 (upd f p (if f p ≠ 0 ∧ f (p + 1) ≠ 0 then 1 else 0))) 21 a (nI (p + 1)) (nI (i + 1))
    by_cases z1 : f p = 0
    · rw [if_pos z1, if_neg (fun z => z.1 z1)]
    · rw [if_neg z1]
      by_cases z2 : f (p + 1) = 0
      · rw [if_pos z2, if_neg (fun z => z.2 z2)]
      · rw [if_neg z2, if_pos ⟨z1, z2⟩]
  · rw [if_neg (by decide), if_neg (by decide), if_neg (by decide), if_neg (by decide), if_neg (by decide), if_neg (by decide), if_pos (show nI 6 = 6 from rfl)]
    show _ = k33 (uw_ σ1 23 (upd f p (if f p < f (p + 1) then 1 else 0))) 21 a (nI (p + 1)) (nI (i + 1))
    by_cases z : f (p + 1) ≤ f p
    · rw [if_pos z, if_neg (fun w => by rw [Int32.lt_iff_toInt_lt] at w; rw [Int32.le_iff_toInt_le] at z; omega)]
    · rw [if_neg z, if_pos (by rw [Int32.lt_iff_toInt_lt]; rw [Int32.le_iff_toInt_le] at z; omega)]
  · rw [if_neg (by decide), if_neg (by decide), if_neg (by decide), if_neg (by decide), if_neg (by decide), if_neg (by decide), if_neg (by decide), if_pos (show nI 7 = 7 from rfl)]
    show _ = k33 (uw_ σ1 23 (upd f p (if f p = f (p + 1) then 1 else 0))) 21 a (nI (p + 1)) (nI (i + 1))
    split <;> rfl
  · rfl
  · rfl
  · rfl
/-- the stack as a list -/
def Sk_ (f : Nat → Int32) (st : List Int32) : Prop := ∀ i, i < st.length → f (st.length - 1 - i) = st.getD i 0
theorem sk_push {f : Nat → Int32} {r : List Int32} (v : Int32) (h : ∀ i, i < r.length → f (r.length - 1 - i) = r.getD i 0) : Sk_ (upd f r.length v) (v :: r) := by
  intro i hi
  simp at hi
  rw [upd_g]
  cases i with
  | zero => simp
  | succ i =>
    rw [if_neg (by simp; omega)]
    have := h i (by omega)
    simp only [List.length_cons, List.getD_cons_succ]
    rw [← this]
    congr 1
    omega
/-- one step on the list and on the array -/
theorem sk_e1 (env : Nat → Int32) {f : Nat → Int32} {st : List Int32} (h : Sk_ f st) (o arg : Nat) (ho : o ≤ 10) (hs : pp_ o ≤ st.length) : Sk_ (upd f (st.length - pp_ o) (re_ env o arg (f (st.length - pp_ o)) (f (st.length - pp_ o + 1)))) (e1_ env (o, arg) st) ∧ (e1_ env (o, arg) st).length = st.length - pp_ o + 1 := by
  have tail1 : ∀ {x : Int32} {r : List Int32}, Sk_ f (x :: r) → (f r.length = x ∧ ∀ i, i < r.length → f (r.length - 1 - i) = r.getD i 0) := fun {x r} h => by
    refine ⟨?_, fun i hi => ?_⟩
    · have := h 0 (by simp)
      simpa using this
    · have := h (i + 1) (by simp; omega)
      simp only [List.length_cons, List.getD_cons_succ] at this
      rw [← this]
      congr 1
      omega
  have q : o = 0 ∨ o = 1 ∨ o = 2 ∨ o = 3 ∨ (4 ≤ o ∧ o ≤ 10) := by omega
  rcases q with rfl | rfl | rfl | rfl | q
  · exact ⟨sk_push (nI arg) h, rfl⟩
  · exact ⟨sk_push (env arg) h, rfl⟩
  · cases st with
    | nil => exact absurd hs (by decide)
    | cons x r =>
      obtain ⟨h1, h2⟩ := tail1 h
      have e : (x :: r).length - pp_ 2 = r.length := rfl
      rw [e, h1]
      exact ⟨sk_push _ h2, rfl⟩
  · cases st with
    | nil => exact absurd hs (by decide)
    | cons x r =>
      obtain ⟨h1, h2⟩ := tail1 h
      have e : (x :: r).length - pp_ 3 = r.length := rfl
      rw [e, h1]
      exact ⟨sk_push _ h2, rfl⟩
  · have hp : pp_ o = 2 := by unfold pp_; rw [if_pos q.1]
    rw [hp] at hs ⊢
    cases st with
    | nil => exact absurd hs (by simp)
    | cons y st =>
      cases st with
      | nil => exact absurd hs (by simp)
      | cons x r =>
        obtain ⟨h1, h2⟩ := tail1 h
        obtain ⟨h3, h4⟩ := tail1 (show Sk_ f (x :: r) from h2)
        have e : (y :: x :: r).length - 2 = r.length := rfl
        have h1' : f (r.length + 1) = y := h1
        rw [e, h3, h1']
        have ev : e1_ env (o, arg) (y :: x :: r) = re_ env o arg x y :: r := by
          have : o = 4 ∨ o = 5 ∨ o = 6 ∨ o = 7 ∨ o = 8 ∨ o = 9 ∨ o = 10 := by omega
          rcases this with rfl | rfl | rfl | rfl | rfl | rfl | rfl <;> rfl
        rw [ev]
        exact ⟨sk_push _ h4, rfl⟩
theorem en_and (s : Nat × Nat) (h : s.1 ≤ 10) : en_ s &&& 15 = nI s.1 := by
  unfold en_
  rw [show (15 : Int32) = nI 15 from rfl, nx_and, show 15 = 2 ^ 4 - 1 from rfl, Nat.and_two_pow_sub_one_eq_mod]
  congr 1
  omega
theorem en_shr (s : Nat × Nat) (h : s.1 ≤ 10) (h2 : s.2 < 10000) : en_ s >>> ((4 : Int32) &&& 31) = nI s.2 := by
  unfold en_
  rw [pk_shrN (by omega) ((4 : Int32) &&& 31) 4 (by decide +kernel)]
  congr 1
  omega
theorem v_go {σ1 : St_} (hX : ShX_ σ1) {a : Nat} (ha : 49 ≤ a) {c : Cd_} (har : Ar_ σ1 a c) (hl : c.length ≤ 160) (hw : ∀ s ∈ c, s.1 ≤ 10 ∧ s.2 < 10000 ∧ (s.1 = 1 → s.2 < 6)) : ∀ (c' : Cd_) (i g : Nat) (f : Nat → Int32) (st : List Int32) (e : Nat), c.drop i = c' → i + c'.length = c.length → c'.length < g → Sk_ f st → ok_ st.length c' e →
    ∃ f', f_X6_valueOf_33 5000 g (uw_ σ1 23 f) 21 a (nI st.length) (nI i) = some (f' 0, uw_ σ1 23 f') ∧ Sk_ f' (ev_ (si_ σ1 22) c' st) := by
  intro c'
  induction c' with
  | nil =>
    intro i g f st e h1 h2 h3 h4 h5
    obtain ⟨g, rfl⟩ : ∃ g', g = g' + 1 := ⟨g - 1, by omega⟩
    refine ⟨f, ?_, h4⟩
    show (if nI (ln_ σ1 a) ≤ nI i then (dr_ σ1 10 (sr_ σ1 21 1)).bind fun b2 => (ix_ (0 : Int32) (ln_ σ1 b2)).bind fun j3 => some (si_ (uw_ σ1 23 f) b2 j3, uw_ σ1 23 f) else _) = _
    rw [har.2.1, if_pos (nI_le (by simp at h2; omega) (by simp at h2; omega)), dx_21_1 hX, Option.bind_some, lx_23 hX, show ix_ (0 : Int32) 80 = some 0 from ix_ok (j := 0) (by omega) (by omega), Option.bind_some, si_uw]
  | cons s c' ih =>
    intro i g f st e h1 h2 h3 h4 h5
    obtain ⟨g, rfl⟩ : ∃ g', g = g' + 1 := ⟨g - 1, by omega⟩
    simp only [List.length_cons] at h2 h3
    have hi : i < c.length := by omega
    have hd : c.getD i (0, 0) = s := by
      rw [List.getD_eq_getElem?_getD]
      have : (c.drop i)[0]? = some s := by rw [h1]; rfl
      rw [List.getElem?_drop, Nat.add_zero] at this
      rw [this]
      rfl
    have hm : s ∈ c := by
      have : s ∈ c.drop i := by rw [h1]; exact List.mem_cons_self
      exact List.mem_of_mem_drop this
    obtain ⟨w1, w2, w3⟩ := hw s hm
    have hval : si_ (uw_ σ1 23 f) a i = en_ s := by
      rw [g_si_uw, if_neg (by omega), har.2.2 i hi, hd]
    obtain ⟨o1, o2, o3⟩ := h5
    have st0 : f_X6_valueOf_33 5000 (g + 1) (uw_ σ1 23 f) 21 a (nI st.length) (nI i) = f_X6_valueOf_80 5000 (f_X6_valueOf_33 5000 g) (uw_ σ1 23 f) 21 a (nI i) (nI s.1) (nI s.2) (nI st.length) (nI (pp_ s.1)) := by
      show (if nI (ln_ σ1 a) ≤ nI i then _ else (ix_ (nI i) (ln_ σ1 a)).bind fun j4 => (ix_ (nI i) (ln_ σ1 a)).bind fun j5 => if ((si_ (uw_ σ1 23 f) a j4) &&& (15 : Int32)) < (4 : Int32) then if ((si_ (uw_ σ1 23 f) a j4) &&& (15 : Int32)) < (2 : Int32) then f_X6_valueOf_80 5000 (f_X6_valueOf_33 5000 g) (uw_ σ1 23 f) 21 a (nI i) ((si_ (uw_ σ1 23 f) a j4) &&& (15 : Int32)) ((si_ (uw_ σ1 23 f) a j5) >>> ((4 : Int32) &&& 31)) (nI st.length) (0 : Int32) else f_X6_valueOf_80 5000 (f_X6_valueOf_33 5000 g) (uw_ σ1 23 f) 21 a (nI i) ((si_ (uw_ σ1 23 f) a j4) &&& (15 : Int32)) ((si_ (uw_ σ1 23 f) a j5) >>> ((4 : Int32) &&& 31)) (nI st.length) (1 : Int32) else f_X6_valueOf_80 5000 (f_X6_valueOf_33 5000 g) (uw_ σ1 23 f) 21 a (nI i) ((si_ (uw_ σ1 23 f) a j4) &&& (15 : Int32)) ((si_ (uw_ σ1 23 f) a j5) >>> ((4 : Int32) &&& 31)) (nI st.length) (2 : Int32)) = _
      rw [har.2.1, if_neg (nI_ge hi (by omega)), ix_ok hi (by omega), Option.bind_some, Option.bind_some, hval, en_and s w1, en_shr s w1 w2]
      unfold pp_
      by_cases z4 : 4 ≤ s.1
      · rw [if_pos z4, if_neg (show ¬ nI s.1 < (4 : Int32) from nI_nlt (b := 4) z4 (by omega))]
        rfl
      · rw [if_neg z4, if_pos (show nI s.1 < (4 : Int32) from nI_lt (b := 4) (by omega) (by omega))]
        by_cases z2 : 2 ≤ s.1
        · rw [if_pos z2, if_neg (show ¬ nI s.1 < (2 : Int32) from nI_nlt (b := 2) z2 (by omega))]
          rfl
        · rw [if_neg z2, if_pos (show nI s.1 < (2 : Int32) from nI_lt (b := 2) (by omega) (by omega))]
          rfl
    rw [st0, v_step hX _ f a i s.1 s.2 st.length w1 w2 w3 o1 o2]
    obtain ⟨k1, k2⟩ := sk_e1 (si_ σ1 22) h4 s.1 s.2 w1 o1
    have w := ih (i + 1) g _ (e1_ (si_ σ1 22) s st) e (by rw [← List.drop_drop, h1]; rfl) (by omega) (by omega) k1 (by rw [show e1_ (si_ σ1 22) s st = e1_ (si_ σ1 22) (s.1, s.2) st from rfl, k2]; exact o3)
    rw [show (e1_ (si_ σ1 22) s st).length = st.length - pp_ s.1 + 1 from k2] at w
    exact w
theorem v_all {σ1 : St_} (hX : ShX_ σ1) {a : Nat} (ha : 49 ≤ a) {c : Cd_} (har : Ar_ σ1 a c) {m : Nat} (hg : Gd_ c m) (hm : m ≤ 158) : ∃ f, f_X6_valueOf_33 5000 5000 σ1 21 a 0 0 = some (va_l (si_ σ1 22) c, uw_ σ1 23 f) := by
  have hl := hg.2.1
  obtain ⟨f', e1, e2⟩ := v_go hX ha har (by omega) hg.2.2.1 c 0 5000 (si_ σ1 23) [] 1 (by simp) (by simp) (by omega) (fun i hi => absurd hi (by simp)) (hg.2.2.2.1 0 (by omega))
  rw [uw_id] at e1
  rw [hg.2.2.2.2] at e2
  have := e2 0 (by simp)
  simp only [List.length_cons, List.length_nil] at this
  have e3 : f' 0 = va_l (si_ σ1 22) c := this
  rw [e3] at e1
  exact ⟨f', e1⟩
