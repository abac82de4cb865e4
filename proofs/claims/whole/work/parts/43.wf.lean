/-! THE CODE THAT THE PARSER GIVES IS GOOD -/
def pp_ (o : Nat) : Nat := if 4 ≤ o then 2 else if 2 ≤ o then 1 else 0
def ok_ : Nat → Cd_ → Nat → Prop
  | s, [], e => s = e
  | s, x :: c, e => pp_ x.1 ≤ s ∧ s - pp_ x.1 + 1 < 80 ∧ ok_ (s - pp_ x.1 + 1) c e
theorem ok_app {c2 : Cd_} {e1 e2 : Nat} : ∀ (c1 : Cd_) (s : Nat), ok_ s c1 e1 → ok_ e1 c2 e2 → ok_ s (c1 ++ c2) e2
  | [], s, h1, h2 => by have : s = e1 := h1; subst this; exact h2
  | x :: c1, s, h1, h2 => ⟨h1.1, h1.2.1, ok_app c1 _ h1.2.2 h2⟩
theorem ev_app (env : Nat → Int32) (c2 : Cd_) : ∀ (c1 : Cd_) (st : List Int32), ev_ env (c1 ++ c2) st = ev_ env c2 (ev_ env c1 st)
  | [], st => rfl
  | x :: c1, st => ev_app env c2 c1 (e1_ env x st)
/-- good code of m tokens -/
def Gd_ (c : Cd_) (m : Nat) : Prop := 1 ≤ m ∧ c.length ≤ m ∧ (∀ s ∈ c, s.1 ≤ 10 ∧ s.2 < 10000 ∧ (s.1 = 1 → s.2 < 6)) ∧ (∀ s, s + (m - 1) / 2 ≤ 78 → ok_ s c (s + 1)) ∧ ∀ env st, ev_ env c st = va_l env c :: st
theorem gd_0 {v : Nat} (h : v < 10000) : Gd_ [(0, v)] 1 := by
  refine ⟨by omega, by simp, ?_, ?_, fun env st => rfl⟩
  · intro s hs
    simp at hs
    subst hs
    exact ⟨by omega, h, by simp⟩
  · intro s hs
    exact ⟨by simp [pp_], by simp [pp_]; omega, by simp [pp_, ok_]⟩
theorem gd_1 {v : Nat} (h : v < 6) : Gd_ [(1, v)] 1 := by
  refine ⟨by omega, by simp, ?_, ?_, fun env st => rfl⟩
  · intro s hs
    simp at hs
    subst hs
    exact ⟨by omega, by omega, fun _ => h⟩
  · intro s hs
    exact ⟨by simp [pp_], by simp [pp_]; omega, by simp [pp_, ok_]⟩
theorem Gd_.mono {c : Cd_} {m m' : Nat} (h : Gd_ c m) (hm : m ≤ m') : Gd_ c m' := by
  have := h.1
  refine ⟨by omega, ?_, h.2.2.1, fun s hs => h.2.2.2.1 s ?_, h.2.2.2.2⟩
  · have := h.2.1; omega
  · have : (m - 1) / 2 ≤ (m' - 1) / 2 := Nat.div_le_div_right (by omega)
    omega
/-- what one and two operands become -/
def u1_ (o : Nat) (a : Int32) : Int32 := if o = 2 then (if a = 0 then 1 else 0) else -a
def u2_ (o : Nat) (a b : Int32) : Int32 := match o with
  | 4 => if a ≠ 0 ∨ b ≠ 0 then 1 else 0
  | 5 => if a ≠ 0 ∧ b ≠ 0 then 1 else 0
  | 6 => if a < b then 1 else 0
  | 7 => if a = b then 1 else 0
  | 8 => a + b
  | 9 => a - b
  | _ => a * b
theorem va_un {c : Cd_} {m : Nat} (h : Gd_ c m) (o : Nat) (ho : o = 2 ∨ o = 3) (env : Nat → Int32) (st : List Int32) : ev_ env (c ++ [(o, 0)]) st = u1_ o (va_l env c) :: st := by
  rw [ev_app, h.2.2.2.2]
  rcases ho with rfl | rfl
  · rfl
  · rfl
theorem va_bi {c1 c2 : Cd_} {m1 m2 : Nat} (h1 : Gd_ c1 m1) (h2 : Gd_ c2 m2) (o : Nat) (ho : 4 ≤ o ∧ o ≤ 10) (env : Nat → Int32) (st : List Int32) : ev_ env (c1 ++ c2 ++ [(o, 0)]) st = u2_ o (va_l env c1) (va_l env c2) :: st := by
  rw [ev_app, ev_app, h1.2.2.2.2, h2.2.2.2.2]
  have : o = 4 ∨ o = 5 ∨ o = 6 ∨ o = 7 ∨ o = 8 ∨ o = 9 ∨ o = 10 := by omega
  rcases this with rfl | rfl | rfl | rfl | rfl | rfl | rfl <;> rfl
theorem vl_un {c : Cd_} {m : Nat} (h : Gd_ c m) (o : Nat) (ho : o = 2 ∨ o = 3) (env : Nat → Int32) : va_l env (c ++ [(o, 0)]) = u1_ o (va_l env c) := by
  show (ev_ env (c ++ [(o, 0)]) []).headD 0 = _
  rw [va_un h o ho]
  rfl
theorem vl_bi {c1 c2 : Cd_} {m1 m2 : Nat} (h1 : Gd_ c1 m1) (h2 : Gd_ c2 m2) (o : Nat) (ho : 4 ≤ o ∧ o ≤ 10) (env : Nat → Int32) : va_l env (c1 ++ c2 ++ [(o, 0)]) = u2_ o (va_l env c1) (va_l env c2) := by
  show (ev_ env (c1 ++ c2 ++ [(o, 0)]) []).headD 0 = _
  rw [va_bi h1 h2 o ho]
  rfl
theorem gd_un {c : Cd_} {m : Nat} (h : Gd_ c m) (o : Nat) (ho : o = 2 ∨ o = 3) : Gd_ (c ++ [(o, 0)]) (m + 1) := by
  refine ⟨by omega, ?_, ?_, ?_, ?_⟩
  · have := h.2.1; simp; omega
  · intro s hs
    rcases List.mem_append.mp hs with hs | hs
    · exact h.2.2.1 s hs
    · simp at hs; subst hs; exact ⟨by omega, by omega, by omega⟩
  · intro s hs
    have h1 := h.1
    have : pp_ o = 1 := by rcases ho with rfl | rfl <;> rfl
    refine ok_app c s (h.2.2.2.1 s (by omega)) ⟨?_, ?_, ?_⟩ <;> simp only [this]
    · omega
    · omega
    · show _ = _; omega
  · intro env st
    rw [va_un h o ho, vl_un h o ho]
theorem gd_bi {c1 c2 : Cd_} {m1 m2 : Nat} (h1 : Gd_ c1 m1) (h2 : Gd_ c2 m2) (o : Nat) (ho : 4 ≤ o ∧ o ≤ 10) : Gd_ (c1 ++ c2 ++ [(o, 0)]) (m1 + 1 + m2) := by
  have q1 := h1.1
  have q2 := h2.1
  refine ⟨by omega, ?_, ?_, ?_, ?_⟩
  · have := h1.2.1; have := h2.2.1; simp; omega
  · intro s hs
    rcases List.mem_append.mp hs with hs | hs
    · rcases List.mem_append.mp hs with hs | hs
      · exact h1.2.2.1 s hs
      · exact h2.2.2.1 s hs
    · simp at hs; subst hs; exact ⟨by omega, by omega, by omega⟩
  · intro s hs
    have : pp_ o = 2 := by unfold pp_; rw [if_pos ho.1]
    refine ok_app _ s (ok_app c1 s (h1.2.2.2.1 s (by omega)) (h2.2.2.2.1 (s + 1) (by omega))) ⟨?_, ?_, ?_⟩ <;> simp only [this]
    · omega
    · omega
    · show _ = _; omega
  · intro env st
    rw [va_bi h1 h2 o ho, vl_bi h1 h2 o ho]
def To_ (ts : List Tk_) : Prop := ∀ x ∈ ts, x.1 = 2 → x.2.2 < 10000
theorem To_.app {a b : List Tk_} (h : To_ (a ++ b)) : To_ b := fun x hx => h x (List.mem_append_right a hx)
/-- a good parser: it stops at a later place, its code is good -/
def Wp_ (P : List Tk_ → PR_) : Prop := ∀ ts, To_ ts → ∃ pre, ts = pre ++ (P ts).2 ∧ ∀ c, (P ts).1 = some c → Gd_ c pre.length
theorem wp_one {can : Bool} {nOr nOne : List Tk_ → PR_} (h1 : can = true → Wp_ nOr) (h2 : can = true → Wp_ nOne) : Wp_ (pOne_ can nOr nOne) := by
  intro ts ht
  cases ts with
  | nil => exact ⟨[], rfl, fun c hc => by cases hc⟩
  | cons x r =>
    obtain ⟨t, pl, v⟩ := x
    unfold pOne_
    simp only
    by_cases a1 : t = 2
    · rw [if_pos a1]
      exact ⟨[(t, pl, v)], rfl, fun c hc => by cases hc; exact gd_0 (ht _ List.mem_cons_self a1)⟩
    rw [if_neg a1]
    by_cases a2 : 16 ≤ t ∧ t < 22
    · rw [if_pos a2]
      exact ⟨[(t, pl, v)], rfl, fun c hc => by cases hc; exact gd_1 (by omega)⟩
    rw [if_neg a2]
    have hr : To_ r := fun x hx => ht x (List.mem_cons_of_mem _ hx)
    by_cases a3 : t = 45 ∧ can = true
    · rw [if_pos a3]
      obtain ⟨pre, e, hg⟩ := h2 a3.2 r hr
      rcases hq : nOne r with ⟨_ | c, r'⟩
      · rw [hq] at e
        exact ⟨(t, pl, v) :: pre, by simp only at e ⊢; rw [e]; rfl, fun c hc => by cases hc⟩
      · rw [hq] at e hg
        refine ⟨(t, pl, v) :: pre, by simp only at e ⊢; rw [e]; rfl, fun c' hc => ?_⟩
        cases hc
        exact gd_un (hg c rfl) 3 (Or.inr rfl)
    rw [if_neg a3]
    by_cases a4 : t = 40 ∧ can = true
    · rw [if_pos a4]
      obtain ⟨pre, e, hg⟩ := h1 a4.2 r hr
      rcases hq : nOr r with ⟨_ | c, r'⟩
      · rw [hq] at e
        exact ⟨(t, pl, v) :: pre, by simp only at e ⊢; rw [e]; rfl, fun c hc => by cases hc⟩
      · rw [hq] at e hg
        simp only at e hg ⊢
        by_cases a5 : hd_ r' = 41
        · rw [if_pos a5]
          cases r' with
          | nil => exact absurd a5 (by simp [hd_])
          | cons y r'' =>
            refine ⟨(t, pl, v) :: (pre ++ [y]), by rw [e]; simp, fun c' hc => ?_⟩
            cases hc
            exact (hg c rfl).mono (by simp; omega)
        · rw [if_neg a5]
          exact ⟨(t, pl, v) :: pre, by rw [e]; rfl, fun c hc => by cases hc⟩
    rw [if_neg a4]
    exact ⟨[], rfl, fun c hc => by cases hc⟩
theorem wp_loop {sg : Nat → Bool} {op : Nat → Nat} {f : List Tk_ → PR_} (hs : sg 0 = false) (ho : ∀ t, 4 ≤ op t ∧ op t ≤ 10) (hf : Wp_ f) : ∀ (k : Nat) (acc : Cd_) (ts : List Tk_) (m : Nat), To_ ts → Gd_ acc m → ∃ pre, ts = pre ++ (pLoop_ sg op f k acc ts).2 ∧ ∀ c, (pLoop_ sg op f k acc ts).1 = some c → Gd_ c (m + pre.length) := by
  intro k
  induction k with
  | zero => intro acc ts m ht ha; exact ⟨[], rfl, fun c hc => by cases hc; exact ha⟩
  | succ k ih =>
    intro acc ts m ht ha
    unfold pLoop_
    by_cases a : sg (hd_ ts) = true
    · rw [if_pos a]
      cases ts with
      | nil => rw [show hd_ [] = 0 from rfl, hs] at a; cases a
      | cons x r =>
        have hr : To_ r := fun x hx => ht x (List.mem_cons_of_mem _ hx)
        obtain ⟨pre, e, hg⟩ := hf r hr
        simp only [List.tail_cons]
        rcases hq : f r with ⟨_ | c, r'⟩
        · rw [hq] at e
          exact ⟨x :: pre, by simp only at e ⊢; rw [e]; rfl, fun c hc => by cases hc⟩
        · rw [hq] at e hg
          simp only at e hg ⊢
          obtain ⟨pre2, e2, hg2⟩ := ih (acc ++ c ++ [(op (hd_ (x :: r)), 0)]) r' (m + 1 + pre.length) (by rw [e] at hr; exact hr.app) (gd_bi ha (hg c rfl) _ (ho _))
          refine ⟨x :: (pre ++ pre2), ?_, fun c' hc => ?_⟩
          · rw [List.cons_append, List.append_assoc, ← e2, ← e]
          · have := hg2 c' hc
            have e3 : m + 1 + pre.length + pre2.length = m + (x :: (pre ++ pre2)).length := by simp; omega
            rw [← e3]
            exact this
    · rw [if_neg a]
      exact ⟨[], rfl, fun c hc => by cases hc; exact ha⟩
theorem wp_many {sg : Nat → Bool} {op : Nat → Nat} {f : List Tk_ → PR_} (hs : sg 0 = false) (ho : ∀ t, 4 ≤ op t ∧ op t ≤ 10) (hf : Wp_ f) : Wp_ (pMany_ sg op f) := by
  intro ts ht
  obtain ⟨pre, e, hg⟩ := hf ts ht
  unfold pMany_
  rcases hq : f ts with ⟨_ | c, r'⟩
  · rw [hq] at e
    exact ⟨pre, e, fun c hc => by cases hc⟩
  · rw [hq] at e hg
    simp only at e hg ⊢
    obtain ⟨pre2, e2, hg2⟩ := wp_loop hs ho hf r'.length c r' pre.length (by rw [e] at ht; exact ht.app) (hg c rfl)
    refine ⟨pre ++ pre2, by rw [List.append_assoc, ← e2]; exact e, fun c' hc => ?_⟩
    rw [List.length_append]
    exact hg2 c' hc
theorem wp_cmp {f : List Tk_ → PR_} (hf : Wp_ f) : Wp_ (pCmp_ f) := by
  intro ts ht
  obtain ⟨pre, e, hg⟩ := hf ts ht
  unfold pCmp_
  rcases hq : f ts with ⟨_ | c, r⟩
  · rw [hq] at e
    exact ⟨pre, e, fun c hc => by cases hc⟩
  · rw [hq] at e hg
    simp only at e hg ⊢
    by_cases a : hd_ r = 60 ∨ hd_ r = 61
    · rw [if_pos a]
      cases r with
      | nil => exact absurd a (by simp [hd_])
      | cons x r =>
        obtain ⟨pre2, e2, hg2⟩ := hf r (by rw [e] at ht; exact fun y hy => ht y (by simp [hy]))
        simp only [List.tail_cons]
        rcases hq2 : f r with ⟨_ | c2, r2⟩
        · rw [hq2] at e2
          exact ⟨pre ++ x :: pre2, by rw [e]; simp only at e2 ⊢; rw [e2]; simp, fun c hc => by cases hc⟩
        · rw [hq2] at e2 hg2
          simp only at e2 hg2 ⊢
          refine ⟨pre ++ x :: pre2, by rw [e, e2]; simp, fun c' hc => ?_⟩
          cases hc
          have := gd_bi (hg c rfl) (hg2 c2 rfl) (if hd_ (x :: r) = 60 then 6 else 7) (by split <;> omega)
          have e3 : pre.length + 1 + pre2.length = (pre ++ x :: pre2).length := by simp; omega
          rw [← e3]
          exact this
    · rw [if_neg a]
      exact ⟨pre, e, fun c' hc => by cases hc; exact hg c rfl⟩
theorem wp_not {can : Bool} {nNot f : List Tk_ → PR_} (h1 : can = true → Wp_ nNot) (hf : Wp_ f) : Wp_ (pNot_ can nNot f) := by
  intro ts ht
  unfold pNot_
  by_cases a : hd_ ts = 9
  · rw [if_pos a]
    cases ts with
    | nil => exact absurd a (by simp [hd_])
    | cons x r =>
      by_cases b : can = true
      · rw [if_pos b]
        obtain ⟨pre, e, hg⟩ := h1 b r (fun y hy => ht y (List.mem_cons_of_mem _ hy))
        simp only [List.tail_cons]
        rcases hq : nNot r with ⟨_ | c, r'⟩
        · rw [hq] at e
          exact ⟨x :: pre, by simp only at e ⊢; rw [e]; rfl, fun c hc => by cases hc⟩
        · rw [hq] at e hg
          refine ⟨x :: pre, by simp only at e ⊢; rw [e]; rfl, fun c' hc => ?_⟩
          cases hc
          exact gd_un (hg c rfl) 2 (Or.inl rfl)
      · rw [if_neg b]
        exact ⟨[], rfl, fun c hc => by cases hc⟩
  · rw [if_neg a]
    exact hf ts ht
theorem wp_sum {one : List Tk_ → PR_} (h : Wp_ one) : Wp_ (pSum_ one) := wp_many rfl (fun t => by split <;> omega) (wp_many rfl (fun t => by omega) h)
theorem wp_n {can : Bool} {nNot one : List Tk_ → PR_} (h1 : can = true → Wp_ nNot) (h : Wp_ one) : Wp_ (pN_ can nNot one) := wp_not h1 (wp_cmp (wp_sum h))
theorem wp_and {can : Bool} {nNot one : List Tk_ → PR_} (h1 : can = true → Wp_ nNot) (h : Wp_ one) : Wp_ (pAnd_ can nNot one) := wp_many rfl (fun t => by omega) (wp_n h1 h)
theorem wp_or {can : Bool} {nNot one : List Tk_ → PR_} (h1 : can = true → Wp_ nNot) (h : Wp_ one) : Wp_ (pOr_ can nNot one) := wp_many rfl (fun t => by omega) (wp_and h1 h)
theorem wp_lv : ∀ d, Wp_ (lv_s d).1 ∧ Wp_ (lv_s d).2.1 ∧ Wp_ (lv_s d).2.2 := by
  intro d
  induction d with
  | zero =>
    have h : Wp_ (pOne_ false pNo_ pNo_) := wp_one (fun z => by cases z) (fun z => by cases z)
    exact ⟨wp_or (fun z => by cases z) h, wp_n (fun z => by cases z) h, h⟩
  | succ d ih =>
    have h : Wp_ (pOne_ true (lv_s d).1 (lv_s d).2.2) := wp_one (fun _ => ih.1) (fun _ => ih.2.2)
    exact ⟨wp_or (fun _ => ih.2.1) h, wp_n (fun _ => ih.2.1) h, h⟩
