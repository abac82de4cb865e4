/-! SHAPES: the objects of both, as the constructors leave them -/
def kX_ (r : Nat) : Nat := [8, 1, 13, 0, 0, 0, 0, 1, 13, 0, 0, 0, 0, 3, 10, 10, 10, 10, 10, 15, 14, 6, 10, 10, 7, 10, 10, 10, 10, 10, 7, 10, 10, 10, 10, 10, 2, 10, 11, 11, 11, 4, 10, 4, 10, 4, 10, 4, 10].getD r 99
def lX_ (r : Nat) : Nat := [0, 0, 4, 0, 0, 0, 0, 0, 4, 0, 0, 0, 0, 0, 160, 160, 160, 160, 160, 6, 4, 0, 6, 80, 0, 36, 36, 36, 36, 288, 0, 36, 36, 36, 36, 288, 0, 1296, 36, 36, 36, 0, 40, 0, 40, 0, 40, 0, 40].getD r 0
/-- the references that never change: object, place, what is there -/
def rX_ : List (Nat × Nat × Nat) := [(0, 0, 1), (0, 1, 7), (0, 3, 13), (0, 4, 19), (0, 6, 20), (0, 7, 21), (0, 8, 24), (0, 9, 30), (0, 10, 36), (1, 0, 2), (2, 0, 3), (2, 1, 4), (2, 2, 5), (2, 3, 6), (7, 0, 8), (8, 0, 9), (8, 1, 10), (8, 2, 11), (8, 3, 12), (13, 0, 14), (13, 2, 15), (13, 3, 16), (13, 4, 17), (13, 7, 18), (20, 0, 41), (20, 1, 43), (20, 2, 45), (20, 3, 47), (21, 0, 22), (21, 1, 23), (24, 0, 25), (24, 1, 26), (24, 2, 27), (24, 3, 28), (24, 4, 29), (30, 0, 31), (30, 1, 32), (30, 2, 33), (30, 3, 34), (30, 4, 35), (36, 0, 37), (36, 1, 38), (41, 0, 42), (43, 0, 44), (45, 0, 46), (47, 0, 48)]
def ShX_ (σ : St_) : Prop := (∀ r, r < 49 → kd_ σ r = kX_ r ∧ ln_ σ r = lX_ r) ∧ (∀ q ∈ rX_, sr_ σ q.1 q.2.1 = some q.2.2) ∧ ((sr_ σ 0 11 = some 39 ∧ sr_ σ 0 12 = some 40) ∨ (sr_ σ 0 11 = some 40 ∧ sr_ σ 0 12 = some 39)) ∧ 49 ≤ sn_ σ ∧ wf_ σ
def kM_ (r : Nat) : Nat := [9, 10, 10, 10, 10, 10, 10, 10, 10, 10, 10, 11, 11, 10, 10, 12, 10, 10, 10].getD r 99
def lM_ (r : Nat) : Nat := [0, 960, 6, 160, 36, 4, 12, 288, 288, 36, 1296, 36, 36, 36, 12, 4, 4, 4, 160].getD r 0
def rM_ : List (Nat × Nat × Nat) := [(0, 1, 1), (0, 2, 2), (0, 5, 3), (0, 8, 4), (0, 9, 5), (0, 10, 6), (0, 27, 7), (0, 28, 8), (0, 29, 9), (0, 30, 10), (0, 31, 11), (0, 32, 12), (0, 33, 13), (0, 34, 14), (0, 38, 15), (0, 39, 16), (0, 40, 17), (0, 41, 18)]
def ShM_ (σ : St_) : Prop := (∀ r, r < 19 → kd_ σ r = kM_ r ∧ ln_ σ r = lM_ r) ∧ (∀ q ∈ rM_, sr_ σ q.1 q.2.1 = some q.2.2) ∧ wf_ σ
theorem ShX_.kd {σ : St_} (h : ShX_ σ) (r : Nat) (hr : r < 49) : kd_ σ r = kX_ r := (h.1 r hr).1
theorem ShX_.ln {σ : St_} (h : ShX_ σ) (r : Nat) (hr : r < 49) : ln_ σ r = lX_ r := (h.1 r hr).2
theorem ShM_.kd {σ : St_} (h : ShM_ σ) (r : Nat) (hr : r < 19) : kd_ σ r = kM_ r := (h.1 r hr).1
theorem ShM_.ln {σ : St_} (h : ShM_ σ) (r : Nat) (hr : r < 19) : ln_ σ r = lM_ r := (h.1 r hr).2
/-- a reference that is used, by its place in the table -/
theorem ShX_.dr {σ : St_} (h : ShX_ σ) {a k b c : Nat} (i : Nat) (hi : rX_[i]? = some (a, k, b)) (hb : b < 49) (hc : kX_ b = c) : dr_ σ c (sr_ σ a k) = some b := dr_ok (h.2.1 (a, k, b) (List.mem_of_getElem? hi)) ((h.kd b hb).trans hc)
theorem ShM_.dr {σ : St_} (h : ShM_ σ) {a k b c : Nat} (i : Nat) (hi : rM_[i]? = some (a, k, b)) (hb : b < 19) (hc : kM_ b = c) : dr_ σ c (sr_ σ a k) = some b := dr_ok (h.2.1 (a, k, b) (List.mem_of_getElem? hi)) ((h.kd b hb).trans hc)
/-! THE RELATION -/
/-- one carpet: its four numbers here, and there -/
def Ca_ (x : Nat → Int32) (ki ro : Nat → Int32) (i : Nat) : Prop := ∃ kd nu on fl : Nat, kd < 6 ∧ nu < 10 ∧ on < 36 ∧ fl < 2 ∧ x 0 = nI kd ∧ x 1 = nI nu ∧ x 2 = nI on ∧ x 3 = nI fl ∧ ki i = nI kd ∧ ro (3 * i) = nI nu ∧ ro (3 * i + 1) = nI on ∧ ro (3 * i + 2) = nI fl
/-- a floor: count, night, rule, walls, carpets -/
def Fl_ (tc : Nat) (x : Nat → Int32) (w : Int64) (car : Nat → Nat → Int32) (many night rule : Int32) (wa ki ro : Nat → Int32) (n : Nat) : Prop :=
  n ≤ 4 ∧ x 1 = nI n ∧ many = nI n ∧ (∃ v, v < 1000 ∧ x 2 = nI v ∧ night = nI v) ∧ (∃ t, t < tc ∧ x 3 = nI t ∧ rule = nI t) ∧ (∃ m : Nat, m < 2 ^ 36 ∧ w = lN m ∧ ∀ c, c < 36 → wa c = if m.testBit c then 1 else 0) ∧
  ∀ i, i < n → Ca_ (car i) ki ro i
/-- a code in an array -/
def Ar_ (σ : St_) (a : Nat) (c : Cd_) : Prop := kd_ σ a = 10 ∧ ln_ σ a = c.length ∧ ∀ j, j < c.length → si_ σ a j = en_ (c.getD j (0, 0))
/-- a text: letters there, codes here -/
def Tx_ (σx : St_) (o : Option Nat) (ch : Nat → Int32) (sz : Int32) : Prop := ∃ (b e s r n : Nat) (c : Nat → Nat) (ce cs cr : Cd_), o = some b ∧ 49 ≤ b ∧ 49 ≤ e ∧ 49 ≤ s ∧ 49 ≤ r ∧ kd_ σx b = 5 ∧ sr_ σx b 0 = some e ∧ sr_ σx b 1 = some s ∧ sr_ σx b 2 = some r ∧ Ar_ σx e ce ∧ Ar_ σx s cs ∧ Ar_ σx r cr ∧
  n ≤ 160 ∧ sz = nI n ∧ (∀ j, j < n → c j < 256 ∧ ch j = nI (c j)) ∧ pText_ (tk_ c n n 0) = (some (ce, cs, cr), [])
def Sh_ (x it : Nat → Int32) (th so sz : Int32) (im : Nat → Int32) (s : Nat) : Prop := (x 1 = -1 ∧ x 2 = 0 ∧ th = 0) ∨ ∃ so' n : Nat, so' < 3 ∧ n ≤ 40 ∧ x 1 = nI so' ∧ x 2 = nI n ∧ th = 1 ∧ so = nI so' ∧ sz = nI n ∧ ∀ j, j < n → it j = im (40 * s + j)
/-- texts -/
def RT_ (σx σm : St_) (tc : Nat) : Prop := 1 ≤ tc ∧ tc ≤ 6 ∧ si_ σx 0 5 = nI tc ∧ si_ σm 0 3 = nI tc ∧ ∀ t, t < tc → Tx_ σx (sr_ σx 19 t) (fun j => si_ σm 1 (160 * t + j)) (si_ σm 2 t)
/-- the floor -/
def RF_ (σx σm : St_) (tc n : Nat) : Prop := Fl_ tc (si_ σx 1) (sl_ σx 1 4) (fun i => si_ σx (i + 3)) (si_ σm 0 11) (si_ σm 0 7) (si_ σm 0 4) (si_ σm 4) (si_ σm 5) (si_ σm 6) n
/-- the image -/
def RK_ (σx σm : St_) (tc n : Nat) : Prop := (si_ σx 0 2 = 0 ∧ si_ σm 0 35 = -1) ∨ (si_ σx 0 2 = 1 ∧ ∃ kn, kn ≤ n ∧ Fl_ tc (si_ σx 7) (sl_ σx 7 4) (fun i => si_ σx (i + 9)) (si_ σm 0 35) (si_ σm 0 36) (si_ σm 0 37) (si_ σm 13) (si_ σm 5) (si_ σm 14) kn)
/-- the tape -/
def RP_ (σx σm : St_) : Prop := ∃ k, k ≤ 160 ∧ si_ σx 13 1 = nI k ∧ si_ σm 0 6 = nI k ∧ ∀ j, j < k → ∃ c, c < 256 ∧ si_ σx 14 j = nI c ∧ si_ σm 3 j = nI c
/-- the sheets -/
def RS_ (σx σm : St_) : Prop := ∀ s, s < 4 → Sh_ (si_ σx (2 * s + 41)) (si_ σx (2 * s + 42)) (si_ σm 15 s) (si_ σm 16 s) (si_ σm 17 s) (si_ σm 18) s
def Rel_ (σx σm : St_) : Prop := ShX_ σx ∧ ShM_ σm ∧ ∃ tc n : Nat, RT_ σx σm tc ∧ RF_ σx σm tc n ∧ RK_ σx σm tc n ∧ RP_ σx σm ∧ RS_ σx σm
theorem Rel_.kinds {σx σm : St_} (h : Rel_ σx σm) : kd_ σx 0 = 8 ∧ kd_ σm 0 = 9 := ⟨h.1.kd 0 (by decide), h.2.1.kd 0 (by decide)⟩
/-! the shapes, one fact each -/
theorem dx_0_0 {σ : St_} (h : ShX_ σ) : dr_ σ 1 (sr_ σ 0 0) = some 1 := h.dr 0 rfl (by decide) rfl
theorem dx_0_1 {σ : St_} (h : ShX_ σ) : dr_ σ 1 (sr_ σ 0 1) = some 7 := h.dr 1 rfl (by decide) rfl
theorem dx_0_3 {σ : St_} (h : ShX_ σ) : dr_ σ 3 (sr_ σ 0 3) = some 13 := h.dr 2 rfl (by decide) rfl
theorem dx_0_4 {σ : St_} (h : ShX_ σ) : dr_ σ 15 (sr_ σ 0 4) = some 19 := h.dr 3 rfl (by decide) rfl
theorem dx_0_6 {σ : St_} (h : ShX_ σ) : dr_ σ 14 (sr_ σ 0 6) = some 20 := h.dr 4 rfl (by decide) rfl
theorem dx_0_7 {σ : St_} (h : ShX_ σ) : dr_ σ 6 (sr_ σ 0 7) = some 21 := h.dr 5 rfl (by decide) rfl
theorem dx_0_8 {σ : St_} (h : ShX_ σ) : dr_ σ 7 (sr_ σ 0 8) = some 24 := h.dr 6 rfl (by decide) rfl
theorem dx_0_9 {σ : St_} (h : ShX_ σ) : dr_ σ 7 (sr_ σ 0 9) = some 30 := h.dr 7 rfl (by decide) rfl
theorem dx_0_10 {σ : St_} (h : ShX_ σ) : dr_ σ 2 (sr_ σ 0 10) = some 36 := h.dr 8 rfl (by decide) rfl
theorem dx_1_0 {σ : St_} (h : ShX_ σ) : dr_ σ 13 (sr_ σ 1 0) = some 2 := h.dr 9 rfl (by decide) rfl
theorem dx_2_0 {σ : St_} (h : ShX_ σ) : dr_ σ 0 (sr_ σ 2 0) = some 3 := h.dr 10 rfl (by decide) rfl
theorem dx_2_1 {σ : St_} (h : ShX_ σ) : dr_ σ 0 (sr_ σ 2 1) = some 4 := h.dr 11 rfl (by decide) rfl
theorem dx_2_2 {σ : St_} (h : ShX_ σ) : dr_ σ 0 (sr_ σ 2 2) = some 5 := h.dr 12 rfl (by decide) rfl
theorem dx_2_3 {σ : St_} (h : ShX_ σ) : dr_ σ 0 (sr_ σ 2 3) = some 6 := h.dr 13 rfl (by decide) rfl
theorem dx_7_0 {σ : St_} (h : ShX_ σ) : dr_ σ 13 (sr_ σ 7 0) = some 8 := h.dr 14 rfl (by decide) rfl
theorem dx_8_0 {σ : St_} (h : ShX_ σ) : dr_ σ 0 (sr_ σ 8 0) = some 9 := h.dr 15 rfl (by decide) rfl
theorem dx_8_1 {σ : St_} (h : ShX_ σ) : dr_ σ 0 (sr_ σ 8 1) = some 10 := h.dr 16 rfl (by decide) rfl
theorem dx_8_2 {σ : St_} (h : ShX_ σ) : dr_ σ 0 (sr_ σ 8 2) = some 11 := h.dr 17 rfl (by decide) rfl
theorem dx_8_3 {σ : St_} (h : ShX_ σ) : dr_ σ 0 (sr_ σ 8 3) = some 12 := h.dr 18 rfl (by decide) rfl
theorem dx_13_0 {σ : St_} (h : ShX_ σ) : dr_ σ 10 (sr_ σ 13 0) = some 14 := h.dr 19 rfl (by decide) rfl
theorem dx_13_2 {σ : St_} (h : ShX_ σ) : dr_ σ 10 (sr_ σ 13 2) = some 15 := h.dr 20 rfl (by decide) rfl
theorem dx_13_3 {σ : St_} (h : ShX_ σ) : dr_ σ 10 (sr_ σ 13 3) = some 16 := h.dr 21 rfl (by decide) rfl
theorem dx_13_4 {σ : St_} (h : ShX_ σ) : dr_ σ 10 (sr_ σ 13 4) = some 17 := h.dr 22 rfl (by decide) rfl
theorem dx_13_7 {σ : St_} (h : ShX_ σ) : dr_ σ 10 (sr_ σ 13 7) = some 18 := h.dr 23 rfl (by decide) rfl
theorem dx_20_0 {σ : St_} (h : ShX_ σ) : dr_ σ 4 (sr_ σ 20 0) = some 41 := h.dr 24 rfl (by decide) rfl
theorem dx_20_1 {σ : St_} (h : ShX_ σ) : dr_ σ 4 (sr_ σ 20 1) = some 43 := h.dr 25 rfl (by decide) rfl
theorem dx_20_2 {σ : St_} (h : ShX_ σ) : dr_ σ 4 (sr_ σ 20 2) = some 45 := h.dr 26 rfl (by decide) rfl
theorem dx_20_3 {σ : St_} (h : ShX_ σ) : dr_ σ 4 (sr_ σ 20 3) = some 47 := h.dr 27 rfl (by decide) rfl
theorem dx_21_0 {σ : St_} (h : ShX_ σ) : dr_ σ 10 (sr_ σ 21 0) = some 22 := h.dr 28 rfl (by decide) rfl
theorem dx_21_1 {σ : St_} (h : ShX_ σ) : dr_ σ 10 (sr_ σ 21 1) = some 23 := h.dr 29 rfl (by decide) rfl
theorem dx_24_0 {σ : St_} (h : ShX_ σ) : dr_ σ 10 (sr_ σ 24 0) = some 25 := h.dr 30 rfl (by decide) rfl
theorem dx_24_1 {σ : St_} (h : ShX_ σ) : dr_ σ 10 (sr_ σ 24 1) = some 26 := h.dr 31 rfl (by decide) rfl
theorem dx_24_2 {σ : St_} (h : ShX_ σ) : dr_ σ 10 (sr_ σ 24 2) = some 27 := h.dr 32 rfl (by decide) rfl
theorem dx_24_3 {σ : St_} (h : ShX_ σ) : dr_ σ 10 (sr_ σ 24 3) = some 28 := h.dr 33 rfl (by decide) rfl
theorem dx_24_4 {σ : St_} (h : ShX_ σ) : dr_ σ 10 (sr_ σ 24 4) = some 29 := h.dr 34 rfl (by decide) rfl
theorem dx_30_0 {σ : St_} (h : ShX_ σ) : dr_ σ 10 (sr_ σ 30 0) = some 31 := h.dr 35 rfl (by decide) rfl
theorem dx_30_1 {σ : St_} (h : ShX_ σ) : dr_ σ 10 (sr_ σ 30 1) = some 32 := h.dr 36 rfl (by decide) rfl
theorem dx_30_2 {σ : St_} (h : ShX_ σ) : dr_ σ 10 (sr_ σ 30 2) = some 33 := h.dr 37 rfl (by decide) rfl
theorem dx_30_3 {σ : St_} (h : ShX_ σ) : dr_ σ 10 (sr_ σ 30 3) = some 34 := h.dr 38 rfl (by decide) rfl
theorem dx_30_4 {σ : St_} (h : ShX_ σ) : dr_ σ 10 (sr_ σ 30 4) = some 35 := h.dr 39 rfl (by decide) rfl
theorem dx_36_0 {σ : St_} (h : ShX_ σ) : dr_ σ 10 (sr_ σ 36 0) = some 37 := h.dr 40 rfl (by decide) rfl
theorem dx_36_1 {σ : St_} (h : ShX_ σ) : dr_ σ 11 (sr_ σ 36 1) = some 38 := h.dr 41 rfl (by decide) rfl
theorem dx_41_0 {σ : St_} (h : ShX_ σ) : dr_ σ 10 (sr_ σ 41 0) = some 42 := h.dr 42 rfl (by decide) rfl
theorem dx_43_0 {σ : St_} (h : ShX_ σ) : dr_ σ 10 (sr_ σ 43 0) = some 44 := h.dr 43 rfl (by decide) rfl
theorem dx_45_0 {σ : St_} (h : ShX_ σ) : dr_ σ 10 (sr_ σ 45 0) = some 46 := h.dr 44 rfl (by decide) rfl
theorem dx_47_0 {σ : St_} (h : ShX_ σ) : dr_ σ 10 (sr_ σ 47 0) = some 48 := h.dr 45 rfl (by decide) rfl
theorem lx_2 {σ : St_} (h : ShX_ σ) : ln_ σ 2 = 4 := h.ln 2 (by decide)
theorem lx_8 {σ : St_} (h : ShX_ σ) : ln_ σ 8 = 4 := h.ln 8 (by decide)
theorem lx_14 {σ : St_} (h : ShX_ σ) : ln_ σ 14 = 160 := h.ln 14 (by decide)
theorem lx_15 {σ : St_} (h : ShX_ σ) : ln_ σ 15 = 160 := h.ln 15 (by decide)
theorem lx_16 {σ : St_} (h : ShX_ σ) : ln_ σ 16 = 160 := h.ln 16 (by decide)
theorem lx_17 {σ : St_} (h : ShX_ σ) : ln_ σ 17 = 160 := h.ln 17 (by decide)
theorem lx_18 {σ : St_} (h : ShX_ σ) : ln_ σ 18 = 160 := h.ln 18 (by decide)
theorem lx_19 {σ : St_} (h : ShX_ σ) : ln_ σ 19 = 6 := h.ln 19 (by decide)
theorem lx_20 {σ : St_} (h : ShX_ σ) : ln_ σ 20 = 4 := h.ln 20 (by decide)
theorem lx_22 {σ : St_} (h : ShX_ σ) : ln_ σ 22 = 6 := h.ln 22 (by decide)
theorem lx_23 {σ : St_} (h : ShX_ σ) : ln_ σ 23 = 80 := h.ln 23 (by decide)
theorem lx_25 {σ : St_} (h : ShX_ σ) : ln_ σ 25 = 36 := h.ln 25 (by decide)
theorem lx_26 {σ : St_} (h : ShX_ σ) : ln_ σ 26 = 36 := h.ln 26 (by decide)
theorem lx_27 {σ : St_} (h : ShX_ σ) : ln_ σ 27 = 36 := h.ln 27 (by decide)
theorem lx_28 {σ : St_} (h : ShX_ σ) : ln_ σ 28 = 36 := h.ln 28 (by decide)
theorem lx_29 {σ : St_} (h : ShX_ σ) : ln_ σ 29 = 288 := h.ln 29 (by decide)
theorem lx_31 {σ : St_} (h : ShX_ σ) : ln_ σ 31 = 36 := h.ln 31 (by decide)
theorem lx_32 {σ : St_} (h : ShX_ σ) : ln_ σ 32 = 36 := h.ln 32 (by decide)
theorem lx_33 {σ : St_} (h : ShX_ σ) : ln_ σ 33 = 36 := h.ln 33 (by decide)
theorem lx_34 {σ : St_} (h : ShX_ σ) : ln_ σ 34 = 36 := h.ln 34 (by decide)
theorem lx_35 {σ : St_} (h : ShX_ σ) : ln_ σ 35 = 288 := h.ln 35 (by decide)
theorem lx_37 {σ : St_} (h : ShX_ σ) : ln_ σ 37 = 1296 := h.ln 37 (by decide)
theorem lx_38 {σ : St_} (h : ShX_ σ) : ln_ σ 38 = 36 := h.ln 38 (by decide)
theorem lx_39 {σ : St_} (h : ShX_ σ) : ln_ σ 39 = 36 := h.ln 39 (by decide)
theorem lx_40 {σ : St_} (h : ShX_ σ) : ln_ σ 40 = 36 := h.ln 40 (by decide)
theorem lx_42 {σ : St_} (h : ShX_ σ) : ln_ σ 42 = 40 := h.ln 42 (by decide)
theorem lx_44 {σ : St_} (h : ShX_ σ) : ln_ σ 44 = 40 := h.ln 44 (by decide)
theorem lx_46 {σ : St_} (h : ShX_ σ) : ln_ σ 46 = 40 := h.ln 46 (by decide)
theorem lx_48 {σ : St_} (h : ShX_ σ) : ln_ σ 48 = 40 := h.ln 48 (by decide)
theorem dm_0_1 {σ : St_} (h : ShM_ σ) : dr_ σ 10 (sr_ σ 0 1) = some 1 := h.dr 0 rfl (by decide) rfl
theorem dm_0_2 {σ : St_} (h : ShM_ σ) : dr_ σ 10 (sr_ σ 0 2) = some 2 := h.dr 1 rfl (by decide) rfl
theorem dm_0_5 {σ : St_} (h : ShM_ σ) : dr_ σ 10 (sr_ σ 0 5) = some 3 := h.dr 2 rfl (by decide) rfl
theorem dm_0_8 {σ : St_} (h : ShM_ σ) : dr_ σ 10 (sr_ σ 0 8) = some 4 := h.dr 3 rfl (by decide) rfl
theorem dm_0_9 {σ : St_} (h : ShM_ σ) : dr_ σ 10 (sr_ σ 0 9) = some 5 := h.dr 4 rfl (by decide) rfl
theorem dm_0_10 {σ : St_} (h : ShM_ σ) : dr_ σ 10 (sr_ σ 0 10) = some 6 := h.dr 5 rfl (by decide) rfl
theorem dm_0_27 {σ : St_} (h : ShM_ σ) : dr_ σ 10 (sr_ σ 0 27) = some 7 := h.dr 6 rfl (by decide) rfl
theorem dm_0_28 {σ : St_} (h : ShM_ σ) : dr_ σ 10 (sr_ σ 0 28) = some 8 := h.dr 7 rfl (by decide) rfl
theorem dm_0_29 {σ : St_} (h : ShM_ σ) : dr_ σ 10 (sr_ σ 0 29) = some 9 := h.dr 8 rfl (by decide) rfl
theorem dm_0_30 {σ : St_} (h : ShM_ σ) : dr_ σ 10 (sr_ σ 0 30) = some 10 := h.dr 9 rfl (by decide) rfl
theorem dm_0_31 {σ : St_} (h : ShM_ σ) : dr_ σ 11 (sr_ σ 0 31) = some 11 := h.dr 10 rfl (by decide) rfl
theorem dm_0_32 {σ : St_} (h : ShM_ σ) : dr_ σ 11 (sr_ σ 0 32) = some 12 := h.dr 11 rfl (by decide) rfl
theorem dm_0_33 {σ : St_} (h : ShM_ σ) : dr_ σ 10 (sr_ σ 0 33) = some 13 := h.dr 12 rfl (by decide) rfl
theorem dm_0_34 {σ : St_} (h : ShM_ σ) : dr_ σ 10 (sr_ σ 0 34) = some 14 := h.dr 13 rfl (by decide) rfl
theorem dm_0_38 {σ : St_} (h : ShM_ σ) : dr_ σ 12 (sr_ σ 0 38) = some 15 := h.dr 14 rfl (by decide) rfl
theorem dm_0_39 {σ : St_} (h : ShM_ σ) : dr_ σ 10 (sr_ σ 0 39) = some 16 := h.dr 15 rfl (by decide) rfl
theorem dm_0_40 {σ : St_} (h : ShM_ σ) : dr_ σ 10 (sr_ σ 0 40) = some 17 := h.dr 16 rfl (by decide) rfl
theorem dm_0_41 {σ : St_} (h : ShM_ σ) : dr_ σ 10 (sr_ σ 0 41) = some 18 := h.dr 17 rfl (by decide) rfl
theorem lm_1 {σ : St_} (h : ShM_ σ) : ln_ σ 1 = 960 := h.ln 1 (by decide)
theorem lm_2 {σ : St_} (h : ShM_ σ) : ln_ σ 2 = 6 := h.ln 2 (by decide)
theorem lm_3 {σ : St_} (h : ShM_ σ) : ln_ σ 3 = 160 := h.ln 3 (by decide)
theorem lm_4 {σ : St_} (h : ShM_ σ) : ln_ σ 4 = 36 := h.ln 4 (by decide)
theorem lm_5 {σ : St_} (h : ShM_ σ) : ln_ σ 5 = 4 := h.ln 5 (by decide)
theorem lm_6 {σ : St_} (h : ShM_ σ) : ln_ σ 6 = 12 := h.ln 6 (by decide)
theorem lm_7 {σ : St_} (h : ShM_ σ) : ln_ σ 7 = 288 := h.ln 7 (by decide)
theorem lm_8 {σ : St_} (h : ShM_ σ) : ln_ σ 8 = 288 := h.ln 8 (by decide)
theorem lm_9 {σ : St_} (h : ShM_ σ) : ln_ σ 9 = 36 := h.ln 9 (by decide)
theorem lm_10 {σ : St_} (h : ShM_ σ) : ln_ σ 10 = 1296 := h.ln 10 (by decide)
theorem lm_11 {σ : St_} (h : ShM_ σ) : ln_ σ 11 = 36 := h.ln 11 (by decide)
theorem lm_12 {σ : St_} (h : ShM_ σ) : ln_ σ 12 = 36 := h.ln 12 (by decide)
theorem lm_13 {σ : St_} (h : ShM_ σ) : ln_ σ 13 = 36 := h.ln 13 (by decide)
theorem lm_14 {σ : St_} (h : ShM_ σ) : ln_ σ 14 = 12 := h.ln 14 (by decide)
theorem lm_15 {σ : St_} (h : ShM_ σ) : ln_ σ 15 = 4 := h.ln 15 (by decide)
theorem lm_16 {σ : St_} (h : ShM_ σ) : ln_ σ 16 = 4 := h.ln 16 (by decide)
theorem lm_17 {σ : St_} (h : ShM_ σ) : ln_ σ 17 = 4 := h.ln 17 (by decide)
theorem lm_18 {σ : St_} (h : ShM_ σ) : ln_ σ 18 = 160 := h.ln 18 (by decide)
theorem dr_ui (σ : St_) (a k : Nat) (v : Int32) (c : Nat) (o : Option Nat) : dr_ (ui_ σ a k v) c o = dr_ σ c o := rfl
theorem dr_ul (σ : St_) (a k : Nat) (v : Int64) (c : Nat) (o : Option Nat) : dr_ (ul_ σ a k v) c o = dr_ σ c o := rfl
theorem dr_ur (σ : St_) (a k : Nat) (v : Option Nat) (c : Nat) (o : Option Nat) : dr_ (ur_ σ a k v) c o = dr_ σ c o := rfl
theorem dr_uw (σ : St_) (a : Nat) (f : Nat → Int32) (c : Nat) (o : Option Nat) : dr_ (uw_ σ a f) c o = dr_ σ c o := rfl
theorem g_ln_uw (σ : St_) (a : Nat) (f : Nat → Int32) : ln_ (uw_ σ a f) = ln_ σ := rfl
theorem g_kd_uw (σ : St_) (a : Nat) (f : Nat → Int32) : kd_ (uw_ σ a f) = kd_ σ := rfl
theorem g_sr_uw (σ : St_) (a : Nat) (f : Nat → Int32) : sr_ (uw_ σ a f) = sr_ σ := rfl
theorem g_sl_uw (σ : St_) (a : Nat) (f : Nat → Int32) : sl_ (uw_ σ a f) = sl_ σ := rfl
theorem g_si_uw (σ : St_) (a : Nat) (f : Nat → Int32) (b : Nat) : si_ (uw_ σ a f) b = if b = a then f else si_ σ b := rfl
theorem upd_g (f : Nat → Int32) (k : Nat) (v : Int32) (j : Nat) : upd f k v j = if j = k then v else f j := rfl
theorem ShX_.car {σ : St_} (h : ShX_ σ) {c : Nat} (hc : c < 4) : dr_ σ 0 (sr_ σ 2 c) = some (c + 3) ∧ kd_ σ (c + 3) = 0 := by
  have e : c = 0 ∨ c = 1 ∨ c = 2 ∨ c = 3 := by omega
  rcases e with e | e | e | e <;> subst e
  · exact ⟨dx_2_0 h, h.kd 3 (by decide)⟩
  · exact ⟨dx_2_1 h, h.kd 4 (by decide)⟩
  · exact ⟨dx_2_2 h, h.kd 5 (by decide)⟩
  · exact ⟨dx_2_3 h, h.kd 6 (by decide)⟩
theorem ShX_.car2 {σ : St_} (h : ShX_ σ) {c : Nat} (hc : c < 4) : dr_ σ 0 (sr_ σ 8 c) = some (c + 9) ∧ kd_ σ (c + 9) = 0 := by
  have e : c = 0 ∨ c = 1 ∨ c = 2 ∨ c = 3 := by omega
  rcases e with e | e | e | e <;> subst e
  · exact ⟨dx_8_0 h, h.kd 9 (by decide)⟩
  · exact ⟨dx_8_1 h, h.kd 10 (by decide)⟩
  · exact ⟨dx_8_2 h, h.kd 11 (by decide)⟩
  · exact ⟨dx_8_3 h, h.kd 12 (by decide)⟩
theorem ShX_.she {σ : St_} (h : ShX_ σ) {s : Nat} (hs : s < 4) : dr_ σ 4 (sr_ σ 20 s) = some (2 * s + 41) ∧ kd_ σ (2 * s + 41) = 4 ∧ dr_ σ 10 (sr_ σ (2 * s + 41) 0) = some (2 * s + 42) ∧ ln_ σ (2 * s + 42) = 40 := by
  have e : s = 0 ∨ s = 1 ∨ s = 2 ∨ s = 3 := by omega
  rcases e with e | e | e | e <;> subst e
  · exact ⟨dx_20_0 h, h.kd 41 (by decide), dx_41_0 h, lx_42 h⟩
  · exact ⟨dx_20_1 h, h.kd 43 (by decide), dx_43_0 h, lx_44 h⟩
  · exact ⟨dx_20_2 h, h.kd 45 (by decide), dx_45_0 h, lx_46 h⟩
  · exact ⟨dx_20_3 h, h.kd 47 (by decide), dx_47_0 h, lx_48 h⟩
/-- a carpet that is asked for -/
theorem car_n {σ : St_} (h : ShX_ σ) {n : Nat} (hn : n ≤ 4) (e : si_ σ 1 1 = nI n) (x : Int32) (hx : f_X8_isBelow x (nI n) = 0) : f_X1_carpetAt σ 1 x = some none := by
  unfold f_X1_carpetAt
  rw [e]
  by_cases h1 : nI n ≤ x
  · rw [if_pos h1]
  · rw [if_neg h1, dx_1_0 h, Option.bind_some, lx_2 h]
    have : f_X8_isBelow x (nI 4) = 0 := bel_0.mpr ((bel_0.mp hx).imp_right fun z => absurd z h1)
    rw [if_pos this]
theorem car_s {σ : St_} (h : ShX_ σ) {n c : Nat} (hn : n ≤ 4) (e : si_ σ 1 1 = nI n) (hc : c < n) : f_X1_carpetAt σ 1 (nI c) = some (some (c + 3)) := by
  unfold f_X1_carpetAt
  rw [e, if_neg (nI_ge hc (by omega)), dx_1_0 h, Option.bind_some, lx_2 h, if_neg (bel_n (by omega : c < 4) (by omega)), ix_ok (by omega : c < 4) (by omega), Option.bind_some, (h.car (by omega)).1, Option.bind_some]
theorem one_b {σ : St_} {n : Nat} (hn : n ≤ 4) (e : si_ σ 0 11 = nI n) (x : Int32) : f_X9_isOne σ 0 x = 0 ↔ f_X8_isBelow x (nI n) = 0 := by
  unfold f_X9_isOne
  rw [e]
  cases n with
  | zero =>
    rw [in_0, bel_0]
    have e1 : ((nI 0 - 1).toInt64) = -1 := by decide +kernel
    rw [e1, Int64.lt_iff_toInt_lt, Int64.lt_iff_toInt_lt, Int32.lt_iff_toInt_lt, Int32.le_iff_toInt_le, Int32.toInt_toInt64]
    have a : (0 : Int64).toInt = 0 := rfl
    have b : (-1 : Int64).toInt = -1 := by decide +kernel
    have c : (0 : Int32).toInt = 0 := rfl
    have d : (nI 0).toInt = 0 := rfl
    rw [a, b, c, d]
    omega
  | succ m =>
    rw [nI_pred]
    exact in_b (by omega)
