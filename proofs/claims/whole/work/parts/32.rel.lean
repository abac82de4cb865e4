/-! SHAPES: the objects of both, as the constructors leave them -/
def kX_ (r : Nat) : Nat := [8, 1, 13, 0, 0, 0, 0, 1, 13, 0, 0, 0, 0, 3, 10, 10, 10, 10, 10, 15, 14, 6, 10, 10, 7, 10, 10, 10, 10, 10, 7, 10, 10, 10, 10, 10, 2, 10, 11, 11, 11, 4, 10, 4, 10, 4, 10, 4, 10].getD r 99
def lX_ (r : Nat) : Nat := [0, 0, 4, 0, 0, 0, 0, 0, 4, 0, 0, 0, 0, 0, 160, 160, 160, 160, 160, 6, 4, 0, 6, 80, 0, 36, 36, 36, 36, 288, 0, 36, 36, 36, 36, 288, 0, 1296, 36, 36, 36, 0, 40, 0, 40, 0, 40, 0, 40].getD r 0
/-- the references that never change: object, place, what is there -/
def rX_ : List (Nat × Nat × Nat) := [(0, 0, 1), (0, 1, 7), (0, 3, 13), (0, 4, 19), (0, 6, 20), (0, 7, 21), (0, 8, 24), (0, 9, 30), (0, 10, 36), (1, 0, 2), (2, 0, 3), (2, 1, 4), (2, 2, 5), (2, 3, 6), (7, 0, 8), (8, 0, 9), (8, 1, 10), (8, 2, 11), (8, 3, 12), (13, 0, 14), (13, 2, 15), (13, 3, 16), (13, 4, 17), (13, 7, 18), (20, 0, 41), (20, 1, 43), (20, 2, 45), (20, 3, 47), (21, 0, 22), (21, 1, 23), (24, 0, 25), (24, 1, 26), (24, 2, 27), (24, 3, 28), (24, 4, 29), (30, 0, 31), (30, 1, 32), (30, 2, 33), (30, 3, 34), (30, 4, 35), (36, 0, 37), (36, 1, 38), (41, 0, 42), (43, 0, 44), (45, 0, 46), (47, 0, 48)]
def ShX_ (σ : St_) : Prop := (∀ r, r < 49 → kd_ σ r = kX_ r ∧ ln_ σ r = lX_ r) ∧ (∀ q ∈ rX_, sr_ σ q.1 q.2.1 = some q.2.2) ∧ ((sr_ σ 0 11 = some 39 ∧ sr_ σ 0 12 = some 40) ∨ (sr_ σ 0 11 = some 40 ∧ sr_ σ 0 12 = some 39)) ∧ 49 ≤ sn_ σ ∧ wf_ σ
def kM_ (r : Nat) : Nat := [9, 10, 10, 10, 10, 10, 10, 10, 10, 10, 10, 11, 11, 10, 10, 12, 10, 10, 10].getD r 99
def lM_ (r : Nat) : Nat := [0, 960, 6, 160, 36, 4, 12, 288, 288, 36, 1296, 36, 36, 36, 12, 4, 4, 4, 160].getD r 0
def rM_ : List (Nat × Nat × Nat) := [(0, 1, 1), (0, 2, 2), (0, 5, 3), (0, 8, 4), (0, 9, 5), (0, 10, 6), (0, 27, 7), (0, 28, 8), (0, 29, 9), (0, 30, 10), (0, 31, 11), (0, 32, 12), (0, 33, 13), (0, 34, 14), (0, 38, 15), (0, 39, 16), (0, 40, 17), (0, 41, 18)]
def ShM_ (σ : St_) : Prop := (∀ r, r < 19 → kd_ σ r = kM_ r ∧ ln_ σ r = lM_ r) ∧ (∀ q ∈ rM_, sr_ σ q.1 q.2.1 = some q.2.2) ∧ wf_ σ
theorem ShX_.kd {σ : St_} (h : ShX_ σ) (r : Nat) (hr : r < 49) : kd_ σ r = kX_ r := (h.1 r hr).1
theorem ShX_.ln {σ : St_} (h : ShX_ σ) (r : Nat) (hr : r < 49) : ln_ σ r = lX_ r := (h.1 r hr).2
theorem ShM_.kd {σ : St_} (h : ShM_ σ) (r : Nat) (hr : r < 19) : kd_ σ r = kM_ r := (h.1 r hr).1
theorem ShM_.ln {σ : St_} (h : ShM_ σ) (r : Nat) (hr : r < 19) : ln_ σ r = lM_ r := (h.1 r hr).2
/-- a reference that is used, by its place in the table -/
theorem ShX_.dr {σ : St_} (h : ShX_ σ) {a k b c : Nat} (i : Nat) (hi : rX_[i]? = some (a, k, b)) (hb : b < 49) (hc : kX_ b = c) : dr_ σ c (sr_ σ a k) = some b := dr_ok (h.2.1 (a, k, b) (List.mem_of_getElem? hi)) ((h.kd b hb).trans hc)
theorem ShM_.dr {σ : St_} (h : ShM_ σ) {a k b c : Nat} (i : Nat) (hi : rM_[i]? = some (a, k, b)) (hb : b < 19) (hc : kM_ b = c) : dr_ σ c (sr_ σ a k) = some b := dr_ok (h.2.1 (a, k, b) (List.mem_of_getElem? hi)) ((h.kd b hb).trans hc)
/-! THE RELATION -/
/-- one carpet: its four numbers here, and there -/
def Ca_ (x : Nat → Int32) (ki ro : Nat → Int32) (i : Nat) : Prop := ∃ kd nu on fl : Nat, kd < 6 ∧ nu < 10 ∧ on < 36 ∧ fl < 2 ∧ x 0 = nI kd ∧ x 1 = nI nu ∧ x 2 = nI on ∧ x 3 = nI fl ∧ ki i = nI kd ∧ ro (3 * i) = nI nu ∧ ro (3 * i + 1) = nI on ∧ ro (3 * i + 2) = nI fl
/-- a floor: count, night, rule, walls, carpets -/
def Fl_ (tc : Nat) (x : Nat → Int32) (w : Int64) (c0 c1 c2 c3 : Nat → Int32) (many night rule : Int32) (wa ki ro : Nat → Int32) (n : Nat) : Prop :=
  n ≤ 4 ∧ x 1 = nI n ∧ many = nI n ∧ (∃ v, v < 1000 ∧ x 2 = nI v ∧ night = nI v) ∧ (∃ t, t < tc ∧ x 3 = nI t ∧ rule = nI t) ∧ (∃ m : Nat, m < 2 ^ 36 ∧ w = lN m ∧ ∀ c, c < 36 → wa c = if m.testBit c then 1 else 0) ∧
  (0 < n → Ca_ c0 ki ro 0) ∧ (1 < n → Ca_ c1 ki ro 1) ∧ (2 < n → Ca_ c2 ki ro 2) ∧ (3 < n → Ca_ c3 ki ro 3)
/-- a code in an array -/
def Ar_ (σ : St_) (a : Nat) (c : Cd_) : Prop := kd_ σ a = 10 ∧ ln_ σ a = c.length ∧ ∀ j, j < c.length → si_ σ a j = en_ (c.getD j (0, 0))
/-- a text: letters there, codes here -/
def Tx_ (σx : St_) (o : Option Nat) (ch : Nat → Int32) (sz : Int32) : Prop := ∃ (b e s r n : Nat) (c : Nat → Nat) (ce cs cr : Cd_), o = some b ∧ 49 ≤ b ∧ 49 ≤ e ∧ 49 ≤ s ∧ 49 ≤ r ∧ kd_ σx b = 5 ∧ sr_ σx b 0 = some e ∧ sr_ σx b 1 = some s ∧ sr_ σx b 2 = some r ∧ Ar_ σx e ce ∧ Ar_ σx s cs ∧ Ar_ σx r cr ∧
  n ≤ 160 ∧ sz = nI n ∧ (∀ j, j < n → c j < 256 ∧ ch j = nI (c j)) ∧ pText_ (tk_ c n n 0) = (some (ce, cs, cr), [])
def Sh_ (x it : Nat → Int32) (th so sz : Int32) (im : Nat → Int32) (s : Nat) : Prop := (x 1 = -1 ∧ x 2 = 0 ∧ th = 0) ∨ ∃ so' n : Nat, so' < 3 ∧ n ≤ 40 ∧ x 1 = nI so' ∧ x 2 = nI n ∧ th = 1 ∧ so = nI so' ∧ sz = nI n ∧ ∀ j, j < n → it j = im (40 * s + j)
def Rel_ (σx σm : St_) : Prop := ShX_ σx ∧ ShM_ σm ∧ ∃ tc n : Nat, (1 ≤ tc ∧ tc ≤ 6 ∧ si_ σx 0 5 = nI tc ∧ si_ σm 0 3 = nI tc ∧ ∀ t, t < tc → Tx_ σx (sr_ σx 19 t) (fun j => si_ σm 1 (160 * t + j)) (si_ σm 2 t)) ∧
  Fl_ tc (si_ σx 1) (sl_ σx 1 4) (si_ σx 3) (si_ σx 4) (si_ σx 5) (si_ σx 6) (si_ σm 0 11) (si_ σm 0 7) (si_ σm 0 4) (si_ σm 4) (si_ σm 5) (si_ σm 6) n ∧
  ((si_ σx 0 2 = 0 ∧ si_ σm 0 35 = -1) ∨ (si_ σx 0 2 = 1 ∧ ∃ kn, kn ≤ n ∧ Fl_ tc (si_ σx 7) (sl_ σx 7 4) (si_ σx 9) (si_ σx 10) (si_ σx 11) (si_ σx 12) (si_ σm 0 35) (si_ σm 0 36) (si_ σm 0 37) (si_ σm 13) (si_ σm 5) (si_ σm 14) kn)) ∧
  (∃ k, k ≤ 160 ∧ si_ σx 13 1 = nI k ∧ si_ σm 0 6 = nI k ∧ ∀ j, j < k → ∃ c, c < 256 ∧ si_ σx 14 j = nI c ∧ si_ σm 3 j = nI c) ∧
  Sh_ (si_ σx 41) (si_ σx 42) (si_ σm 15 0) (si_ σm 16 0) (si_ σm 17 0) (si_ σm 18) 0 ∧ Sh_ (si_ σx 43) (si_ σx 44) (si_ σm 15 1) (si_ σm 16 1) (si_ σm 17 1) (si_ σm 18) 1 ∧ Sh_ (si_ σx 45) (si_ σx 46) (si_ σm 15 2) (si_ σm 16 2) (si_ σm 17 2) (si_ σm 18) 2 ∧ Sh_ (si_ σx 47) (si_ σx 48) (si_ σm 15 3) (si_ σm 16 3) (si_ σm 17 3) (si_ σm 18) 3
theorem Rel_.kinds {σx σm : St_} (h : Rel_ σx σm) : kd_ σx 0 = 8 ∧ kd_ σm 0 = 9 := ⟨h.1.kd 0 (by decide), h.2.1.kd 0 (by decide)⟩
