/-! HOW IT IS MADE, here: the objects -/
theorem e_lt {α : Type} (n : Nat) {x : Nat} {f : Nat → α} (h : x = n) : lt_ x f = f n := by subst h; rfl
theorem e_ls {α : Type} (s : St_) {x : St_} {f : St_ → α} (h : x = s) : lt_ x f = f s := by subst h; rfl
theorem e_b {α β : Type} (a : α) {o : Option α} {f : α → Option β} (h : o = some a) : o.bind f = f a := by subst h; rfl
def fln_ (σ : St_) (a b : Nat) : St_ := ur_ (nw_ (ur_ (nw_ (ur_ (nw_ (ur_ (nw_ (ur_ (nw_ σ 13 4) a 0 (some b)) 0 0) b 0 (some (b + 1))) 0 0) b 1 (some (b + 2))) 0 0) b 2 (some (b + 3))) 0 0) b 3 (some (b + 4))
def rdn_ (σ : St_) (a b : Nat) : St_ := ui_ (ui_ (ui_ (ur_ (nw_ (ui_ (ui_ (ur_ (nw_ (ur_ (nw_ (ur_ (nw_ (ui_ (ur_ (nw_ σ 10 160) a 0 (some b)) a 1 0) 10 160) a 2 (some (b + 1))) 10 160) a 3 (some (b + 2))) 10 160) a 4 (some (b + 3))) a 5 0) a 6 0) 10 160) a 7 (some (b + 4))) a 8 0) a 9 0) a 10 0
def thn_ (σ : St_) (a b : Nat) : St_ := ur_ (ul_ (ui_ (ur_ (nw_ (ur_ (nw_ σ 10 6) a 0 (some b)) 10 80) a 1 (some (b + 1))) a 2 0) a 3 0) a 4 none
def wyn_ (σ : St_) (a b : Nat) : St_ := ul_ (ui_ (ui_ (ur_ (nw_ (ur_ (nw_ (ur_ (nw_ (ur_ (nw_ (ur_ (nw_ σ 10 36) a 0 (some b)) 10 36) a 1 (some (b + 1))) 10 36) a 2 (some (b + 2))) 10 36) a 3 (some (b + 3))) 10 288) a 4 (some (b + 4))) a 5 0) a 6 0) a 7 0
def prn_ (σ : St_) (a b : Nat) : St_ := ui_ (ui_ (ui_ (ur_ (nw_ (ur_ (nw_ σ 10 1296) a 0 (some b)) 11 36) a 1 (some (b + 1))) a 2 0) a 3 (-1)) a 4 (-1)
def shn_ (σ : St_) (a b : Nat) : St_ := ui_ (ui_ (ur_ (nw_ σ 10 40) a 0 (some b)) a 1 (-1)) a 2 0
theorem e_rdn {σ : St_} (a b : Nat) (h : sn_ σ = b) : f_X3_init σ a = some (rdn_ σ a b) := by subst h; rfl
theorem e_thn {σ : St_} (a b : Nat) (h : sn_ σ = b) : f_X6_init σ a = some (thn_ σ a b) := by subst h; rfl
theorem e_wyn {σ : St_} (a b : Nat) (h : sn_ σ = b) : f_X7_init σ a = some (wyn_ σ a b) := by subst h; rfl
theorem e_prn {σ : St_} (a b : Nat) (h : sn_ σ = b) : f_X2_init σ a = some (prn_ σ a b) := by subst h; rfl
theorem e_shn {σ : St_} (a b : Nat) (h : sn_ σ = b) : f_X4_init σ a = some (shn_ σ a b) := by subst h; rfl
def a1_ : St_ := nw_ (nw_ e0_ 8 0) 1 0
def a2_ : St_ := nw_ (ur_ (fln_ a1_ 1 2) 0 0 (some 1)) 1 0
def a3_ : St_ := nw_ (ui_ (ur_ (fln_ a2_ 7 8) 0 1 (some 7)) 0 2 0) 3 0
def a4_ : St_ := nw_ (ur_ (rdn_ a3_ 13 14) 0 3 (some 13)) 15 6
def a5_ : St_ := nw_ (ui_ (ur_ a4_ 0 4 (some 19)) 0 5 0) 14 4
def a6_ : St_ := nw_ (ur_ a5_ 0 6 (some 20)) 6 0
def a7_ : St_ := nw_ (ur_ (thn_ a6_ 21 22) 0 7 (some 21)) 7 0
def a8_ : St_ := nw_ (ur_ (wyn_ a7_ 24 25) 0 8 (some 24)) 7 0
def a9_ : St_ := nw_ (ur_ (wyn_ a8_ 30 31) 0 9 (some 30)) 2 0
def a10_ : St_ := nw_ (ur_ (prn_ a9_ 36 37) 0 10 (some 36)) 11 36
def a11_ : St_ := nw_ (ur_ a10_ 0 11 (some 39)) 11 36
def a12_ : St_ := ur_ a11_ 0 12 (some 40)
def a13_ : St_ := ur_ (shn_ (nw_ a12_ 4 0) 41 42) 20 0 (some 41)
def a14_ : St_ := ur_ (shn_ (nw_ a13_ 4 0) 43 44) 20 1 (some 43)
def a15_ : St_ := ur_ (shn_ (nw_ a14_ 4 0) 45 46) 20 2 (some 45)
def a16_ : St_ := ur_ (shn_ (nw_ a15_ 4 0) 47 48) 20 3 (some 47)
theorem e_fl1 : f_X1_init 5000 a1_ 1 = some (fln_ a1_ 1 2) := by
  unfold f_X1_init
  refine (e_lt 2 rfl).trans ?_
  refine (e_ls (nw_ a1_ 13 4) rfl).trans ?_
  refine (e_b 2 (by decide +kernel)).trans ?_
  refine (if_neg (by decide +kernel)).trans ?_
  refine (e_lt 3 rfl).trans ?_
  refine (e_ls (nw_ (ur_ (nw_ a1_ 13 4) 1 0 (some 2)) 0 0) rfl).trans ?_
  refine (e_b 0 (by decide +kernel)).trans ?_
  refine (e_b 2 (by decide +kernel)).trans ?_
  refine (if_neg (by decide +kernel)).trans ?_
  refine (e_lt 4 rfl).trans ?_
  refine (e_ls _ rfl).trans ?_
  refine (e_b 1 (by decide +kernel)).trans ?_
  refine (e_b 2 (by decide +kernel)).trans ?_
  refine (if_neg (by decide +kernel)).trans ?_
  refine (e_lt 5 rfl).trans ?_
  refine (e_ls _ rfl).trans ?_
  refine (e_b 2 (by decide +kernel)).trans ?_
  refine (e_b 2 (by decide +kernel)).trans ?_
  refine (if_neg (by decide +kernel)).trans ?_
  refine (e_lt 6 rfl).trans ?_
  refine (e_ls _ rfl).trans ?_
  refine (e_b 3 (by decide +kernel)).trans ?_
  refine (e_b 2 (by decide +kernel)).trans ?_
  refine (if_pos (by decide +kernel)).trans ?_
  rfl
theorem e_fl2 : f_X1_init 5000 a2_ 7 = some (fln_ a2_ 7 8) := by
  unfold f_X1_init
  refine (e_lt 8 rfl).trans ?_
  refine (e_ls (nw_ a2_ 13 4) rfl).trans ?_
  refine (e_b 8 (by decide +kernel)).trans ?_
  refine (if_neg (by decide +kernel)).trans ?_
  refine (e_lt 9 rfl).trans ?_
  refine (e_ls _ rfl).trans ?_
  refine (e_b 0 (by decide +kernel)).trans ?_
  refine (e_b 8 (by decide +kernel)).trans ?_
  refine (if_neg (by decide +kernel)).trans ?_
  refine (e_lt 10 rfl).trans ?_
  refine (e_ls _ rfl).trans ?_
  refine (e_b 1 (by decide +kernel)).trans ?_
  refine (e_b 8 (by decide +kernel)).trans ?_
  refine (if_neg (by decide +kernel)).trans ?_
  refine (e_lt 11 rfl).trans ?_
  refine (e_ls _ rfl).trans ?_
  refine (e_b 2 (by decide +kernel)).trans ?_
  refine (e_b 8 (by decide +kernel)).trans ?_
  refine (if_neg (by decide +kernel)).trans ?_
  refine (e_lt 12 rfl).trans ?_
  refine (e_ls _ rfl).trans ?_
  refine (e_b 3 (by decide +kernel)).trans ?_
  refine (e_b 8 (by decide +kernel)).trans ?_
  refine (if_pos (by decide +kernel)).trans ?_
  rfl
theorem e_mk : f_X8_init 5000 (nw_ e0_ 8 0) 0 = f_X8_init_156 5000 5000 a16_ 0 0 := by
  unfold f_X8_init
  refine (e_lt 1 rfl).trans ?_
  refine (e_ls a1_ rfl).trans ?_
  refine (e_b (fln_ a1_ 1 2) e_fl1).trans ?_
  refine (e_lt 7 rfl).trans ?_
  refine (e_ls a2_ rfl).trans ?_
  refine (e_b (fln_ a2_ 7 8) e_fl2).trans ?_
  refine (e_lt 13 rfl).trans ?_
  refine (e_ls a3_ rfl).trans ?_
  refine (e_b (rdn_ a3_ 13 14) (e_rdn 13 14 rfl)).trans ?_
  refine (e_lt 19 rfl).trans ?_
  refine (e_ls a4_ rfl).trans ?_
  refine (e_lt 20 rfl).trans ?_
  refine (e_ls a5_ rfl).trans ?_
  refine (e_lt 21 rfl).trans ?_
  refine (e_ls a6_ rfl).trans ?_
  refine (e_b (thn_ a6_ 21 22) (e_thn 21 22 rfl)).trans ?_
  refine (e_lt 24 rfl).trans ?_
  refine (e_ls a7_ rfl).trans ?_
  refine (e_b (wyn_ a7_ 24 25) (e_wyn 24 25 rfl)).trans ?_
  refine (e_lt 30 rfl).trans ?_
  refine (e_ls a8_ rfl).trans ?_
  refine (e_b (wyn_ a8_ 30 31) (e_wyn 30 31 rfl)).trans ?_
  refine (e_lt 36 rfl).trans ?_
  refine (e_ls a9_ rfl).trans ?_
  refine (e_b (prn_ a9_ 36 37) (e_prn 36 37 rfl)).trans ?_
  refine (e_lt 39 rfl).trans ?_
  refine (e_ls a10_ rfl).trans ?_
  refine (e_lt 40 rfl).trans ?_
  refine (e_ls a11_ rfl).trans ?_
  refine (e_b 20 (by decide +kernel)).trans ?_
  refine (if_neg (by decide +kernel)).trans ?_
  refine (e_lt 41 rfl).trans ?_
  refine (e_ls (nw_ a12_ 4 0) rfl).trans ?_
  refine (e_b (shn_ (nw_ a12_ 4 0) 41 42) (e_shn 41 42 rfl)).trans ?_
  refine (e_b 0 (by decide +kernel)).trans ?_
  refine (e_b 20 (by decide +kernel)).trans ?_
  refine (if_neg (by decide +kernel)).trans ?_
  refine (e_lt 43 rfl).trans ?_
  refine (e_ls (nw_ a13_ 4 0) rfl).trans ?_
  refine (e_b (shn_ (nw_ a13_ 4 0) 43 44) (e_shn 43 44 rfl)).trans ?_
  refine (e_b 1 (by decide +kernel)).trans ?_
  refine (e_b 20 (by decide +kernel)).trans ?_
  refine (if_neg (by decide +kernel)).trans ?_
  refine (e_lt 45 rfl).trans ?_
  refine (e_ls (nw_ a14_ 4 0) rfl).trans ?_
  refine (e_b (shn_ (nw_ a14_ 4 0) 45 46) (e_shn 45 46 rfl)).trans ?_
  refine (e_b 2 (by decide +kernel)).trans ?_
  refine (e_b 20 (by decide +kernel)).trans ?_
  refine (if_neg (by decide +kernel)).trans ?_
  refine (e_lt 47 rfl).trans ?_
  refine (e_ls (nw_ a15_ 4 0) rfl).trans ?_
  refine (e_b (shn_ (nw_ a15_ 4 0) 47 48) (e_shn 47 48 rfl)).trans ?_
  refine (e_b 3 (by decide +kernel)).trans ?_
  refine (e_b 20 (by decide +kernel)).trans ?_
  refine (if_pos (by decide +kernel)).trans ?_
  rfl
