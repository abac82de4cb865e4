/-! HOW IT IS MADE, there -/
theorem wf_ur' {σ : St_} (h : wf_ σ) (a k b : Nat) (hb : b < sn_ σ) : wf_ (ur_ σ a k (some b)) := (up_r σ a k (some b) (fun b' e => by cases e; exact hb)).2.2.2.2 h
theorem wf_e0 : wf_ e0_ := ⟨fun _ _ => rfl, fun _ _ _ h => by cases h⟩
def spn_ (σ : St_) (p : Nat) (a b c d e f g h : Int32) : St_ := ui_ (ui_ (ui_ (ui_ (ui_ (ui_ (ui_ (ui_ σ 1 p a) 1 (p + 1) b) 1 (p + 2) c) 1 (p + 3) d) 1 (p + 4) e) 1 (p + 5) f) 1 (p + 6) g) 1 (p + 7) h
def m1_ : St_ := nw_ (nw_ e0_ 9 0) 10 960
def m2_ : St_ := nw_ (ur_ m1_ 0 1 (some 1)) 10 6
def m3_ : St_ := nw_ (ur_ m2_ 0 2 (some 2)) 10 160
def m4_ : St_ := nw_ (ur_ m3_ 0 5 (some 3)) 10 36
def m5_ : St_ := nw_ (ur_ m4_ 0 8 (some 4)) 10 4
def m6_ : St_ := nw_ (ur_ m5_ 0 9 (some 5)) 10 12
def m7_ : St_ := nw_ (ur_ m6_ 0 10 (some 6)) 10 288
def m8_ : St_ := nw_ (ur_ m7_ 0 27 (some 7)) 10 288
def m9_ : St_ := nw_ (ur_ m8_ 0 28 (some 8)) 10 36
def m10_ : St_ := nw_ (ur_ m9_ 0 29 (some 9)) 10 1296
def m11_ : St_ := nw_ (ur_ m10_ 0 30 (some 10)) 11 36
def m12_ : St_ := nw_ (ur_ m11_ 0 31 (some 11)) 11 36
def m13_ : St_ := nw_ (ur_ m12_ 0 32 (some 12)) 10 36
def m14_ : St_ := nw_ (ur_ m13_ 0 33 (some 13)) 10 12
def m15_ : St_ := nw_ (ui_ (ur_ m14_ 0 34 (some 14)) 0 35 (-1)) 12 4
def m16_ : St_ := nw_ (ur_ m15_ 0 38 (some 15)) 10 4
def m17_ : St_ := nw_ (ur_ m16_ 0 39 (some 16)) 10 4
def m18_ : St_ := nw_ (ur_ m17_ 0 40 (some 17)) 10 160
def m19_ : St_ := ur_ m18_ 0 41 (some 18)
def m20_ : St_ := spn_ m19_ 0 101 97 115 116 115 32 49 32
def m21_ : St_ := spn_ m20_ 8 45 32 119 111 114 100 32 59
def m22_ : St_ := spn_ m21_ 16 32 115 111 117 116 104 115 32
def m23_ : St_ := spn_ m22_ 24 119 111 114 100 32 45 32 50
def m24_ : St_ := spn_ m23_ 32 32 59 32 114 105 115 101 115
def m25_ : St_ := spn_ m24_ 40 32 49 32 59 32 32 32 32
def m26_ : St_ := ui_ (ui_ m25_ 2 0 48) 0 3 1
theorem e_sp0 : f_X9_spell m19_ 0 0 101 97 115 116 115 32 49 32 = some m20_ := by
  unfold f_X9_spell
  refine (e_b 1 (by decide +kernel)).trans ?_
  refine (e_b 0 (by decide +kernel)).trans ?_
  refine (e_b 1 (by decide +kernel)).trans ?_
  refine (e_b 2 (by decide +kernel)).trans ?_
  refine (e_b 3 (by decide +kernel)).trans ?_
  refine (e_b 4 (by decide +kernel)).trans ?_
  refine (e_b 5 (by decide +kernel)).trans ?_
  refine (e_b 6 (by decide +kernel)).trans ?_
  refine (e_b 7 (by decide +kernel)).trans ?_
  rfl
theorem e_sp1 : f_X9_spell m20_ 0 8 45 32 119 111 114 100 32 59 = some m21_ := by
  unfold f_X9_spell
  refine (e_b 1 (by decide +kernel)).trans ?_
  refine (e_b 8 (by decide +kernel)).trans ?_
  refine (e_b 9 (by decide +kernel)).trans ?_
  refine (e_b 10 (by decide +kernel)).trans ?_
  refine (e_b 11 (by decide +kernel)).trans ?_
  refine (e_b 12 (by decide +kernel)).trans ?_
  refine (e_b 13 (by decide +kernel)).trans ?_
  refine (e_b 14 (by decide +kernel)).trans ?_
  refine (e_b 15 (by decide +kernel)).trans ?_
  rfl
theorem e_sp2 : f_X9_spell m21_ 0 16 32 115 111 117 116 104 115 32 = some m22_ := by
  unfold f_X9_spell
  refine (e_b 1 (by decide +kernel)).trans ?_
  refine (e_b 16 (by decide +kernel)).trans ?_
  refine (e_b 17 (by decide +kernel)).trans ?_
  refine (e_b 18 (by decide +kernel)).trans ?_
  refine (e_b 19 (by decide +kernel)).trans ?_
  refine (e_b 20 (by decide +kernel)).trans ?_
  refine (e_b 21 (by decide +kernel)).trans ?_
  refine (e_b 22 (by decide +kernel)).trans ?_
  refine (e_b 23 (by decide +kernel)).trans ?_
  rfl
theorem e_sp3 : f_X9_spell m22_ 0 24 119 111 114 100 32 45 32 50 = some m23_ := by
  unfold f_X9_spell
  refine (e_b 1 (by decide +kernel)).trans ?_
  refine (e_b 24 (by decide +kernel)).trans ?_
  refine (e_b 25 (by decide +kernel)).trans ?_
  refine (e_b 26 (by decide +kernel)).trans ?_
  refine (e_b 27 (by decide +kernel)).trans ?_
  refine (e_b 28 (by decide +kernel)).trans ?_
  refine (e_b 29 (by decide +kernel)).trans ?_
  refine (e_b 30 (by decide +kernel)).trans ?_
  refine (e_b 31 (by decide +kernel)).trans ?_
  rfl
theorem e_sp4 : f_X9_spell m23_ 0 32 32 59 32 114 105 115 101 115 = some m24_ := by
  unfold f_X9_spell
  refine (e_b 1 (by decide +kernel)).trans ?_
  refine (e_b 32 (by decide +kernel)).trans ?_
  refine (e_b 33 (by decide +kernel)).trans ?_
  refine (e_b 34 (by decide +kernel)).trans ?_
  refine (e_b 35 (by decide +kernel)).trans ?_
  refine (e_b 36 (by decide +kernel)).trans ?_
  refine (e_b 37 (by decide +kernel)).trans ?_
  refine (e_b 38 (by decide +kernel)).trans ?_
  refine (e_b 39 (by decide +kernel)).trans ?_
  rfl
theorem e_sp5 : f_X9_spell m24_ 0 40 32 49 32 59 32 32 32 32 = some m25_ := by
  unfold f_X9_spell
  refine (e_b 1 (by decide +kernel)).trans ?_
  refine (e_b 40 (by decide +kernel)).trans ?_
  refine (e_b 41 (by decide +kernel)).trans ?_
  refine (e_b 42 (by decide +kernel)).trans ?_
  refine (e_b 43 (by decide +kernel)).trans ?_
  refine (e_b 44 (by decide +kernel)).trans ?_
  refine (e_b 45 (by decide +kernel)).trans ?_
  refine (e_b 46 (by decide +kernel)).trans ?_
  refine (e_b 47 (by decide +kernel)).trans ?_
  rfl
theorem e_mm : f_X9_init (nw_ e0_ 9 0) 0 = some m26_ := by
  unfold f_X9_init
  refine (e_lt 1 rfl).trans ?_
  refine (e_ls m1_ rfl).trans ?_
  refine (e_lt 2 rfl).trans ?_
  refine (e_ls m2_ rfl).trans ?_
  refine (e_lt 3 rfl).trans ?_
  refine (e_ls m3_ rfl).trans ?_
  refine (e_lt 4 rfl).trans ?_
  refine (e_ls m4_ rfl).trans ?_
  refine (e_lt 5 rfl).trans ?_
  refine (e_ls m5_ rfl).trans ?_
  refine (e_lt 6 rfl).trans ?_
  refine (e_ls m6_ rfl).trans ?_
  refine (e_lt 7 rfl).trans ?_
  refine (e_ls m7_ rfl).trans ?_
  refine (e_lt 8 rfl).trans ?_
  refine (e_ls m8_ rfl).trans ?_
  refine (e_lt 9 rfl).trans ?_
  refine (e_ls m9_ rfl).trans ?_
  refine (e_lt 10 rfl).trans ?_
  refine (e_ls m10_ rfl).trans ?_
  refine (e_lt 11 rfl).trans ?_
  refine (e_ls m11_ rfl).trans ?_
  refine (e_lt 12 rfl).trans ?_
  refine (e_ls m12_ rfl).trans ?_
  refine (e_lt 13 rfl).trans ?_
  refine (e_ls m13_ rfl).trans ?_
  refine (e_lt 14 rfl).trans ?_
  refine (e_ls m14_ rfl).trans ?_
  refine (e_lt 15 rfl).trans ?_
  refine (e_ls m15_ rfl).trans ?_
  refine (e_lt 16 rfl).trans ?_
  refine (e_ls m16_ rfl).trans ?_
  refine (e_lt 17 rfl).trans ?_
  refine (e_ls m17_ rfl).trans ?_
  refine (e_lt 18 rfl).trans ?_
  refine (e_ls m18_ rfl).trans ?_
  refine (e_b m20_ e_sp0).trans ?_
  refine (e_b m21_ e_sp1).trans ?_
  refine (e_b m22_ e_sp2).trans ?_
  refine (e_b m23_ e_sp3).trans ?_
  refine (e_b m24_ e_sp4).trans ?_
  refine (e_b m25_ e_sp5).trans ?_
  refine (e_b 2 (by decide +kernel)).trans ?_
  refine (e_b 0 (by decide +kernel)).trans ?_
  rfl
theorem wm1 : wf_ m1_ := wf_nw (wf_nw wf_e0 9 0) 10 960
theorem wm2 : wf_ m2_ := wf_nw (wf_ur' wm1 0 1 1 (by decide +kernel)) 10 6
theorem wm3 : wf_ m3_ := wf_nw (wf_ur' wm2 0 2 2 (by decide +kernel)) 10 160
theorem wm4 : wf_ m4_ := wf_nw (wf_ur' wm3 0 5 3 (by decide +kernel)) 10 36
theorem wm5 : wf_ m5_ := wf_nw (wf_ur' wm4 0 8 4 (by decide +kernel)) 10 4
theorem wm6 : wf_ m6_ := wf_nw (wf_ur' wm5 0 9 5 (by decide +kernel)) 10 12
theorem wm7 : wf_ m7_ := wf_nw (wf_ur' wm6 0 10 6 (by decide +kernel)) 10 288
theorem wm8 : wf_ m8_ := wf_nw (wf_ur' wm7 0 27 7 (by decide +kernel)) 10 288
theorem wm9 : wf_ m9_ := wf_nw (wf_ur' wm8 0 28 8 (by decide +kernel)) 10 36
theorem wm10 : wf_ m10_ := wf_nw (wf_ur' wm9 0 29 9 (by decide +kernel)) 10 1296
theorem wm11 : wf_ m11_ := wf_nw (wf_ur' wm10 0 30 10 (by decide +kernel)) 11 36
theorem wm12 : wf_ m12_ := wf_nw (wf_ur' wm11 0 31 11 (by decide +kernel)) 11 36
theorem wm13 : wf_ m13_ := wf_nw (wf_ur' wm12 0 32 12 (by decide +kernel)) 10 36
theorem wm14 : wf_ m14_ := wf_nw (wf_ur' wm13 0 33 13 (by decide +kernel)) 10 12
theorem wm15 : wf_ m15_ := wf_nw (wf_ur' wm14 0 34 14 (by decide +kernel)) 12 4
theorem wm16 : wf_ m16_ := wf_nw (wf_ur' wm15 0 38 15 (by decide +kernel)) 10 4
theorem wm17 : wf_ m17_ := wf_nw (wf_ur' wm16 0 39 16 (by decide +kernel)) 10 4
theorem wm18 : wf_ m18_ := wf_nw (wf_ur' wm17 0 40 17 (by decide +kernel)) 10 160
theorem wm19 : wf_ m19_ := wf_ur' wm18 0 41 18 (by decide +kernel)
theorem wm26 : wf_ m26_ := wm19
theorem sh_m26 : ShM_ m26_ := ⟨by decide +kernel, by decide +kernel, wm26⟩
/-! here: that what is made is well made -/
section
variable {σ : St_} {a b : Nat}
theorem wf_fln (h : wf_ σ) (e : sn_ σ = b) : wf_ (fln_ σ a b) := by
  unfold fln_
  refine wf_ur' (wf_nw (wf_ur' (wf_nw (wf_ur' (wf_nw (wf_ur' (wf_nw (wf_ur' (wf_nw h 13 4) a 0 b ?_) 0 0) b 0 (b + 1) ?_) 0 0) b 1 (b + 2) ?_) 0 0) b 2 (b + 3) ?_) 0 0) b 3 (b + 4) ?_
  · show b < sn_ σ + 1; omega
  · show b + 1 < sn_ σ + 1 + 1; omega
  · show b + 2 < sn_ σ + 1 + 1 + 1; omega
  · show b + 3 < sn_ σ + 1 + 1 + 1 + 1; omega
  · show b + 4 < sn_ σ + 1 + 1 + 1 + 1 + 1; omega
theorem wf_rdn (h : wf_ σ) (e : sn_ σ = b) : wf_ (rdn_ σ a b) := by
  have w1 : wf_ (ur_ (nw_ σ 10 160) a 0 (some b)) := wf_ur' (wf_nw h 10 160) a 0 b (by show b < sn_ σ + 1; omega)
  have w2 : wf_ (ur_ (nw_ (ui_ (ur_ (nw_ σ 10 160) a 0 (some b)) a 1 0) 10 160) a 2 (some (b + 1))) := wf_ur' (wf_nw (show wf_ (ui_ (ur_ (nw_ σ 10 160) a 0 (some b)) a 1 0) from w1) 10 160) a 2 (b + 1) (by show b + 1 < sn_ σ + 1 + 1; omega)
  have w3 := wf_ur' (wf_nw w2 10 160) a 3 (b + 2) (by show b + 2 < sn_ σ + 1 + 1 + 1; omega)
  have w4 := wf_ur' (wf_nw w3 10 160) a 4 (b + 3) (by show b + 3 < sn_ σ + 1 + 1 + 1 + 1; omega)
  exact wf_ur' (wf_nw (show wf_ (ui_ (ui_ (ur_ (nw_ (ur_ (nw_ (ur_ (nw_ (ui_ (ur_ (nw_ σ 10 160) a 0 (some b)) a 1 0) 10 160) a 2 (some (b + 1))) 10 160) a 3 (some (b + 2))) 10 160) a 4 (some (b + 3))) a 5 0) a 6 0) from w4) 10 160) a 7 (b + 4) (by show b + 4 < sn_ σ + 1 + 1 + 1 + 1 + 1; omega)
theorem wf_thn (h : wf_ σ) (e : sn_ σ = b) : wf_ (thn_ σ a b) := by
  have w1 := wf_ur' (wf_nw h 10 6) a 0 b (by show b < sn_ σ + 1; omega)
  have w2 := wf_ur' (wf_nw w1 10 80) a 1 (b + 1) (by show b + 1 < sn_ σ + 1 + 1; omega)
  exact (up_r (ul_ (ui_ (ur_ (nw_ (ur_ (nw_ σ 10 6) a 0 (some b)) 10 80) a 1 (some (b + 1))) a 2 0) a 3 0) a 4 none (fun b' e => by cases e)).2.2.2.2 w2
theorem wf_wyn (h : wf_ σ) (e : sn_ σ = b) : wf_ (wyn_ σ a b) := by
  have w1 := wf_ur' (wf_nw h 10 36) a 0 b (by show b < sn_ σ + 1; omega)
  have w2 := wf_ur' (wf_nw w1 10 36) a 1 (b + 1) (by show b + 1 < sn_ σ + 1 + 1; omega)
  have w3 := wf_ur' (wf_nw w2 10 36) a 2 (b + 2) (by show b + 2 < sn_ σ + 1 + 1 + 1; omega)
  have w4 := wf_ur' (wf_nw w3 10 36) a 3 (b + 3) (by show b + 3 < sn_ σ + 1 + 1 + 1 + 1; omega)
  exact wf_ur' (wf_nw w4 10 288) a 4 (b + 4) (by show b + 4 < sn_ σ + 1 + 1 + 1 + 1 + 1; omega)
theorem wf_prn (h : wf_ σ) (e : sn_ σ = b) : wf_ (prn_ σ a b) := by
  have w1 := wf_ur' (wf_nw h 10 1296) a 0 b (by show b < sn_ σ + 1; omega)
  exact wf_ur' (wf_nw w1 11 36) a 1 (b + 1) (by show b + 1 < sn_ σ + 1 + 1; omega)
theorem wf_shn (h : wf_ σ) (e : sn_ σ = b) : wf_ (shn_ σ a b) := wf_ur' (wf_nw h 10 40) a 0 b (by show b < sn_ σ + 1; omega)
end
theorem wa1 : wf_ a1_ := wf_nw (wf_nw wf_e0 8 0) 1 0
theorem wa2 : wf_ a2_ := wf_nw (wf_ur' (wf_fln wa1 rfl) 0 0 1 (by decide +kernel)) 1 0
theorem wa3 : wf_ a3_ := wf_nw (show wf_ (ui_ (ur_ (fln_ a2_ 7 8) 0 1 (some 7)) 0 2 0) from wf_ur' (wf_fln wa2 rfl) 0 1 7 (by decide +kernel)) 3 0
theorem wa4 : wf_ a4_ := wf_nw (wf_ur' (wf_rdn wa3 rfl) 0 3 13 (by decide +kernel)) 15 6
theorem wa5 : wf_ a5_ := wf_nw (show wf_ (ui_ (ur_ a4_ 0 4 (some 19)) 0 5 0) from wf_ur' wa4 0 4 19 (by decide +kernel)) 14 4
theorem wa6 : wf_ a6_ := wf_nw (wf_ur' wa5 0 6 20 (by decide +kernel)) 6 0
theorem wa7 : wf_ a7_ := wf_nw (wf_ur' (wf_thn wa6 rfl) 0 7 21 (by decide +kernel)) 7 0
theorem wa8 : wf_ a8_ := wf_nw (wf_ur' (wf_wyn wa7 rfl) 0 8 24 (by decide +kernel)) 7 0
theorem wa9 : wf_ a9_ := wf_nw (wf_ur' (wf_wyn wa8 rfl) 0 9 30 (by decide +kernel)) 2 0
theorem wa10 : wf_ a10_ := wf_nw (wf_ur' (wf_prn wa9 rfl) 0 10 36 (by decide +kernel)) 11 36
theorem wa11 : wf_ a11_ := wf_nw (wf_ur' wa10 0 11 39 (by decide +kernel)) 11 36
theorem wa12 : wf_ a12_ := wf_ur' wa11 0 12 40 (by decide +kernel)
theorem wa13 : wf_ a13_ := wf_ur' (wf_shn (wf_nw wa12 4 0) rfl) 20 0 41 (by decide +kernel)
theorem wa14 : wf_ a14_ := wf_ur' (wf_shn (wf_nw wa13 4 0) rfl) 20 1 43 (by decide +kernel)
theorem wa15 : wf_ a15_ := wf_ur' (wf_shn (wf_nw wa14 4 0) rfl) 20 2 45 (by decide +kernel)
theorem wa16 : wf_ a16_ := wf_ur' (wf_shn (wf_nw wa15 4 0) rfl) 20 3 47 (by decide +kernel)
theorem sh_a16 : ShX_ a16_ := ⟨by decide +kernel, by decide +kernel, Or.inl ⟨by decide +kernel, by decide +kernel⟩, by decide +kernel, wa16⟩
