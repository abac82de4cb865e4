/-! THE RULE OF TEXTS, as functions: letters to tokens, tokens to code, code to a number -/
abbrev Tk_ : Type := Nat × Nat × Nat
abbrev Cd_ : Type := List (Nat × Nat)
abbrev PR_ : Type := Option Cd_ × List Tk_
def isL_ (c : Nat) : Bool := 97 ≤ c && c ≤ 122
def isD_ (c : Nat) : Bool := 48 ≤ c && c ≤ 57
def isW_ (c : Nat) : Bool := c == 32 || c == 10
def isS_ (c : Nat) : Bool := c == 40 || c == 41 || c == 59 || c == 43 || c == 45 || c == 42 || c == 60 || c == 61
/-- the end of a run of letters of a sort -/
def rn_ (p : Nat → Bool) (c : Nat → Nat) (n : Nat) : Nat → Nat → Nat
  | 0, i => i
  | k + 1, i => if i < n ∧ p (c i) = true then rn_ p c n k (i + 1) else i
def nv_ (c : Nat → Nat) (i : Nat) : Nat → Nat
  | 0 => 0
  | k + 1 => nv_ c i k * 10 + (c (i + k) - 48)
/-- the letters of a word of the table, by its number: 0 is the class's first text -/
def ws_ (t : Nat) : List Nat := (sByt_.getD t []).map fun x => x.toNatClampNeg
def sp1_ (c : Nat → Nat) (i e t : Nat) : Bool := (e - i == (ws_ t).length) && ((List.range (ws_ t).length).all fun k => c (i + k) == (ws_ t).getD k 0)
def wt_ (c : Nat → Nat) (i e : Nat) : Nat :=
  if sp1_ c i e 1 then 16 else if sp1_ c i e 2 then 17 else if sp1_ c i e 3 then 18 else if sp1_ c i e 4 then 19 else if sp1_ c i e 5 then 20 else if sp1_ c i e 6 then 21
  else if sp1_ c i e 7 then 4 else if sp1_ c i e 8 then 5 else if sp1_ c i e 9 then 6 else if sp1_ c i e 10 then 7 else if sp1_ c i e 11 then 8 else if sp1_ c i e 12 then 9 else 1
/-- the tokens from a place on: what, where, worth -/
def tk_ (c : Nat → Nat) (n : Nat) : Nat → Nat → List Tk_
  | 0, _ => []
  | k + 1, i => if i < n then
      (if isL_ (c i) = true then (wt_ c i (rn_ isL_ c n n i), i, 0) :: tk_ c n k (rn_ isL_ c n n i)
       else if isD_ (c i) = true then ((if 4 < rn_ isD_ c n n i - i then 1 else 2), i, nv_ c i (rn_ isD_ c n n i - i)) :: tk_ c n k (rn_ isD_ c n n i)
       else if isW_ (c i) = true then tk_ c n k (i + 1)
       else ((if isS_ (c i) = true then c i else 1), i, 0) :: tk_ c n k (i + 1))
    else []
def hd_ (ts : List Tk_) : Nat := match ts with
  | [] => 0
  | t :: _ => t.1
/-- one, with what is a level deeper (if it may be) -/
def pOne_ (can : Bool) (nOr nOne : List Tk_ → PR_) (ts : List Tk_) : PR_ := match ts with
  | [] => (none, [])
  | (t, pl, v) :: r =>
    if t = 2 then (some [(0, v)], r)
    else if 16 ≤ t ∧ t < 22 then (some [(1, t - 16)], r)
    else if t = 45 ∧ can = true then (match nOne r with
      | (some c, r') => (some (c ++ [(3, 0)]), r')
      | (none, r') => (none, r'))
    else if t = 40 ∧ can = true then (match nOr r with
      | (some c, r') => if hd_ r' = 41 then (some c, r'.tail) else (none, r')
      | (none, r') => (none, r'))
    else (none, (t, pl, v) :: r)
/-- what goes on as long as a sign stands there -/
def pLoop_ (sg : Nat → Bool) (op : Nat → Nat) (f : List Tk_ → PR_) : Nat → Cd_ → List Tk_ → PR_
  | 0, acc, ts => (some acc, ts)
  | k + 1, acc, ts => if sg (hd_ ts) = true then (match f ts.tail with
      | (some c, r') => pLoop_ sg op f k (acc ++ c ++ [(op (hd_ ts), 0)]) r'
      | (none, r') => (none, r'))
    else (some acc, ts)
def pMany_ (sg : Nat → Bool) (op : Nat → Nat) (f : List Tk_ → PR_) (ts : List Tk_) : PR_ := match f ts with
  | (some c, r) => pLoop_ sg op f r.length c r
  | (none, r) => (none, r)
def pCmp_ (f : List Tk_ → PR_) (ts : List Tk_) : PR_ := match f ts with
  | (some c, r) => if hd_ r = 60 ∨ hd_ r = 61 then (match f r.tail with
      | (some c2, r') => (some (c ++ c2 ++ [((if hd_ r = 60 then 6 else 7), 0)]), r')
      | (none, r') => (none, r'))
    else (some c, r)
  | (none, r) => (none, r)
def pNot_ (can : Bool) (nNot f : List Tk_ → PR_) (ts : List Tk_) : PR_ :=
  if hd_ ts = 9 then (if can = true then (match nNot ts.tail with
      | (some c, r') => (some (c ++ [(2, 0)]), r')
      | (none, r') => (none, r')) else (none, ts))
  else f ts
def pTerm_ (one : List Tk_ → PR_) : List Tk_ → PR_ := pMany_ (fun t => t == 42) (fun _ => 10) one
def pSum_ (one : List Tk_ → PR_) : List Tk_ → PR_ := pMany_ (fun t => t == 43 || t == 45) (fun t => if t = 43 then 8 else 9) (pTerm_ one)
def pN_ (can : Bool) (nNot one : List Tk_ → PR_) : List Tk_ → PR_ := pNot_ can nNot (pCmp_ (pSum_ one))
def pAnd_ (can : Bool) (nNot one : List Tk_ → PR_) : List Tk_ → PR_ := pMany_ (fun t => t == 8) (fun _ => 5) (pN_ can nNot one)
def pOr_ (can : Bool) (nNot one : List Tk_ → PR_) : List Tk_ → PR_ := pMany_ (fun t => t == 7) (fun _ => 4) (pAnd_ can nNot one)
def pNo_ : List Tk_ → PR_ := fun ts => (none, ts)
/-- or, not, one with so many levels below -/
def lv_s : Nat → (List Tk_ → PR_) × (List Tk_ → PR_) × (List Tk_ → PR_)
  | 0 => (pOr_ false pNo_ (pOne_ false pNo_ pNo_), pN_ false pNo_ (pOne_ false pNo_ pNo_), pOne_ false pNo_ pNo_)
  | d + 1 => (pOr_ true (lv_s d).2.1 (pOne_ true (lv_s d).1 (lv_s d).2.2), pN_ true (lv_s d).2.1 (pOne_ true (lv_s d).1 (lv_s d).2.2), pOne_ true (lv_s d).1 (lv_s d).2.2)
def pPart_ (key : Nat) (ts : List Tk_) : PR_ := if hd_ ts = key then (match (lv_s 5).1 ts.tail with
      | (some c, r) => if hd_ r = 59 then (some c, r.tail) else (none, r)
      | (none, r) => (none, r))
  else (none, ts)
/-- a text: its three codes; or where the fault is -/
def pText_ (ts : List Tk_) : Option (Cd_ × Cd_ × Cd_) × List Tk_ := match pPart_ 4 ts with
  | (none, r) => (none, r)
  | (some a, r) => match pPart_ 5 r with
    | (none, r) => (none, r)
    | (some b, r) => match pPart_ 6 r with
      | (none, r) => (none, r)
      | (some d, r) => match r with
        | [] => (some (a, b, d), [])
        | t :: r' => (none, t :: r')
def pl_ (n : Nat) (ts : List Tk_) : Nat := match ts with
  | [] => n
  | t :: _ => t.2.1
/-- code at work -/
def e1_ (env : Nat → Int32) (s : Nat × Nat) (st : List Int32) : List Int32 := match s.1 with
  | 0 => nI s.2 :: st
  | 1 => env s.2 :: st
  | 2 => (match st with | a :: r => (if a = 0 then 1 else 0) :: r | [] => [])
  | 3 => (match st with | a :: r => (-a) :: r | [] => [])
  | 4 => (match st with | b :: a :: r => (if a ≠ 0 ∨ b ≠ 0 then 1 else 0) :: r | _ => [])
  | 5 => (match st with | b :: a :: r => (if a ≠ 0 ∧ b ≠ 0 then 1 else 0) :: r | _ => [])
  | 6 => (match st with | b :: a :: r => (if a < b then 1 else 0) :: r | _ => [])
  | 7 => (match st with | b :: a :: r => (if a = b then 1 else 0) :: r | _ => [])
  | 8 => (match st with | b :: a :: r => (a + b) :: r | _ => [])
  | 9 => (match st with | b :: a :: r => (a - b) :: r | _ => [])
  | _ => (match st with | b :: a :: r => (a * b) :: r | _ => [])
def ev_ (env : Nat → Int32) : Cd_ → List Int32 → List Int32
  | [], st => st
  | s :: c, st => ev_ env c (e1_ env s st)
def va_l (env : Nat → Int32) (c : Cd_) : Int32 := (ev_ env c []).headD 0
def en_ (s : Nat × Nat) : Int32 := nI (16 * s.2 + s.1)
