
/-- what thinking looks at: the two swings, the flyer, (gap, reach, net, tick, lag), the laws -/
abbrev Vw : Type := (Nat → Int32) × (Nat → Int32) × (Nat → Int32) × (Nat → Int32) × (Nat → Int32 → Int32 → Int32 → Int32)
def tri (a b c : Int32) : Nat → Int32 := fun j => if j = 0 then a else if j = 1 then b else c
def quad (a b c d : Int32) : Nat → Int32 := fun j => if j = 0 then a else if j = 1 then b else if j = 2 then c else d
def quin (a b c d e : Int32) : Nat → Int32 := fun j => if j = 0 then a else if j = 1 then b else if j = 2 then c else if j = 3 then d else e
def vN (V : Vw) : Nat → Int32 := V.1
def vF (V : Vw) : Nat → Int32 := V.2.1
def vY (V : Vw) : Nat → Int32 := V.2.2.1
def vW (V : Vw) : Nat → Int32 := V.2.2.2.1
def vL (V : Vw) : Nat → Int32 → Int32 → Int32 → Int32 := V.2.2.2.2
def vP (V : Vw) (t : Int32) : Int32 := swV (vN V) t
def vV (V : Vw) (t : Int32) : Int32 := vP V t - vP V (t - 1)
def vC (V : Vw) (t : Int32) : Int32 := t + vL V 0 (vY V 2) (vV V t) (vY V 1)
def vPl (V : Vw) (t : Int32) : Int32 := vP V t + vL V 1 (vY V 2) (vV V t) (vY V 1)
def vOff (V : Vw) (t a : Int32) : Int32 := vPl V t - (vW V 0 - swV (vF V) (vC V t + a))
def vHd (V : Vw) : Int32 := holdsI (vY V 0) (vY V 1) (vY V 3) (vW V 1)
def vHeld (V : Vw) (off : Int32) : Bool := decide (absI off ≤ vHd V)
def vT (V : Vw) (told : Int32) : Int32 := told + vW V 4
def vCt (V : Vw) (told : Int32) : Bool := vHeld V (vOff V (vT V told) 0)
def bI (b : Bool) : Int32 := if b = true then 1 else 0
def cntI (p : Nat → Bool) : Nat → Int32
  | 0 => 0
  | n + 1 => cntI p n + bI (p n)
def fst (p : Nat → Bool) : Nat → Option Nat
  | 0 => none
  | n + 1 => match fst p n with
    | some k => some k
    | none => if p n = true then some n else none
def oI (o : Option Nat) : Int32 := match o with
  | some k => nI k
  | none => -1
def canP (V : Vw) (k : Nat) : Bool := vCt V (vW V 3 + nI k)
def casI (V : Vw) (told : Int32) : Int32 :=
  bI (vHeld V (vOff V (vT V told + (-1)) (-1))) + bI (vHeld V (vOff V (vT V told + (-1)) 0)) + bI (vHeld V (vOff V (vT V told + (-1)) 1))
  + bI (vHeld V (vOff V (vT V told) (-1))) + bI (vHeld V (vOff V (vT V told) 0)) + bI (vHeld V (vOff V (vT V told) 1))
  + bI (vHeld V (vOff V (vT V told + 1) (-1))) + bI (vHeld V (vOff V (vT V told + 1) 0)) + bI (vHeld V (vOff V (vT V told + 1) 1))
/-- the first place of the most, and the most -/
def bst (c : Nat → Int32) : Nat → Int32 × Int32
  | 0 => (0, -1)
  | n + 1 => if (bst c n).2 < c n then (nI n, c n) else bst c n
def surI (V : Vw) (n : Nat) : Int32 := (bst (fun k => casI V (vW V 3 + nI k)) n).1
def hasN (V : Vw) (n : Nat) : Bool := (fst (canP V) n).isSome
def widV (V : Vw) (w : Int32) : Vw := (tri (vN V 0) w (vN V 2), vF V, vY V, vW V, vL V)
def phaV (V : Vw) (p : Int32) : Vw := (vN V, tri (vF V 0) (vF V 1) p, vY V, vW V, vL V)
def lagV (V : Vw) (x : Int32) : Vw := (vN V, vF V, vY V, quin (vW V 0) (vW V 1) (vW V 2) (vW V 3) x, vL V)
def pmpP (V : Vw) (n k : Nat) : Bool := hasN (widV V (minI 60 (vN V 1 + nI k))) n
def stpP (V : Vw) (n k : Nat) : Bool := hasN (phaV V (remI (vF V 2 + nI k) (vF V 0))) n
def falL (V : Vw) : Nat → List Int32
  | 0 => []
  | n + 1 => if canP V n = true then falL V n else falL V n ++ [vPl V (vT V (vW V 3 + nI n))]
def hsumI (h : Int32 → Int32) (net : Int32) (xs : List Int32) : Int32 := xs.foldl (fun s x => s + h (absI (x - net))) 0
def lstP (c : Int32 → Int32) : Nat → Int32 × Int32
  | 0 => (-99, c (-99))
  | n + 1 => if c (-99 + nI (n + 1)) < (lstP c n).2 then (-99 + nI (n + 1), c (-99 + nI (n + 1))) else lstP c n
def asT (V : Vw) (x : Nat → Int32) : Nat → Bool
  | 0 => true
  | n + 1 => asT V x n && decide (vOff V (vT V (vW V 3 + nI n)) 0 = x n)
def phsP (V : Vw) (x : Nat → Int32) (n k : Nat) : Bool := asT (phaV V (nI k)) x n
def lagP (V : Vw) (x : Nat → Int32) (n k : Nat) : Bool := asT (lagV V (nI k)) x n
/-- the class's laws, the thinker's view, the view of a flyer of the world -/
def lawC (f : Fn) : Nat → Int32 → Int32 → Int32 → Int32 := fun u k v m => if u = 0 then lawV (f 12) (f 13) k v m else lawV (f 15) (f 16) k v m
def tr3 (s : Nat → Int32) : Nat → Int32 := tri (s 0) (s 1) (s 2)
def qd4 (s : Nat → Int32) : Nat → Int32 := quad (s 0) (s 1) (s 2) (s 3)
def TV (f : Fn) : Vw := (tr3 (f 38), tr3 (f 39), qd4 (f 40), quin (f 1 2) (f 1 3) (f 1 4) (f 1 5) (f 37 6), lawC f)
def VW (f : Fn) (o : Nat) : Vw := (tr3 (f 2), tr3 (f 3), qd4 (f o), quin (f 1 2) (f 1 3) (f 1 4) (f 1 5) (lagI (f o 0) (f o 1) (f o 3)), lawC f)
/-- thinking leaves all but the laws' stacks and the thinker's own numbers; and keeps LAG and how many falls there are -/
def TFr (f f1 : Fn) : Prop := (∀ a, a ≠ 14 → a ≠ 17 → a ≠ 37 → f1 a = f a) ∧ f1 37 6 = f 37 6 ∧ f1 37 5 = f 37 5
def eqT (f f1 : Fn) : Prop := ∀ a, a ≠ 14 → a ≠ 17 → a ≠ 37 → a ≠ 38 → a ≠ 39 → a ≠ 40 → a ≠ 41 → f1 a = f a
/-- one world out of another -/
def wcp (f f1 : Fn) (t s : Nat) : Prop :=
  (∀ a, ¬ (t ≤ a ∧ a < t + 18) → f1 a = f a) ∧ (∀ j, j = 2 ∨ j = 3 ∨ j = 4 ∨ j = 5 ∨ j = 7 ∨ j = 9 ∨ j = 12 ∨ j = 13 ∨ j = 14 ∨ j = 15 ∨ j = 17 → f1 t j = f s j)
  ∧ (∀ j, j < 3 → f1 (t + 1) j = f (s + 1) j) ∧ (∀ j, j < 3 → f1 (t + 2) j = f (s + 2) j) ∧ (∀ i j, i < 6 → j < 4 → f1 (t + 4 + i) j = f (s + 4 + i) j)
  ∧ (∀ j, j < 50 → f1 (t + 10) j = f (s + 10) j) ∧ (∀ j, j < 20 → f1 (t + 17) j = f (s + 17) j)
  ∧ (∀ j, ¬ j = 5 → f1 (t + 11) j = f (t + 11) j) ∧ f1 (t + 11) 5 = minI (f (s + 11) 5) 50 ∧ (∀ j, j < (minI (f (s + 11) 5) 50).toNatClampNeg → f1 (t + 12) j = f (s + 12) j)
  ∧ (∀ j, ¬ j = 5 → f1 (t + 14) j = f (t + 14) j) ∧ f1 (t + 14) 5 = minI (f (s + 14) 5) 50 ∧ (∀ j, j < (minI (f (s + 14) 5) 50).toNatClampNeg → f1 (t + 15) j = f (s + 15) j)
def startF (f : Fn) (o : Nat) : Fn := cpr (cpr (cpr f 38 2 3) 39 3 3) 40 o 4
/-- reading a text: bytes b, n of them, from place p on; answers the place, whether it went wrong there, the steps -/
abbrev PR : Type := Nat × Bool × List Int32
def lvI (c : Int32) : Int32 := if c = 124 then 0 else if c = 38 then 1 else if c = 60 ∨ c = 61 ∨ c = 62 then 2 else if c = 43 ∨ c = 45 then 3 else if c = 42 ∨ c = 47 ∨ c = 37 then 4 else -1
def nxI (b : Nat → Int32) (n p : Nat) : Int32 := if p < n then b p else -1
def dgI (c : Int32) : Bool := decide (48 ≤ c) && decide (c ≤ 57)
def numK (b : Nat → Int32) (n p : Nat) : Nat → Nat × Int32
  | 0 => (0, 0)
  | k + 1 => if (numK b n p k).1 = k ∧ dgI (nxI b n (p + k)) = true then (k + 1, (numK b n p k).2 * 10 + nxI b n (p + k) - 48) else numK b n p k
def pLoop (rd : Nat → PR) (b : Nat → Int32) (n lv : Nat) : Nat → PR → PR
  | 0, r => r
  | k + 1, r => if r.2.1 = false ∧ lvI (nxI b n r.1) = nI lv then pLoop rd b n lv k ((rd (r.1 + 1)).1, (rd (r.1 + 1)).2.1, r.2.2 ++ (rd (r.1 + 1)).2.2 ++ [-(nxI b n r.1)]) else r
def psR (b : Nat → Int32) (n : Nat) : Nat → Nat → Nat → Nat → PR
  | 0, _, _, p => (p, true, [])
  | d + 1, lv, op, p =>
    if lv ≤ 4 then pLoop (psR b n d (lv + 1) op) b n lv (if lv = 2 then 1 else 50) (psR b n d (lv + 1) op p)
    else if dgI (nxI b n p) = true then (p + (numK b n p 4).1, false, [(numK b n p 4).2])
    else if nxI b n p = 107 ∨ nxI b n p = 118 ∨ nxI b n p = 109 then (p + 1, false, [-(nxI b n p)])
    else if nxI b n p = 33 ∧ op < 5 then ((psR b n d 5 (op + 1) (p + 1)).1, (psR b n d 5 (op + 1) (p + 1)).2.1, (psR b n d 5 (op + 1) (p + 1)).2.2 ++ [-33])
    else if nxI b n p = 40 ∧ op < 5 then
      (if (psR b n d 0 (op + 1) (p + 1)).2.1 = false ∧ nxI b n (psR b n d 0 (op + 1) (p + 1)).1 = 41 then ((psR b n d 0 (op + 1) (p + 1)).1 + 1, false, (psR b n d 0 (op + 1) (p + 1)).2.2)
       else ((psR b n d 0 (op + 1) (p + 1)).1, true, (psR b n d 0 (op + 1) (p + 1)).2.2))
    else (p, true, [])
def fuelR (lv op : Nat) : Nat := 8 * (5 - op) + 7 - lv
def pT (b : Nat → Int32) (n : Nat) : PR := psR b n 48 0 0 0
def rdSt (f : Fn) (p c : Nat) (w : Bool) : Prop := f 42 3 = nI p ∧ f 42 2 = nI c ∧ f 42 4 = bI w
def rdPre (f : Fn) : Prop := ∃ n p c : Nat, n ≤ 50 ∧ f 1 9 = nI n ∧ p ≤ n ∧ c ≤ p ∧ rdSt f p c false
def rdPost (f f1 : Fn) (lv op : Nat) : Prop := ∀ n p c d : Nat, n ≤ 50 → f 1 9 = nI n → p ≤ n → c ≤ p → rdSt f p c false → fuelR lv op ≤ d →
  rdSt f1 (psR (f 11) n d lv op p).1 (c + (psR (f 11) n d lv op p).2.2.length) (psR (f 11) n d lv op p).2.1 ∧ (∀ a, a ≠ 42 → a ≠ 43 → f1 a = f a)
  ∧ (∀ j, j < c → f1 43 j = f 43 j) ∧ (∀ j, j < (psR (f 11) n d lv op p).2.2.length → f1 43 (c + j) = (psR (f 11) n d lv op p).2.2.getD j 0)
  ∧ (psR (f 11) n d lv op p).1 ≤ n ∧ p + (psR (f 11) n d lv op p).2.2.length ≤ (psR (f 11) n d lv op p).1
/-- the bodies that an act of a kind runs (the numbers in the order in which they begin), and its answer; K: the flyer's own kind, n: its number, m: its m -/
def vo (K n m : Int32) : Nat → Int32 → Int32 → Int32 → Int32 × List Int32
  | 0, _, _, _ => (0, [])
  | d + 1, act, kd, x =>
    if act = 0 then (if kd = 0 then (x + n, [10]) else if kd = 1 then ((vo K n m d 0 (kAb kd) x).1 * 3, 20 :: (vo K n m d 0 (kAb kd) x).2) else vo K n m d 0 (kAb kd) x)
    else if act = 1 then
      (if kd = 0 then ((vo K n m d 0 K x).1 * 2, 11 :: (vo K n m d 0 K x).2)
       else if kd = 2 then ((vo K n m d 1 (kAb kd) x).1 - (vo K n m d 2 K 1).1, 30 :: ((vo K n m d 1 (kAb kd) x).2 ++ (vo K n m d 2 K 1).2))
       else if kd = 5 then ((vo K n m d 1 (kAb kd) (x + 1)).1, 60 :: (vo K n m d 1 (kAb kd) (x + 1)).2)
       else vo K n m d 1 (kAb kd) x)
    else if act = 2 then
      (if kd = 0 then (x - m, [12]) else if kd = 3 then (-(vo K n m d 2 (kAb kd) x).1, 40 :: (vo K n m d 2 (kAb kd) x).2)
       else if kd = 6 then ((vo K n m d 2 (kAb kd) x).1 ^^^ n, 70 :: (vo K n m d 2 (kAb kd) x).2) else vo K n m d 2 (kAb kd) x)
    else
      (if kd = 0 then ((vo K n m d 1 K x).1 ^^^ (vo K n m d 2 K x).1, 13 :: ((vo K n m d 1 K x).2 ++ (vo K n m d 2 K x).2))
       else if kd = 4 then ((vo K n m d 3 (kAb kd) x).1 - (vo K n m d 0 K 2).1, 50 :: ((vo K n m d 3 (kAb kd) x).2 ++ (vo K n m d 0 K 2).2))
       else if kd = 6 then ((vo K n m d 1 K x).1 - (vo K n m d 3 (kAb kd) x).1, 71 :: ((vo K n m d 1 K x).2 ++ (vo K n m d 3 (kAb kd) x).2))
       else vo K n m d 3 (kAb kd) x)
def klv (k : Int32) : Nat := if k = 0 then 0 else if k = 1 ∨ k = 2 ∨ k = 3 then 1 else 2
def awt (a : Int32) : Nat := if a = 0 ∨ a = 2 then 0 else if a = 1 then 1 else 2
/-- no act of a kind of level l writes more bodies -/
def vlb (a : Int32) (l : Nat) : Nat := if a = 0 ∨ a = 2 then 1 + l else if a = 1 then (if l = 0 then 4 else if l = 1 then 8 else 9) else if l = 0 ∨ l = 1 then 13 else 23
def actOK (a : Int32) : Prop := a = 0 ∨ a = 1 ∨ a = 2 ∨ a = 3
/-- a trace grows: t entries of the row k stood, ys come, none beyond 40 -/
def trA (f f1 : Fn) (o k row : Nat) (ys : List Int32) : Prop := ∀ t : Nat, f o k = nI t → t + ys.length ≤ 40 → f1 o k = nI (t + ys.length) ∧ (∀ j, j < t → f1 row j = f row j) ∧ (∀ j, j < ys.length → f1 row (t + j) = ys.getD j 0) ∧ ∀ j, t + ys.length ≤ j → f1 row j = f row j
def bodI (act kd : Int32) : Int32 :=
  if act = 0 then (if kd = 1 ∨ kd = 4 then 20 else 10) else if act = 1 then (if kd = 2 then 30 else if kd = 5 then 60 else 11)
  else if act = 2 then (if kd = 3 then 40 else if kd = 6 then 70 else 12) else (if kd = 4 then 50 else if kd = 6 then 71 else 13)
def gcdI : Nat → Int32 → Int32 → Int32
  | 0, a, _ => a
  | k + 1, a, b => if b = 0 then a else gcdI k b (remI a b)

def Val_X7_swingOf  (f : Fn) (a1 : Int32) : Option Nat := if a1 = 0 then some 2 else if a1 = 1 then some 3 else none
def Val_X7_lawOf  (f : Fn) (a1 : Int32) : Option Nat := if a1 = 0 then some 12 else if a1 = 1 then some 15 else none
def Val_X7_flyerOf  (f : Fn) (a1 : Int32) : Option Nat := if 0 ≤ a1 ∧ a1 < f 1 7 ∧ a1 < 6 then some (5 + a1.toNatClampNeg) else none
def Post_X7_addByte  (f : Fn) (a1 : Int32) (f1 : Fn) : Prop := f1 = if 0 ≤ f 1 9 ∧ f 1 9 < 50 then up2 (up2 f 11 (f 1 9).toNatClampNeg a1) 1 9 (f 1 9 + 1) else f
def Post_X7_addWaiting  (f : Fn) (a1 : Int32) (f1 : Fn) : Prop := f1 = if 0 ≤ f 1 17 ∧ f 1 17 < 20 then up2 (up2 f 18 (f 1 17).toNatClampNeg a1) 1 17 (f 1 17 + 1) else f
def Post_X7_draw  (f : Fn)  (r : Int32) (f1 : Fn) : Prop := f1 = up2 f 1 15 (f 1 15 * 1103515245 + 12345) ∧ r = ((f 1 15 * 1103515245 + 12345).toUInt32 >>> ((8 : Int32).toUInt32 &&& Int32.toUInt32 31)).toInt32
def Post_X7_copyA  (f : Fn)  (f1 : Fn) : Prop := wcp f f1 19 1
def Post_X7_copyB  (f : Fn)  (f1 : Fn) : Prop := wcp f f1 1 19
def Post_X5_start (o : Nat) (f : Fn)  (f1 : Fn) : Prop := f1 = up2 (startF f o) 37 6 (lagI (startF f o 40 0) (startF f o 40 1) (startF f o 40 3))
def Post_X5_fly  (f : Fn) (a1 : Int32) (a2 : Int32) (f1 : Fn) : Prop := TFr f f1 ∧ f1 37 7 = vC (TV f) (a1 + f 37 6 + a2) ∧ f1 37 8 = vPl (TV f) (a1 + f 37 6 + a2)
def Val_X5_off  (f : Fn) (a1 : Int32) : Int32 := f 37 8 - (f 1 2 - swV (f 39) (f 37 7 + a1))
def Val_X5_isHeld  (f : Fn) (a1 : Int32) : Int32 := if absI a1 ≤ holdsI (f 40 0) (f 40 1) (f 40 3) (f 1 3) then 1 else 0
def Post_X5_isCaught  (f : Fn) (a1 : Int32) (r : Int32) (f1 : Fn) : Prop := r = bI (vCt (TV f) a1) ∧ TFr f f1 ∧ f1 37 7 = vC (TV f) (vT (TV f) a1) ∧ f1 37 8 = vPl (TV f) (vT (TV f) a1)
def Post_X5_howManyCaught  (f : Fn) (a1 : Int32) (r : Int32) (f1 : Fn) : Prop := r = cntI (canP (TV f)) a1.toNatClampNeg ∧ TFr f f1
def Post_X5_firstCaught  (f : Fn) (a1 : Int32) (r : Int32) (f1 : Fn) : Prop := r = oI (fst (canP (TV f)) a1.toNatClampNeg) ∧ TFr f f1
def Post_X5_casesCaught  (f : Fn) (a1 : Int32) (r : Int32) (f1 : Fn) : Prop := r = casI (TV f) a1 ∧ TFr f f1
def Post_X5_surestWait  (f : Fn) (a1 : Int32) (r : Int32) (f1 : Fn) : Prop := r = surI (TV f) a1.toNatClampNeg ∧ TFr f f1
def Pre_X5_leastPumps  (f : Fn) (a1 : Int32) : Prop := ∃ w : Nat, 1 ≤ w ∧ w ≤ 60 ∧ f 38 1 = nI w
def Post_X5_leastPumps  (f : Fn) (a1 : Int32) (r : Int32) (f1 : Fn) : Prop := r = oI (fst (pmpP (TV f) a1.toNatClampNeg) 60) ∧ eqT f f1
def Pre_X5_leastSteps  (f : Fn) (a1 : Int32) : Prop := ∃ p : Nat, 0 < p ∧ p ≤ 40 ∧ f 39 0 = nI p
def Post_X5_leastSteps  (f : Fn) (a1 : Int32) (r : Int32) (f1 : Fn) : Prop := r = oI (fst (stpP (TV f) a1.toNatClampNeg) 40) ∧ eqT f f1
def Pre_X5_gatherFalls  (f : Fn) (a1 : Int32) : Prop := ¬ 60 < a1
def Post_X5_gatherFalls  (f : Fn) (a1 : Int32) (r : Int32) (f1 : Fn) : Prop := r = nI (falL (TV f) a1.toNatClampNeg).length ∧ f1 37 5 = r ∧ (∀ j, j < (falL (TV f) a1.toNatClampNeg).length → f1 41 j = (falL (TV f) a1.toNatClampNeg).getD j 0) ∧ eqT f f1 ∧ (∀ a, a = 38 ∨ a = 39 ∨ a = 40 → f1 a = f a)
def Pre_X5_harmTogether  (f : Fn) (a1 : Int32) : Prop := ¬ f 37 5 < 0 ∧ ¬ 60 < f 37 5
def Val_X5_harmTogether  (f : Fn) (a1 : Int32) : Int32 := hsumI (harmI (f 40 0) (f 40 3)) a1 (rowL (f 41) (f 37 5).toNatClampNeg)
def Pre_X5_leastHarmPlace  (f : Fn)  : Prop := ¬ f 37 5 < 0 ∧ ¬ 60 < f 37 5
def Val_X5_leastHarmPlace  (f : Fn)  : Int32 := (lstP (fun net => hsumI (harmI (f 40 0) (f 40 3)) net (rowL (f 41) (f 37 5).toNatClampNeg)) 398).1
def Pre_X5_isAsTold (o : Nat) (f : Fn)  : Prop := ¬ f o 2 < 0 ∧ f o 2 ≤ 40
def Post_X5_isAsTold (o : Nat) (f : Fn)  (r : Int32) (f1 : Fn) : Prop := r = bI (asT (TV f) (f (o + 1)) (f o 2).toNatClampNeg) ∧ TFr f f1
def Pre_X5_firstPhase (o : Nat) (f : Fn) (a2 : Int32) : Prop := ¬ f o 2 < 0 ∧ f o 2 ≤ 40 ∧ ∃ a p : Nat, a2 = nI a ∧ a ≤ p ∧ p ≤ 40 ∧ f 39 0 = nI p
def Post_X5_firstPhase (o : Nat) (f : Fn) (a2 : Int32) (r : Int32) (f1 : Fn) : Prop := (∀ a p : Nat, a2 = nI a → a ≤ p → p ≤ 40 → f 39 0 = nI p → r = oI (fst (fun k => decide (a ≤ k) && phsP (TV f) (f (o + 1)) (f o 2).toNatClampNeg k) p)) ∧ eqT f f1 ∧ f1 37 6 = f 37 6 ∧ f1 38 = f 38 ∧ f1 40 = f 40 ∧ (∀ j, ¬ j = 2 → f1 39 j = f 39 j)
def Pre_X5_howManyPhases (o : Nat) (f : Fn)  : Prop := ¬ f o 2 < 0 ∧ f o 2 ≤ 40 ∧ ∃ p : Nat, p ≤ 40 ∧ f 39 0 = nI p
def Post_X5_howManyPhases (o : Nat) (f : Fn)  (r : Int32) (f1 : Fn) : Prop := (∀ p : Nat, p ≤ 40 → f 39 0 = nI p → r = cntI (phsP (TV f) (f (o + 1)) (f o 2).toNatClampNeg) p) ∧ eqT f f1
def Pre_X5_leastLag (o : Nat) (f : Fn)  : Prop := ¬ f o 2 < 0 ∧ f o 2 ≤ 40
def Post_X5_leastLag (o : Nat) (f : Fn)  (r : Int32) (f1 : Fn) : Prop := r = oI (fst (lagP (TV f) (f (o + 1)) (f o 2).toNatClampNeg) 10) ∧ eqT f f1
def Val_X2_next  (f : Fn)  : Int32 := if 0 ≤ f 42 3 ∧ f 42 3 < 50 ∧ f 42 3 < f 1 9 then f 11 (f 42 3).toNatClampNeg else -1
def Pre_X2_addStep  (f : Fn) (a1 : Int32) : Prop := ¬ f 42 2 < 0
def Post_X2_addStep  (f : Fn) (a1 : Int32) (f1 : Fn) : Prop := f1 = if f 42 2 < 50 then up2 (up2 f 43 (f 42 2).toNatClampNeg a1) 42 2 (f 42 2 + 1) else f
def Val_X2_levelOf  (f : Fn) (a1 : Int32) : Int32 := lvI a1
def Val_X2_isDigit  (f : Fn) (a1 : Int32) : Int32 := bI (dgI a1)
def Pre_X2_readNumber  (f : Fn)  : Prop := ∃ n p c : Nat, n ≤ 50 ∧ f 1 9 = nI n ∧ p < n ∧ c ≤ p ∧ rdSt f p c false
def Post_X2_readNumber  (f : Fn)  (f1 : Fn) : Prop := ∀ n p c : Nat, n ≤ 50 → f 1 9 = nI n → p < n → c ≤ p → rdSt f p c false → f1 = up2 (up2 (up2 f 42 3 (nI (p + (numK (f 11) n p 4).1))) 43 c (numK (f 11) n p 4).2) 42 2 (nI (c + 1))
def Pre_X2_readLevel  (f : Fn) (a1 : Int32) (a2 : Int32) : Prop := rdPre f ∧ ∃ lv op : Nat, a1 = nI lv ∧ a2 = nI op ∧ lv ≤ 5 ∧ op ≤ 5
def Post_X2_readLevel  (f : Fn) (a1 : Int32) (a2 : Int32) (f1 : Fn) : Prop := ∀ lv op : Nat, a1 = nI lv → a2 = nI op → lv ≤ 5 → op ≤ 5 → rdPost f f1 lv op
def mu_X2_readLevel  (f : Fn) (a1 : Int32) (a2 : Int32) : Nat := 8 * (5 - a2.toNatClampNeg) + 7 - a1.toNatClampNeg
def Pre_X2_readPart  (f : Fn) (a1 : Int32) : Prop := rdPre f ∧ ∃ op : Nat, a1 = nI op ∧ op ≤ 5
def Post_X2_readPart  (f : Fn) (a1 : Int32) (f1 : Fn) : Prop := ∀ op : Nat, a1 = nI op → op ≤ 5 → rdPost f f1 5 op
def mu_X2_readPart  (f : Fn) (a1 : Int32) : Nat := 8 * (5 - a1.toNatClampNeg) + 1
def Pre_X2_readTape  (f : Fn)  : Prop := (∃ n : Nat, n ≤ 50 ∧ f 1 9 = nI n) ∧ ∀ j, j < 50 → 0 ≤ f 11 j
def Post_X2_readTape  (f : Fn)  (r : Int32) (f1 : Fn) : Prop := ∀ n : Nat, n ≤ 50 → f 1 9 = nI n → (∀ a, a ≠ 42 → a ≠ 43 → f1 a = f a) ∧ (if (pT (f 11) n).2.1 = false ∧ (pT (f 11) n).1 = n then r = -1 ∧ f1 42 2 = nI (pT (f 11) n).2.2.length ∧ (∀ j, j < (pT (f 11) n).2.2.length → f1 43 j = (pT (f 11) n).2.2.getD j 0) else r = nI (pT (f 11) n).1) ∧ (pT (f 11) n).1 ≤ n ∧ (pT (f 11) n).2.2.length ≤ (pT (f 11) n).1
def Val_X6_bodyAt  (f : Fn) (a1 : Int32) : Int32 := if 0 ≤ a1 ∧ a1 < f 44 1 ∧ a1 < 40 then f 45 a1.toNatClampNeg else 0
def Pre_X6_bodyFor  (f : Fn) (a1 : Int32) (a2 : Int32) : Prop := actOK a1 ∧ kOK a2
def Val_X6_bodyFor  (f : Fn) (a1 : Int32) (a2 : Int32) : Int32 := bodI a1 a2
def Post_X6_note  (f : Fn) (a1 : Int32) (f1 : Fn) : Prop := f1 = if 0 ≤ f 44 1 ∧ f 44 1 < 40 then up2 (up2 f 45 (f 44 1).toNatClampNeg a1) 44 1 (f 44 1 + 1) else f
def Pre_X6_say  (f : Fn) (a1 : Int32) (a2 : Int32) (a3 : Int32) (a4 : Int32) : Prop := kOK (f 46 0) ∧ actOK a1 ∧ kOK a2 ∧ (∃ t : Nat, t + vlb a1 (klv a2) ≤ 40 ∧ f 44 1 = nI t) ∧ ∃ q : Nat, a4 = nI q ∧ q + 2 * (3 * awt a1 + klv a2) ≤ 30
def Post_X6_say  (f : Fn) (a1 : Int32) (a2 : Int32) (a3 : Int32) (a4 : Int32) (r : Int32) (f1 : Fn) : Prop := (∀ d : Nat, 2 * (3 * awt a1 + klv a2) < 2 * d → r = (vo (f 46 0) (f 44 2) (f 46 1) (d + 2) a1 a2 a3).1 ∧ trA f f1 44 1 45 (vo (f 46 0) (f 44 2) (f 46 1) (d + 2) a1 a2 a3).2) ∧ (∀ a, a ≠ 44 → a ≠ 45 → f1 a = f a) ∧ (∀ j, ¬ j = 1 → f1 44 j = f 44 j)
def mu_X6_say  (f : Fn) (a1 : Int32) (a2 : Int32) (a3 : Int32) (a4 : Int32) : Nat := 2 * (3 * awt a1 + klv a2)
def Pre_X6_own  (f : Fn) (a1 : Int32) (a2 : Int32) (a3 : Int32) : Prop := kOK (f 46 0) ∧ actOK a1 ∧ (∃ t : Nat, t + vlb a1 2 ≤ 40 ∧ f 44 1 = nI t) ∧ ∃ q : Nat, a3 = nI q ∧ q + 2 * (3 * awt a1 + 2) + 1 ≤ 30
def Post_X6_own  (f : Fn) (a1 : Int32) (a2 : Int32) (a3 : Int32) (r : Int32) (f1 : Fn) : Prop := Post_X6_say f a1 (f 46 0) a2 a3 r f1
def mu_X6_own  (f : Fn) (a1 : Int32) (a2 : Int32) (a3 : Int32) : Nat := 2 * (3 * awt a1 + 2) + 1
def Pre_X6_speak (o : Nat) (f : Fn) (a1 : Int32) (a3 : Int32) (a4 : Int32) : Prop := kOK (f o 0) ∧ actOK a3 ∧ ¬ o = 44 ∧ ¬ o = 45 ∧ ¬ o = 46
def Post_X6_speak (o : Nat) (f : Fn) (a1 : Int32) (a3 : Int32) (a4 : Int32) (r : Int32) (f1 : Fn) : Prop := r = (vo (f o 0) a1 (f o 1) 12 a3 (f o 0) a4).1 ∧ f1 44 1 = nI (vo (f o 0) a1 (f o 1) 12 a3 (f o 0) a4).2.length ∧ (∀ j, j < (vo (f o 0) a1 (f o 1) 12 a3 (f o 0) a4).2.length → f1 45 j = (vo (f o 0) a1 (f o 1) 12 a3 (f o 0) a4).2.getD j 0) ∧ (∀ a, a ≠ 44 → a ≠ 45 → a ≠ 46 → f1 a = f a)
def wp_X7_swingOf (ad : Nat → Nat)  (f : Fn) (a1 : Int32) (post : Option Value → Fn → Prop) : Prop :=
  ((¬ a1 = 0 → ((¬ a1 = (1 : Int32) → (post (some .null) f)) ∧ (a1 = (1 : Int32) → (post (some (.ref (ad 3))) f)))) ∧ (a1 = 0 → (post (some (.ref (ad 2))) f)))
def wp_X7_lawOf (ad : Nat → Nat)  (f : Fn) (a1 : Int32) (post : Option Value → Fn → Prop) : Prop :=
  ((¬ a1 = 0 → ((¬ a1 = (1 : Int32) → (post (some .null) f)) ∧ (a1 = (1 : Int32) → (post (some (.ref (ad 15))) f)))) ∧ (a1 = 0 → (post (some (.ref (ad 12))) f)))
def wp_X7_flyerOf (ad : Nat → Nat)  (f : Fn) (a1 : Int32) (post : Option Value → Fn → Prop) : Prop :=
  ((a1 < 0 → (post (some .null) f)) ∧ (¬ a1 < 0 → (((f 1 7) ≤ a1 → (post (some .null) f)) ∧ (¬ (f 1 7) ≤ a1 → (((6 : Int32) ≤ a1 → (post (some .null) f)) ∧ (¬ (6 : Int32) ≤ a1 → (vp_in a1 6 ∧ (∀ k5 : Nat, ([5, 6, 7, 8, 9, 10] : List Nat)[a1.toNatClampNeg]? = some k5 → (post (some (.ref (ad k5))) f)))))))))
def wp_X7_addByte  (f : Fn) (a1 : Int32) (post : Option Value → Fn → Prop) : Prop :=
  (((f 1 9) < 0 → (post none f)) ∧ (¬ (f 1 9) < 0 → (((50 : Int32) ≤ (f 1 9) → (post none f)) ∧ (¬ (50 : Int32) ≤ (f 1 9) → (vp_in (f 1 9) 50 ∧ (post none (up2 (up2 f 11 (f 1 9).toNatClampNeg a1) 1 9 ((f 1 9) + (1 : Int32)))))))))
def wp_X7_addWaiting  (f : Fn) (a1 : Int32) (post : Option Value → Fn → Prop) : Prop :=
  (((f 1 17) < 0 → (post none f)) ∧ (¬ (f 1 17) < 0 → (((20 : Int32) ≤ (f 1 17) → (post none f)) ∧ (¬ (20 : Int32) ≤ (f 1 17) → (vp_in (f 1 17) 20 ∧ (post none (up2 (up2 f 18 (f 1 17).toNatClampNeg a1) 1 17 ((f 1 17) + (1 : Int32)))))))))
def wp_X7_draw  (f : Fn)  (post : Option Value → Fn → Prop) : Prop :=
  (post (some (.int (((((f 1 15) * (1103515245 : Int32)) + (12345 : Int32)).toUInt32 >>> ((8 : Int32).toUInt32 &&& Int32.toUInt32 31)).toInt32))) (up2 f 1 15 (((f 1 15) * (1103515245 : Int32)) + (12345 : Int32))))
def wp_X7_copyA_L100  (K64 : Fn → Int32 → Prop) (f : Fn) (x2 : Int32) (post : Option Value → Fn → Prop) : Prop :=
  (K64 f (x2 + (1 : Int32)))
def wpb_X7_copyA_L64   (K64 : Fn → Int32 → Prop) (f : Fn) (x2 : Int32) (post : Option Value → Fn → Prop) : Prop :=
  (((6 : Int32) ≤ x2 → (∀ f6 : Fn, f6 = (fun a => if a = 29 then va_cpy (f 11) (f 29) (0 : Int32).toNatClampNeg (0 : Int32).toNatClampNeg (50 : Int32).toNatClampNeg else f a) → (∀ f8 : Fn, Post_X1_copy 30 12 (up2 f6 19 9 (f6 1 9)) f8 → (∀ f10 : Fn, Post_X1_copy 33 15 f8 f10 → (∀ f12 : Fn, f12 = (fun a => if a = 36 then va_cpy ((up2 (up2 (up2 (up2 f10 19 12 (f10 1 12)) 19 13 (f10 1 13)) 19 14 (f10 1 14)) 19 15 (f10 1 15)) 18) ((up2 (up2 (up2 (up2 f10 19 12 (f10 1 12)) 19 13 (f10 1 13)) 19 14 (f10 1 14)) 19 15 (f10 1 15)) 36) (0 : Int32).toNatClampNeg (0 : Int32).toNatClampNeg (20 : Int32).toNatClampNeg else (up2 (up2 (up2 (up2 f10 19 12 (f10 1 12)) 19 13 (f10 1 13)) 19 14 (f10 1 14)) 19 15 (f10 1 15)) a) → (post none (up2 f12 19 17 (f12 1 17)))))))) ∧ (¬ (6 : Int32) ≤ x2 → (vp_in x2 6 ∧ (∀ k15 : Nat, ([23, 24, 25, 26, 27, 28] : List Nat)[x2.toNatClampNeg]? = some k15 → (vp_in x2 6 ∧ (∀ k18 : Nat, ([5, 6, 7, 8, 9, 10] : List Nat)[x2.toNatClampNeg]? = some k18 → (isFl k15 ∧ (isFl k18 ∧ (∀ f22 : Fn, Post_X0_copy k15 k18 f f22 → (wp_X7_copyA_L100  K64 f22 x2 post))))))))))
def wp_X7_copyA_L64   (f : Fn) (x2 : Int32) (post : Option Value → Fn → Prop) : Prop :=
  ∃ (I : Fn → Int32 → Prop) (μ : Fn → Int32 → Nat), I f x2 ∧ ∀ (f : Fn) (x2 : Int32), I f x2 → wpb_X7_copyA_L64   (fun (f9 : Fn) (x29 : Int32) => I f9 x29 ∧ μ f9 x29 < μ f x2) f x2 post
def wp_X7_copyA  (f : Fn)  (post : Option Value → Fn → Prop) : Prop :=
  (∀ f1 : Fn, Post_X4_copy 20 2 f f1 → (∀ f3 : Fn, Post_X4_copy 21 3 f1 f3 → (wp_X7_copyA_L64   (up2 (up2 (up2 (up2 (up2 f3 19 2 (f3 1 2)) 19 3 (f3 1 3)) 19 4 (f3 1 4)) 19 5 (f3 1 5)) 19 7 (f3 1 7)) (0 : Int32) post)))
def wp_X7_copyB_L100  (K64 : Fn → Int32 → Prop) (f : Fn) (x2 : Int32) (post : Option Value → Fn → Prop) : Prop :=
  (K64 f (x2 + (1 : Int32)))
def wpb_X7_copyB_L64   (K64 : Fn → Int32 → Prop) (f : Fn) (x2 : Int32) (post : Option Value → Fn → Prop) : Prop :=
  (((6 : Int32) ≤ x2 → (∀ f6 : Fn, f6 = (fun a => if a = 11 then va_cpy (f 29) (f 11) (0 : Int32).toNatClampNeg (0 : Int32).toNatClampNeg (50 : Int32).toNatClampNeg else f a) → (∀ f8 : Fn, Post_X1_copy 12 30 (up2 f6 1 9 (f6 19 9)) f8 → (∀ f10 : Fn, Post_X1_copy 15 33 f8 f10 → (∀ f12 : Fn, f12 = (fun a => if a = 18 then va_cpy ((up2 (up2 (up2 (up2 f10 1 12 (f10 19 12)) 1 13 (f10 19 13)) 1 14 (f10 19 14)) 1 15 (f10 19 15)) 36) ((up2 (up2 (up2 (up2 f10 1 12 (f10 19 12)) 1 13 (f10 19 13)) 1 14 (f10 19 14)) 1 15 (f10 19 15)) 18) (0 : Int32).toNatClampNeg (0 : Int32).toNatClampNeg (20 : Int32).toNatClampNeg else (up2 (up2 (up2 (up2 f10 1 12 (f10 19 12)) 1 13 (f10 19 13)) 1 14 (f10 19 14)) 1 15 (f10 19 15)) a) → (post none (up2 f12 1 17 (f12 19 17)))))))) ∧ (¬ (6 : Int32) ≤ x2 → (vp_in x2 6 ∧ (∀ k15 : Nat, ([5, 6, 7, 8, 9, 10] : List Nat)[x2.toNatClampNeg]? = some k15 → (vp_in x2 6 ∧ (∀ k18 : Nat, ([23, 24, 25, 26, 27, 28] : List Nat)[x2.toNatClampNeg]? = some k18 → (isFl k15 ∧ (isFl k18 ∧ (∀ f22 : Fn, Post_X0_copy k15 k18 f f22 → (wp_X7_copyB_L100  K64 f22 x2 post))))))))))
def wp_X7_copyB_L64   (f : Fn) (x2 : Int32) (post : Option Value → Fn → Prop) : Prop :=
  ∃ (I : Fn → Int32 → Prop) (μ : Fn → Int32 → Nat), I f x2 ∧ ∀ (f : Fn) (x2 : Int32), I f x2 → wpb_X7_copyB_L64   (fun (f9 : Fn) (x29 : Int32) => I f9 x29 ∧ μ f9 x29 < μ f x2) f x2 post
def wp_X7_copyB  (f : Fn)  (post : Option Value → Fn → Prop) : Prop :=
  (∀ f1 : Fn, Post_X4_copy 2 20 f f1 → (∀ f3 : Fn, Post_X4_copy 3 21 f1 f3 → (wp_X7_copyB_L64   (up2 (up2 (up2 (up2 (up2 f3 1 2 (f3 19 2)) 1 3 (f3 19 3)) 1 4 (f3 19 4)) 1 5 (f3 19 5)) 1 7 (f3 19 7)) (0 : Int32) post)))
def wp_X5_start (o : Nat) (f : Fn)  (post : Option Value → Fn → Prop) : Prop :=
  (∀ f1 : Fn, Post_X4_copy 38 2 f f1 → (∀ f3 : Fn, Post_X4_copy 39 3 f1 f3 → (∀ f5 : Fn, Post_X0_copy 40 o f3 f5 → (post none (up2 f5 37 6 (Val_X0_lag 40 f5))))))
def wp_X5_fly  (f : Fn) (a1 : Int32) (a2 : Int32) (post : Option Value → Fn → Prop) : Prop :=
  (∀ (r1 : Int32) (f2 : Fn), Post_X1_gives 12 f (f 40 2) ((Val_X4_placeAt 38 f ((a1 + (f 37 6)) + a2)) - (Val_X4_placeAt 38 f (((a1 + (f 37 6)) + a2) - (1 : Int32)))) (f 40 1) r1 f2 → (∀ (r4 : Int32) (f5 : Fn), Post_X1_gives 15 (up2 f2 37 7 (((a1 + (f 37 6)) + a2) + r1)) (f2 40 2) ((Val_X4_placeAt 38 f ((a1 + (f 37 6)) + a2)) - (Val_X4_placeAt 38 f (((a1 + (f 37 6)) + a2) - (1 : Int32)))) (f2 40 1) r4 f5 → (post none (up2 f5 37 8 ((Val_X4_placeAt 38 f ((a1 + (f 37 6)) + a2)) + r4)))))
def wp_X5_off  (f : Fn) (a1 : Int32) (post : Option Value → Fn → Prop) : Prop :=
  (post (some (.int ((f 37 8) - ((f 1 2) - (Val_X4_placeAt 39 f ((f 37 7) + a1)))))) f)
def wp_X5_isHeld  (f : Fn) (a1 : Int32) (post : Option Value → Fn → Prop) : Prop :=
  (((Val_X0_holds 40 f (f 1 3)) < (Val_J9_abs_0f7a4 f a1) → (post (some (.int (0 : Int32))) f)) ∧ (¬ (Val_X0_holds 40 f (f 1 3)) < (Val_J9_abs_0f7a4 f a1) → (post (some (.int (1 : Int32))) f)))
def wp_X5_isCaught  (f : Fn) (a1 : Int32) (post : Option Value → Fn → Prop) : Prop :=
  (∀ f1 : Fn, Post_X5_fly f a1 (0 : Int32) f1 → (((Val_X5_isHeld f1 (Val_X5_off f1 (0 : Int32))) = 0 ∨ (Val_X5_isHeld f1 (Val_X5_off f1 (0 : Int32))) = 1) ∧ (post (some (.int (Val_X5_isHeld f1 (Val_X5_off f1 (0 : Int32))))) f1)))
def wp_X5_howManyCaught_L31  (K4 : Fn → Int32 → Int32 → Int32 → Prop) (f : Fn) (x1 : Int32) (x3 : Int32) (s0 : Int32) (s1 : Int32) (post : Option Value → Fn → Prop) : Prop :=
  (K4 f x1 (s1 + s0) (x3 + (1 : Int32)))
def wpb_X5_howManyCaught_L4   (K4 : Fn → Int32 → Int32 → Int32 → Prop) (f : Fn) (x1 : Int32) (x2 : Int32) (x3 : Int32) (post : Option Value → Fn → Prop) : Prop :=
  ((x1 ≤ x3 → (post (some (.int x2)) f)) ∧ (¬ x1 ≤ x3 → (∀ (r2 : Int32) (f3 : Fn), Post_X5_isCaught f ((f 1 5) + x3) r2 f3 → ((r2 = 0 → (wp_X5_howManyCaught_L31  K4 f3 x1 x3 (0 : Int32) x2 post)) ∧ (¬ r2 = 0 → (wp_X5_howManyCaught_L31  K4 f3 x1 x3 (1 : Int32) x2 post))))))
def wp_X5_howManyCaught_L4   (f : Fn) (x1 : Int32) (x2 : Int32) (x3 : Int32) (post : Option Value → Fn → Prop) : Prop :=
  ∃ (I : Fn → Int32 → Int32 → Int32 → Prop) (μ : Fn → Int32 → Int32 → Int32 → Nat), I f x1 x2 x3 ∧ ∀ (f : Fn) (x1 : Int32) (x2 : Int32) (x3 : Int32), I f x1 x2 x3 → wpb_X5_howManyCaught_L4   (fun (f9 : Fn) (x19 : Int32) (x29 : Int32) (x39 : Int32) => I f9 x19 x29 x39 ∧ μ f9 x19 x29 x39 < μ f x1 x2 x3) f x1 x2 x3 post
def wp_X5_howManyCaught  (f : Fn) (a1 : Int32) (post : Option Value → Fn → Prop) : Prop :=
  (wp_X5_howManyCaught_L4   f a1 (0 : Int32) (0 : Int32) post)
def wpb_X5_firstCaught_L2   (K2 : Fn → Int32 → Int32 → Prop) (f : Fn) (x1 : Int32) (x2 : Int32) (post : Option Value → Fn → Prop) : Prop :=
  ((x1 ≤ x2 → (post (some (.int (-1 : Int32))) f)) ∧ (¬ x1 ≤ x2 → (∀ (r2 : Int32) (f3 : Fn), Post_X5_isCaught f ((f 1 5) + x2) r2 f3 → ((r2 = 0 → (K2 f3 x1 (x2 + (1 : Int32)))) ∧ (¬ r2 = 0 → (post (some (.int x2)) f3))))))
def wp_X5_firstCaught_L2   (f : Fn) (x1 : Int32) (x2 : Int32) (post : Option Value → Fn → Prop) : Prop :=
  ∃ (I : Fn → Int32 → Int32 → Prop) (μ : Fn → Int32 → Int32 → Nat), I f x1 x2 ∧ ∀ (f : Fn) (x1 : Int32) (x2 : Int32), I f x1 x2 → wpb_X5_firstCaught_L2   (fun (f9 : Fn) (x19 : Int32) (x29 : Int32) => I f9 x19 x29 ∧ μ f9 x19 x29 < μ f x1 x2) f x1 x2 post
def wp_X5_firstCaught  (f : Fn) (a1 : Int32) (post : Option Value → Fn → Prop) : Prop :=
  (wp_X5_firstCaught_L2   f a1 (0 : Int32) post)
def wp_X5_casesCaught_L43  (K4 : Fn → Int32 → Int32 → Int32 → Prop) (K18 : Fn → Int32 → Int32 → Int32 → Int32 → Prop) (f : Fn) (x1 : Int32) (x3 : Int32) (x4 : Int32) (s0 : Int32) (s1 : Int32) (post : Option Value → Fn → Prop) : Prop :=
  (K18 f x1 (s1 + s0) x3 (x4 + (1 : Int32)))
def wpb_X5_casesCaught_L18  (K4 : Fn → Int32 → Int32 → Int32 → Prop) (K18 : Fn → Int32 → Int32 → Int32 → Int32 → Prop) (f : Fn) (x1 : Int32) (x2 : Int32) (x3 : Int32) (x4 : Int32) (post : Option Value → Fn → Prop) : Prop :=
  (((1 : Int32) < x4 → (K4 f x1 x2 (x3 + (1 : Int32)))) ∧ (¬ (1 : Int32) < x4 → (((Val_X5_isHeld f (Val_X5_off f x4)) = 0 → (wp_X5_casesCaught_L43  K4 K18 f x1 x3 x4 (0 : Int32) x2 post)) ∧ (¬ (Val_X5_isHeld f (Val_X5_off f x4)) = 0 → (wp_X5_casesCaught_L43  K4 K18 f x1 x3 x4 (1 : Int32) x2 post)))))
def wp_X5_casesCaught_L18  (K4 : Fn → Int32 → Int32 → Int32 → Prop) (f : Fn) (x1 : Int32) (x2 : Int32) (x3 : Int32) (x4 : Int32) (post : Option Value → Fn → Prop) : Prop :=
  ∃ (I : Fn → Int32 → Int32 → Int32 → Int32 → Prop) (μ : Fn → Int32 → Int32 → Int32 → Int32 → Nat), I f x1 x2 x3 x4 ∧ ∀ (f : Fn) (x1 : Int32) (x2 : Int32) (x3 : Int32) (x4 : Int32), I f x1 x2 x3 x4 → wpb_X5_casesCaught_L18  K4 (fun (f9 : Fn) (x19 : Int32) (x29 : Int32) (x39 : Int32) (x49 : Int32) => I f9 x19 x29 x39 x49 ∧ μ f9 x19 x29 x39 x49 < μ f x1 x2 x3 x4) f x1 x2 x3 x4 post
def wpb_X5_casesCaught_L4   (K4 : Fn → Int32 → Int32 → Int32 → Prop) (f : Fn) (x1 : Int32) (x2 : Int32) (x3 : Int32) (post : Option Value → Fn → Prop) : Prop :=
  (((1 : Int32) < x3 → (post (some (.int x2)) f)) ∧ (¬ (1 : Int32) < x3 → (∀ f2 : Fn, Post_X5_fly f x1 x3 f2 → (wp_X5_casesCaught_L18  K4 f2 x1 x2 x3 (-1 : Int32) post))))
def wp_X5_casesCaught_L4   (f : Fn) (x1 : Int32) (x2 : Int32) (x3 : Int32) (post : Option Value → Fn → Prop) : Prop :=
  ∃ (I : Fn → Int32 → Int32 → Int32 → Prop) (μ : Fn → Int32 → Int32 → Int32 → Nat), I f x1 x2 x3 ∧ ∀ (f : Fn) (x1 : Int32) (x2 : Int32) (x3 : Int32), I f x1 x2 x3 → wpb_X5_casesCaught_L4   (fun (f9 : Fn) (x19 : Int32) (x29 : Int32) (x39 : Int32) => I f9 x19 x29 x39 ∧ μ f9 x19 x29 x39 < μ f x1 x2 x3) f x1 x2 x3 post
def wp_X5_casesCaught  (f : Fn) (a1 : Int32) (post : Option Value → Fn → Prop) : Prop :=
  (wp_X5_casesCaught_L4   f a1 (0 : Int32) (-1 : Int32) post)
def wp_X5_surestWait_L41  (K7 : Fn → Int32 → Int32 → Int32 → Int32 → Prop) (f : Fn) (x1 : Int32) (x2 : Int32) (x3 : Int32) (x4 : Int32) (post : Option Value → Fn → Prop) : Prop :=
  (K7 f x1 x2 x3 (x4 + (1 : Int32)))
def wpb_X5_surestWait_L7   (K7 : Fn → Int32 → Int32 → Int32 → Int32 → Prop) (f : Fn) (x1 : Int32) (x2 : Int32) (x3 : Int32) (x4 : Int32) (post : Option Value → Fn → Prop) : Prop :=
  ((x1 ≤ x4 → (post (some (.int x2)) f)) ∧ (¬ x1 ≤ x4 → (∀ (r2 : Int32) (f3 : Fn), Post_X5_casesCaught f ((f 1 5) + x4) r2 f3 → ((r2 ≤ x3 → (wp_X5_surestWait_L41  K7 f3 x1 x2 x3 x4 post)) ∧ (¬ r2 ≤ x3 → (wp_X5_surestWait_L41  K7 f3 x1 x4 r2 x4 post))))))
def wp_X5_surestWait_L7   (f : Fn) (x1 : Int32) (x2 : Int32) (x3 : Int32) (x4 : Int32) (post : Option Value → Fn → Prop) : Prop :=
  ∃ (I : Fn → Int32 → Int32 → Int32 → Int32 → Prop) (μ : Fn → Int32 → Int32 → Int32 → Int32 → Nat), I f x1 x2 x3 x4 ∧ ∀ (f : Fn) (x1 : Int32) (x2 : Int32) (x3 : Int32) (x4 : Int32), I f x1 x2 x3 x4 → wpb_X5_surestWait_L7   (fun (f9 : Fn) (x19 : Int32) (x29 : Int32) (x39 : Int32) (x49 : Int32) => I f9 x19 x29 x39 x49 ∧ μ f9 x19 x29 x39 x49 < μ f x1 x2 x3 x4) f x1 x2 x3 x4 post
def wp_X5_surestWait  (f : Fn) (a1 : Int32) (post : Option Value → Fn → Prop) : Prop :=
  (wp_X5_surestWait_L7   f a1 (0 : Int32) (-1 : Int32) (0 : Int32) post)
def wpb_X5_leastPumps_L10   (K10 : Fn → Int32 → Int32 → Int32 → Prop) (f : Fn) (x1 : Int32) (x2 : Int32) (x3 : Int32) (post : Option Value → Fn → Prop) : Prop :=
  (((59 : Int32) < x3 → (post (some (.int (-1 : Int32))) f)) ∧ (¬ (59 : Int32) < x3 → (((60 : Int32) < (x2 + x3) → (post (some (.int (-1 : Int32))) f)) ∧ (¬ (60 : Int32) < (x2 + x3) → (∀ (r3 : Int32) (f4 : Fn), Post_X5_firstCaught (up2 f 38 1 (x2 + x3)) x1 r3 f4 → ((r3 < 0 → (K10 f4 x1 x2 (x3 + (1 : Int32)))) ∧ (¬ r3 < 0 → (post (some (.int x3)) f4))))))))
def wp_X5_leastPumps_L10   (f : Fn) (x1 : Int32) (x2 : Int32) (x3 : Int32) (post : Option Value → Fn → Prop) : Prop :=
  ∃ (I : Fn → Int32 → Int32 → Int32 → Prop) (μ : Fn → Int32 → Int32 → Int32 → Nat), I f x1 x2 x3 ∧ ∀ (f : Fn) (x1 : Int32) (x2 : Int32) (x3 : Int32), I f x1 x2 x3 → wpb_X5_leastPumps_L10   (fun (f9 : Fn) (x19 : Int32) (x29 : Int32) (x39 : Int32) => I f9 x19 x29 x39 ∧ μ f9 x19 x29 x39 < μ f x1 x2 x3) f x1 x2 x3 post
def wp_X5_leastPumps  (f : Fn) (a1 : Int32) (post : Option Value → Fn → Prop) : Prop :=
  (wp_X5_leastPumps_L10   f a1 (f 38 1) (0 : Int32) post)
def wpb_X5_leastSteps_L10   (K10 : Fn → Int32 → Int32 → Int32 → Prop) (f : Fn) (x1 : Int32) (x2 : Int32) (x3 : Int32) (post : Option Value → Fn → Prop) : Prop :=
  (((40 : Int32) ≤ x3 → (post (some (.int (-1 : Int32))) f)) ∧ (¬ (40 : Int32) ≤ x3 → (((f 39 0) ≤ 0 → (post (some (.int (-1 : Int32))) f)) ∧ (¬ (f 39 0) ≤ 0 → (¬ (f 39 0) = 0 ∧ (∀ (r4 : Int32) (f5 : Fn), Post_X5_firstCaught (up2 f 39 2 ((x2 + x3) - ((x2 + x3) / (f 39 0)) * (f 39 0))) x1 r4 f5 → ((r4 < 0 → (K10 f5 x1 x2 (x3 + (1 : Int32)))) ∧ (¬ r4 < 0 → (post (some (.int x3)) f5)))))))))
def wp_X5_leastSteps_L10   (f : Fn) (x1 : Int32) (x2 : Int32) (x3 : Int32) (post : Option Value → Fn → Prop) : Prop :=
  ∃ (I : Fn → Int32 → Int32 → Int32 → Prop) (μ : Fn → Int32 → Int32 → Int32 → Nat), I f x1 x2 x3 ∧ ∀ (f : Fn) (x1 : Int32) (x2 : Int32) (x3 : Int32), I f x1 x2 x3 → wpb_X5_leastSteps_L10   (fun (f9 : Fn) (x19 : Int32) (x29 : Int32) (x39 : Int32) => I f9 x19 x29 x39 ∧ μ f9 x19 x29 x39 < μ f x1 x2 x3) f x1 x2 x3 post
def wp_X5_leastSteps  (f : Fn) (a1 : Int32) (post : Option Value → Fn → Prop) : Prop :=
  (wp_X5_leastSteps_L10   f a1 (f 39 2) (0 : Int32) post)
def wp_X5_gatherFalls_L73   (f : Fn)  (post : Option Value → Fn → Prop) : Prop :=
  (post (some (.int (f 37 5))) f)
def wp_X5_gatherFalls_L67  (K7 : Fn → Int32 → Int32 → Prop) (f : Fn) (x1 : Int32) (x2 : Int32) (post : Option Value → Fn → Prop) : Prop :=
  (K7 f x1 (x2 + (1 : Int32)))
def wpb_X5_gatherFalls_L7   (K7 : Fn → Int32 → Int32 → Prop) (f : Fn) (x1 : Int32) (x2 : Int32) (post : Option Value → Fn → Prop) : Prop :=
  ((x1 ≤ x2 → (wp_X5_gatherFalls_L73   f  post)) ∧ (¬ x1 ≤ x2 → (((f 37 5) < 0 → (wp_X5_gatherFalls_L73   f  post)) ∧ (¬ (f 37 5) < 0 → (((60 : Int32) ≤ (f 37 5) → (wp_X5_gatherFalls_L73   f  post)) ∧ (¬ (60 : Int32) ≤ (f 37 5) → (∀ (r4 : Int32) (f5 : Fn), Post_X5_isCaught f ((f 1 5) + x2) r4 f5 → ((¬ r4 = 0 → (wp_X5_gatherFalls_L67  K7 f5 x1 x2 post)) ∧ (r4 = 0 → (vp_in (f5 37 5) 60 ∧ (wp_X5_gatherFalls_L67  K7 (up2 (up2 f5 41 (f5 37 5).toNatClampNeg (f5 37 8)) 37 5 ((f5 37 5) + (1 : Int32))) x1 x2 post)))))))))))
def wp_X5_gatherFalls_L7   (f : Fn) (x1 : Int32) (x2 : Int32) (post : Option Value → Fn → Prop) : Prop :=
  ∃ (I : Fn → Int32 → Int32 → Prop) (μ : Fn → Int32 → Int32 → Nat), I f x1 x2 ∧ ∀ (f : Fn) (x1 : Int32) (x2 : Int32), I f x1 x2 → wpb_X5_gatherFalls_L7   (fun (f9 : Fn) (x19 : Int32) (x29 : Int32) => I f9 x19 x29 ∧ μ f9 x19 x29 < μ f x1 x2) f x1 x2 post
def wp_X5_gatherFalls  (f : Fn) (a1 : Int32) (post : Option Value → Fn → Prop) : Prop :=
  (wp_X5_gatherFalls_L7   (up2 f 37 5 (0 : Int32)) a1 (0 : Int32) post)
def wpb_X5_harmTogether_L4   (K4 : Fn → Int32 → Int32 → Int32 → Prop) (f : Fn) (x1 : Int32) (x2 : Int32) (x3 : Int32) (post : Option Value → Fn → Prop) : Prop :=
  (((f 37 5) ≤ x3 → (post (some (.int x2)) f)) ∧ (¬ (f 37 5) ≤ x3 → (((60 : Int32) ≤ x3 → (post (some (.int x2)) f)) ∧ (¬ (60 : Int32) ≤ x3 → (vp_in x3 60 ∧ (K4 f x1 (x2 + (Val_X0_harm 40 f (Val_J9_abs_0f7a4 f ((f 41 x3.toNatClampNeg) - x1)))) (x3 + (1 : Int32))))))))
def wp_X5_harmTogether_L4   (f : Fn) (x1 : Int32) (x2 : Int32) (x3 : Int32) (post : Option Value → Fn → Prop) : Prop :=
  ∃ (I : Fn → Int32 → Int32 → Int32 → Prop) (μ : Fn → Int32 → Int32 → Int32 → Nat), I f x1 x2 x3 ∧ ∀ (f : Fn) (x1 : Int32) (x2 : Int32) (x3 : Int32), I f x1 x2 x3 → wpb_X5_harmTogether_L4   (fun (f9 : Fn) (x19 : Int32) (x29 : Int32) (x39 : Int32) => I f9 x19 x29 x39 ∧ μ f9 x19 x29 x39 < μ f x1 x2 x3) f x1 x2 x3 post
def wp_X5_harmTogether  (f : Fn) (a1 : Int32) (post : Option Value → Fn → Prop) : Prop :=
  (wp_X5_harmTogether_L4   f a1 (0 : Int32) (0 : Int32) post)
def wp_X5_leastHarmPlace_L37  (K12 : Fn → Int32 → Int32 → Int32 → Prop) (f : Fn) (x1 : Int32) (x2 : Int32) (x3 : Int32) (post : Option Value → Fn → Prop) : Prop :=
  (K12 f x1 x2 (x3 + (1 : Int32)))
def wpb_X5_leastHarmPlace_L12   (K12 : Fn → Int32 → Int32 → Int32 → Prop) (f : Fn) (x1 : Int32) (x2 : Int32) (x3 : Int32) (post : Option Value → Fn → Prop) : Prop :=
  (((299 : Int32) < x3 → (post (some (.int x1)) f)) ∧ (¬ (299 : Int32) < x3 → (Pre_X5_harmTogether f x3 ∧ ((x2 ≤ (Val_X5_harmTogether f x3) → (wp_X5_leastHarmPlace_L37  K12 f x1 x2 x3 post)) ∧ (¬ x2 ≤ (Val_X5_harmTogether f x3) → (wp_X5_leastHarmPlace_L37  K12 f x3 (Val_X5_harmTogether f x3) x3 post))))))
def wp_X5_leastHarmPlace_L12   (f : Fn) (x1 : Int32) (x2 : Int32) (x3 : Int32) (post : Option Value → Fn → Prop) : Prop :=
  ∃ (I : Fn → Int32 → Int32 → Int32 → Prop) (μ : Fn → Int32 → Int32 → Int32 → Nat), I f x1 x2 x3 ∧ ∀ (f : Fn) (x1 : Int32) (x2 : Int32) (x3 : Int32), I f x1 x2 x3 → wpb_X5_leastHarmPlace_L12   (fun (f9 : Fn) (x19 : Int32) (x29 : Int32) (x39 : Int32) => I f9 x19 x29 x39 ∧ μ f9 x19 x29 x39 < μ f x1 x2 x3) f x1 x2 x3 post
def wp_X5_leastHarmPlace  (f : Fn)  (post : Option Value → Fn → Prop) : Prop :=
  (Pre_X5_harmTogether f (-99 : Int32) ∧ (wp_X5_leastHarmPlace_L12   f (-99 : Int32) (Val_X5_harmTogether f (-99 : Int32)) (-98 : Int32) post))
def wpb_X5_isAsTold_L2 (o : Nat)  (K2 : Fn → Int32 → Prop) (f : Fn) (x2 : Int32) (post : Option Value → Fn → Prop) : Prop :=
  (((f o 2) ≤ x2 → (post (some (.int (1 : Int32))) f)) ∧ (¬ (f o 2) ≤ x2 → (∀ f2 : Fn, Post_X5_fly f ((f 1 5) + x2) (0 : Int32) f2 → (Pre_X3_read o f2 x2 ∧ (((Val_X5_off f2 (0 : Int32)) = (Val_X3_read o f2 x2) → (K2 f2 (x2 + (1 : Int32)))) ∧ (¬ (Val_X5_off f2 (0 : Int32)) = (Val_X3_read o f2 x2) → (post (some (.int (0 : Int32))) f2)))))))
def wp_X5_isAsTold_L2 (o : Nat)  (f : Fn) (x2 : Int32) (post : Option Value → Fn → Prop) : Prop :=
  ∃ (I : Fn → Int32 → Prop) (μ : Fn → Int32 → Nat), I f x2 ∧ ∀ (f : Fn) (x2 : Int32), I f x2 → wpb_X5_isAsTold_L2 o  (fun (f9 : Fn) (x29 : Int32) => I f9 x29 ∧ μ f9 x29 < μ f x2) f x2 post
def wp_X5_isAsTold (o : Nat) (f : Fn)  (post : Option Value → Fn → Prop) : Prop :=
  (wp_X5_isAsTold_L2 o  f (0 : Int32) post)
def wpb_X5_firstPhase_L2 (o : Nat)  (K2 : Fn → Int32 → Prop) (f : Fn) (x3 : Int32) (post : Option Value → Fn → Prop) : Prop :=
  (((f 39 0) ≤ x3 → (post (some (.int (-1 : Int32))) f)) ∧ (¬ (f 39 0) ≤ x3 → (Pre_X5_isAsTold o (up2 f 39 2 x3) ∧ (∀ (r3 : Int32) (f4 : Fn), Post_X5_isAsTold o (up2 f 39 2 x3) r3 f4 → ((r3 = 0 → (K2 f4 (x3 + (1 : Int32)))) ∧ (¬ r3 = 0 → (post (some (.int x3)) f4)))))))
def wp_X5_firstPhase_L2 (o : Nat)  (f : Fn) (x3 : Int32) (post : Option Value → Fn → Prop) : Prop :=
  ∃ (I : Fn → Int32 → Prop) (μ : Fn → Int32 → Nat), I f x3 ∧ ∀ (f : Fn) (x3 : Int32), I f x3 → wpb_X5_firstPhase_L2 o  (fun (f9 : Fn) (x39 : Int32) => I f9 x39 ∧ μ f9 x39 < μ f x3) f x3 post
def wp_X5_firstPhase (o : Nat) (f : Fn) (a2 : Int32) (post : Option Value → Fn → Prop) : Prop :=
  (wp_X5_firstPhase_L2 o  f a2 post)
def wpb_X5_howManyPhases_L12 (o : Nat)  (K12 : Fn → Int32 → Int32 → Int32 → Prop) (f : Fn) (x2 : Int32) (x3 : Int32) (x4 : Int32) (post : Option Value → Fn → Prop) : Prop :=
  (((40 : Int32) ≤ x4 → (post (some (.int x2)) f)) ∧ (¬ (40 : Int32) ≤ x4 → ((x3 < 0 → (post (some (.int x2)) f)) ∧ (¬ x3 < 0 → (Pre_X5_firstPhase o f (x3 + (1 : Int32)) ∧ (∀ (r8 : Int32) (f9 : Fn), Post_X5_firstPhase o f (x3 + (1 : Int32)) r8 f9 → (K12 f9 (x2 + (1 : Int32)) r8 (x4 + (1 : Int32)))))))))
def wp_X5_howManyPhases_L12 (o : Nat)  (f : Fn) (x2 : Int32) (x3 : Int32) (x4 : Int32) (post : Option Value → Fn → Prop) : Prop :=
  ∃ (I : Fn → Int32 → Int32 → Int32 → Prop) (μ : Fn → Int32 → Int32 → Int32 → Nat), I f x2 x3 x4 ∧ ∀ (f : Fn) (x2 : Int32) (x3 : Int32) (x4 : Int32), I f x2 x3 x4 → wpb_X5_howManyPhases_L12 o  (fun (f9 : Fn) (x29 : Int32) (x39 : Int32) (x49 : Int32) => I f9 x29 x39 x49 ∧ μ f9 x29 x39 x49 < μ f x2 x3 x4) f x2 x3 x4 post
def wp_X5_howManyPhases (o : Nat) (f : Fn)  (post : Option Value → Fn → Prop) : Prop :=
  (Pre_X5_firstPhase o f (0 : Int32) ∧ (∀ (r2 : Int32) (f3 : Fn), Post_X5_firstPhase o f (0 : Int32) r2 f3 → (wp_X5_howManyPhases_L12 o  f3 (0 : Int32) r2 (0 : Int32) post)))
def wpb_X5_leastLag_L2 (o : Nat)  (K2 : Fn → Int32 → Prop) (f : Fn) (x2 : Int32) (post : Option Value → Fn → Prop) : Prop :=
  (((9 : Int32) < x2 → (post (some (.int (-1 : Int32))) f)) ∧ (¬ (9 : Int32) < x2 → (Pre_X5_isAsTold o (up2 f 37 6 x2) ∧ (∀ (r3 : Int32) (f4 : Fn), Post_X5_isAsTold o (up2 f 37 6 x2) r3 f4 → ((r3 = 0 → (K2 f4 (x2 + (1 : Int32)))) ∧ (¬ r3 = 0 → (post (some (.int x2)) f4)))))))
def wp_X5_leastLag_L2 (o : Nat)  (f : Fn) (x2 : Int32) (post : Option Value → Fn → Prop) : Prop :=
  ∃ (I : Fn → Int32 → Prop) (μ : Fn → Int32 → Nat), I f x2 ∧ ∀ (f : Fn) (x2 : Int32), I f x2 → wpb_X5_leastLag_L2 o  (fun (f9 : Fn) (x29 : Int32) => I f9 x29 ∧ μ f9 x29 < μ f x2) f x2 post
def wp_X5_leastLag (o : Nat) (f : Fn)  (post : Option Value → Fn → Prop) : Prop :=
  (wp_X5_leastLag_L2 o  f (0 : Int32) post)
def wp_X2_next  (f : Fn)  (post : Option Value → Fn → Prop) : Prop :=
  (((f 42 3) < 0 → (post (some (.int (-1 : Int32))) f)) ∧ (¬ (f 42 3) < 0 → (((50 : Int32) ≤ (f 42 3) → (post (some (.int (-1 : Int32))) f)) ∧ (¬ (50 : Int32) ≤ (f 42 3) → (((f 1 9) ≤ (f 42 3) → (post (some (.int (-1 : Int32))) f)) ∧ (¬ (f 1 9) ≤ (f 42 3) → (vp_in (f 42 3) 50 ∧ (post (some (.int (f 11 (f 42 3).toNatClampNeg))) f))))))))
def wp_X2_addStep  (f : Fn) (a1 : Int32) (post : Option Value → Fn → Prop) : Prop :=
  (((f 42 2) < 0 → (post none f)) ∧ (¬ (f 42 2) < 0 → (((50 : Int32) ≤ (f 42 2) → (post none f)) ∧ (¬ (50 : Int32) ≤ (f 42 2) → (vp_in (f 42 2) 50 ∧ (post none (up2 (up2 f 43 (f 42 2).toNatClampNeg a1) 42 2 ((f 42 2) + (1 : Int32)))))))))
def wp_X2_levelOf  (f : Fn) (a1 : Int32) (post : Option Value → Fn → Prop) : Prop :=
  ((a1 = (37 : Int32) → (post (some (.int (4 : Int32))) f)) ∧ (a1 = (38 : Int32) → (post (some (.int (1 : Int32))) f)) ∧ (a1 = (42 : Int32) → (post (some (.int (4 : Int32))) f)) ∧ (a1 = (43 : Int32) → (post (some (.int (3 : Int32))) f)) ∧ (a1 = (45 : Int32) → (post (some (.int (3 : Int32))) f)) ∧ (a1 = (47 : Int32) → (post (some (.int (4 : Int32))) f)) ∧ (a1 = (60 : Int32) → (post (some (.int (2 : Int32))) f)) ∧ (a1 = (61 : Int32) → (post (some (.int (2 : Int32))) f)) ∧ (a1 = (62 : Int32) → (post (some (.int (2 : Int32))) f)) ∧ (a1 = (124 : Int32) → (post (some (.int (0 : Int32))) f)) ∧ (¬ a1 = (37 : Int32) ∧ ¬ a1 = (38 : Int32) ∧ ¬ a1 = (42 : Int32) ∧ ¬ a1 = (43 : Int32) ∧ ¬ a1 = (45 : Int32) ∧ ¬ a1 = (47 : Int32) ∧ ¬ a1 = (60 : Int32) ∧ ¬ a1 = (61 : Int32) ∧ ¬ a1 = (62 : Int32) ∧ ¬ a1 = (124 : Int32) → (post (some (.int (-1 : Int32))) f)))
def wp_X2_isDigit  (f : Fn) (a1 : Int32) (post : Option Value → Fn → Prop) : Prop :=
  ((a1 < (48 : Int32) → (post (some (.int (0 : Int32))) f)) ∧ (¬ a1 < (48 : Int32) → (((57 : Int32) < a1 → (post (some (.int (0 : Int32))) f)) ∧ (¬ (57 : Int32) < a1 → (post (some (.int (1 : Int32))) f)))))
def wp_X2_readNumber_L48   (f : Fn) (x1 : Int32) (post : Option Value → Fn → Prop) : Prop :=
  (Pre_X2_addStep f x1 ∧ (∀ f3 : Fn, Post_X2_addStep f x1 f3 → (post none f3)))
def wpb_X2_readNumber_L4   (K4 : Fn → Int32 → Int32 → Prop) (f : Fn) (x1 : Int32) (x2 : Int32) (post : Option Value → Fn → Prop) : Prop :=
  (((4 : Int32) ≤ x2 → (wp_X2_readNumber_L48   f x1 post)) ∧ (¬ (4 : Int32) ≤ x2 → (((Val_X2_isDigit f (Val_X2_next f)) = 0 → (wp_X2_readNumber_L48   f x1 post)) ∧ (¬ (Val_X2_isDigit f (Val_X2_next f)) = 0 → (K4 (up2 f 42 3 ((f 42 3) + (1 : Int32))) (((x1 * (10 : Int32)) + (Val_X2_next f)) - (48 : Int32)) (x2 + (1 : Int32)))))))
def wp_X2_readNumber_L4   (f : Fn) (x1 : Int32) (x2 : Int32) (post : Option Value → Fn → Prop) : Prop :=
  ∃ (I : Fn → Int32 → Int32 → Prop) (μ : Fn → Int32 → Int32 → Nat), I f x1 x2 ∧ ∀ (f : Fn) (x1 : Int32) (x2 : Int32), I f x1 x2 → wpb_X2_readNumber_L4   (fun (f9 : Fn) (x19 : Int32) (x29 : Int32) => I f9 x19 x29 ∧ μ f9 x19 x29 < μ f x1 x2) f x1 x2 post
def wp_X2_readNumber  (f : Fn)  (post : Option Value → Fn → Prop) : Prop :=
  (wp_X2_readNumber_L4   f (0 : Int32) (0 : Int32) post)
def wp_X2_readLevel_L10 (m0 : Nat)   (f : Fn) (x2 : Int32) (post : Option Value → Fn → Prop) : Prop :=
  (Pre_X2_readPart f x2 ∧ (mu_X2_readPart f x2 < m0 ∧ (∀ f4 : Fn, Post_X2_readPart f x2 f4 → (post none f4))))
def wpb_X2_readLevel_L39 (m0 : Nat)   (K39 : Fn → Int32 → Int32 → Int32 → Int32 → Prop) (f : Fn) (x1 : Int32) (x2 : Int32) (x3 : Int32) (x4 : Int32) (post : Option Value → Fn → Prop) : Prop :=
  ((x3 ≤ x4 → (post none f)) ∧ (¬ x3 ≤ x4 → ((¬ (f 42 4) = 0 → (post none f)) ∧ ((f 42 4) = 0 → ((¬ (Val_X2_levelOf f (Val_X2_next f)) = x1 → (post none f)) ∧ ((Val_X2_levelOf f (Val_X2_next f)) = x1 → (Pre_X2_readLevel (up2 f 42 3 ((f 42 3) + (1 : Int32))) (x1 + (1 : Int32)) x2 ∧ (mu_X2_readLevel (up2 f 42 3 ((f 42 3) + (1 : Int32))) (x1 + (1 : Int32)) x2 < m0 ∧ (∀ f17 : Fn, Post_X2_readLevel (up2 f 42 3 ((f 42 3) + (1 : Int32))) (x1 + (1 : Int32)) x2 f17 → (Pre_X2_addStep f17 (-(Val_X2_next f)) ∧ (∀ f20 : Fn, Post_X2_addStep f17 (-(Val_X2_next f)) f20 → (K39 f20 x1 x2 x3 (x4 + (1 : Int32))))))))))))))
def wp_X2_readLevel_L39 (m0 : Nat)   (f : Fn) (x1 : Int32) (x2 : Int32) (x3 : Int32) (x4 : Int32) (post : Option Value → Fn → Prop) : Prop :=
  ∃ (I : Fn → Int32 → Int32 → Int32 → Int32 → Prop) (μ : Fn → Int32 → Int32 → Int32 → Int32 → Nat), I f x1 x2 x3 x4 ∧ ∀ (f : Fn) (x1 : Int32) (x2 : Int32) (x3 : Int32) (x4 : Int32), I f x1 x2 x3 x4 → wpb_X2_readLevel_L39 m0   (fun (f9 : Fn) (x19 : Int32) (x29 : Int32) (x39 : Int32) (x49 : Int32) => I f9 x19 x29 x39 x49 ∧ μ f9 x19 x29 x39 x49 < μ f x1 x2 x3 x4) f x1 x2 x3 x4 post
def wp_X2_readLevel_L35 (m0 : Nat)   (f : Fn) (x1 : Int32) (x2 : Int32) (s0 : Int32) (post : Option Value → Fn → Prop) : Prop :=
  (wp_X2_readLevel_L39 m0   f x1 x2 s0 (0 : Int32) post)
def wp_X2_readLevel (m0 : Nat)  (f : Fn) (a1 : Int32) (a2 : Int32) (post : Option Value → Fn → Prop) : Prop :=
  (((4 : Int32) < a1 → (wp_X2_readLevel_L10 m0   f a2 post)) ∧ (¬ (4 : Int32) < a1 → ((a2 ≤ (5 : Int32) → (Pre_X2_readLevel f (a1 + (1 : Int32)) a2 ∧ (mu_X2_readLevel f (a1 + (1 : Int32)) a2 < m0 ∧ (∀ f9 : Fn, Post_X2_readLevel f (a1 + (1 : Int32)) a2 f9 → ((¬ a1 = (2 : Int32) → (wp_X2_readLevel_L35 m0   f9 a1 a2 (50 : Int32) post)) ∧ (a1 = (2 : Int32) → (wp_X2_readLevel_L35 m0   f9 a1 a2 (1 : Int32) post))))))) ∧ (¬ a2 ≤ (5 : Int32) → (wp_X2_readLevel_L10 m0   f a2 post)))))
def wp_X2_readPart_L37 (m0 : Nat)   (f : Fn) (x2 : Int32) (post : Option Value → Fn → Prop) : Prop :=
  (Pre_X2_addStep (up2 f 42 3 ((f 42 3) + (1 : Int32))) (-x2) ∧ (∀ f4 : Fn, Post_X2_addStep (up2 f 42 3 ((f 42 3) + (1 : Int32))) (-x2) f4 → (post none f4)))
def wp_X2_readPart_L171 (m0 : Nat)   (f : Fn)  (post : Option Value → Fn → Prop) : Prop :=
  (post none (up2 f 42 4 (1 : Int32)))
def wp_X2_readPart_L164 (m0 : Nat)   (f : Fn) (s0 : Int32) (s1 : Int32) (post : Option Value → Fn → Prop) : Prop :=
  (post none (up2 f 42 3 (s1 + s0)))
def wp_X2_readPart_L144 (m0 : Nat)   (f : Fn) (s0 : Int32) (post : Option Value → Fn → Prop) : Prop :=
  ((s0 = 0 ∨ s0 = 1) ∧ ((s0 = 0 → (wp_X2_readPart_L164 m0   (up2 f 42 4 s0) (1 : Int32) (f 42 3) post)) ∧ (¬ s0 = 0 → (wp_X2_readPart_L164 m0   (up2 f 42 4 s0) (0 : Int32) (f 42 3) post))))
def wp_X2_readPart_L139 (m0 : Nat)   (f : Fn)  (post : Option Value → Fn → Prop) : Prop :=
  (wp_X2_readPart_L144 m0   f (1 : Int32) post)
def wp_X2_readPart_L93 (m0 : Nat)   (f : Fn) (x1 : Int32) (x2 : Int32) (post : Option Value → Fn → Prop) : Prop :=
  ((¬ x2 = (40 : Int32) → (wp_X2_readPart_L171 m0   f  post)) ∧ (x2 = (40 : Int32) → (((5 : Int32) ≤ x1 → (wp_X2_readPart_L171 m0   f  post)) ∧ (¬ (5 : Int32) ≤ x1 → (Pre_X2_readLevel (up2 f 42 3 ((f 42 3) + (1 : Int32))) (0 : Int32) (x1 + (1 : Int32)) ∧ (mu_X2_readLevel (up2 f 42 3 ((f 42 3) + (1 : Int32))) (0 : Int32) (x1 + (1 : Int32)) < m0 ∧ (∀ f13 : Fn, Post_X2_readLevel (up2 f 42 3 ((f 42 3) + (1 : Int32))) (0 : Int32) (x1 + (1 : Int32)) f13 → ((¬ (f13 42 4) = 0 → (wp_X2_readPart_L139 m0   f13  post)) ∧ ((f13 42 4) = 0 → (((Val_X2_next f13) = (41 : Int32) → (wp_X2_readPart_L144 m0   f13 (0 : Int32) post)) ∧ (¬ (Val_X2_next f13) = (41 : Int32) → (wp_X2_readPart_L139 m0   f13  post))))))))))))
def wp_X2_readPart (m0 : Nat)  (f : Fn) (a1 : Int32) (post : Option Value → Fn → Prop) : Prop :=
  (((Val_X2_isDigit f (Val_X2_next f)) = 0 → (((Val_X2_next f) = (107 : Int32) → (wp_X2_readPart_L37 m0   f (Val_X2_next f) post)) ∧ (¬ (Val_X2_next f) = (107 : Int32) → (((Val_X2_next f) = (118 : Int32) → (wp_X2_readPart_L37 m0   f (Val_X2_next f) post)) ∧ (¬ (Val_X2_next f) = (118 : Int32) → ((¬ (Val_X2_next f) = (109 : Int32) → ((¬ (Val_X2_next f) = (33 : Int32) → (wp_X2_readPart_L93 m0   f a1 (Val_X2_next f) post)) ∧ ((Val_X2_next f) = (33 : Int32) → (((5 : Int32) ≤ a1 → (wp_X2_readPart_L93 m0   f a1 (Val_X2_next f) post)) ∧ (¬ (5 : Int32) ≤ a1 → (Pre_X2_readPart (up2 f 42 3 ((f 42 3) + (1 : Int32))) (a1 + (1 : Int32)) ∧ (mu_X2_readPart (up2 f 42 3 ((f 42 3) + (1 : Int32))) (a1 + (1 : Int32)) < m0 ∧ (∀ f22 : Fn, Post_X2_readPart (up2 f 42 3 ((f 42 3) + (1 : Int32))) (a1 + (1 : Int32)) f22 → (Pre_X2_addStep f22 (-(Val_X2_next f)) ∧ (∀ f25 : Fn, Post_X2_addStep f22 (-(Val_X2_next f)) f25 → (post none f25))))))))))) ∧ ((Val_X2_next f) = (109 : Int32) → (wp_X2_readPart_L37 m0   f (Val_X2_next f) post)))))))) ∧ (¬ (Val_X2_isDigit f (Val_X2_next f)) = 0 → (Pre_X2_readNumber f ∧ (∀ f28 : Fn, Post_X2_readNumber f f28 → (post none f28)))))
def wp_X2_readTape_L36   (f : Fn)  (post : Option Value → Fn → Prop) : Prop :=
  (post (some (.int (f 42 3))) f)
def wp_X2_readTape  (f : Fn)  (post : Option Value → Fn → Prop) : Prop :=
  (Pre_X2_readLevel (up2 (up2 (up2 f 42 2 (0 : Int32)) 42 3 (0 : Int32)) 42 4 (0 : Int32)) (0 : Int32) (0 : Int32) ∧ (∀ f2 : Fn, Post_X2_readLevel (up2 (up2 (up2 f 42 2 (0 : Int32)) 42 3 (0 : Int32)) 42 4 (0 : Int32)) (0 : Int32) (0 : Int32) f2 → ((¬ (f2 42 4) = 0 → (wp_X2_readTape_L36   f2  post)) ∧ ((f2 42 4) = 0 → (((Val_X2_next f2) = (-1 : Int32) → (post (some (.int (-1 : Int32))) f2)) ∧ (¬ (Val_X2_next f2) = (-1 : Int32) → (wp_X2_readTape_L36   f2  post)))))))
def wp_X6_bodyAt  (f : Fn) (a1 : Int32) (post : Option Value → Fn → Prop) : Prop :=
  ((a1 < 0 → (post (some (.int (0 : Int32))) f)) ∧ (¬ a1 < 0 → (((f 44 1) ≤ a1 → (post (some (.int (0 : Int32))) f)) ∧ (¬ (f 44 1) ≤ a1 → (((40 : Int32) ≤ a1 → (post (some (.int (0 : Int32))) f)) ∧ (¬ (40 : Int32) ≤ a1 → (vp_in a1 40 ∧ (post (some (.int (f 45 a1.toNatClampNeg))) f))))))))
def wp_X6_bodyFor_L52  (K4 : Fn → Int32 → Int32 → Int32 → Prop) (f : Fn) (x0 : Int32) (x2 : Int32) (x3 : Int32) (post : Option Value → Fn → Prop) : Prop :=
  (K4 f x0 (Val_X0_kindAbove f x2) (x3 + (1 : Int32)))
def wpb_X6_bodyFor_L4   (K4 : Fn → Int32 → Int32 → Int32 → Prop) (f : Fn) (x0 : Int32) (x2 : Int32) (x3 : Int32) (post : Option Value → Fn → Prop) : Prop :=
  (((7 : Int32) ≤ x3 → (post (some (.int (0 : Int32))) f)) ∧ (¬ (7 : Int32) ≤ x3 → ((x2 < 0 → (post (some (.int (0 : Int32))) f)) ∧ (¬ x2 < 0 → ((((x0 * (7 : Int32)) + x2) < 0 → (wp_X6_bodyFor_L52  K4 f x0 x2 x3 post)) ∧ (¬ ((x0 * (7 : Int32)) + x2) < 0 → (((28 : Int32) ≤ ((x0 * (7 : Int32)) + x2) → (wp_X6_bodyFor_L52  K4 f x0 x2 x3 post)) ∧ (¬ (28 : Int32) ≤ ((x0 * (7 : Int32)) + x2) → (vp_in ((x0 * (7 : Int32)) + x2) 28 ∧ (((BV ((x0 * (7 : Int32)) + x2).toNatClampNeg) = 0 → (wp_X6_bodyFor_L52  K4 f x0 x2 x3 post)) ∧ (¬ (BV ((x0 * (7 : Int32)) + x2).toNatClampNeg) = 0 → (vp_in ((x0 * (7 : Int32)) + x2) 28 ∧ (post (some (.int (BV ((x0 * (7 : Int32)) + x2).toNatClampNeg))) f)))))))))))))
def wp_X6_bodyFor_L4   (f : Fn) (x0 : Int32) (x2 : Int32) (x3 : Int32) (post : Option Value → Fn → Prop) : Prop :=
  ∃ (I : Fn → Int32 → Int32 → Int32 → Prop) (μ : Fn → Int32 → Int32 → Int32 → Nat), I f x0 x2 x3 ∧ ∀ (f : Fn) (x0 : Int32) (x2 : Int32) (x3 : Int32), I f x0 x2 x3 → wpb_X6_bodyFor_L4   (fun (f9 : Fn) (x09 : Int32) (x29 : Int32) (x39 : Int32) => I f9 x09 x29 x39 ∧ μ f9 x09 x29 x39 < μ f x0 x2 x3) f x0 x2 x3 post
def wp_X6_bodyFor  (f : Fn) (a1 : Int32) (a2 : Int32) (post : Option Value → Fn → Prop) : Prop :=
  (wp_X6_bodyFor_L4   f a1 a2 (0 : Int32) post)
def wp_X6_note  (f : Fn) (a1 : Int32) (post : Option Value → Fn → Prop) : Prop :=
  (((f 44 1) < 0 → (post none f)) ∧ (¬ (f 44 1) < 0 → (((40 : Int32) ≤ (f 44 1) → (post none f)) ∧ (¬ (40 : Int32) ≤ (f 44 1) → (vp_in (f 44 1) 40 ∧ (post none (up2 (up2 f 45 (f 44 1).toNatClampNeg a1) 44 1 ((f 44 1) + (1 : Int32)))))))))
def wp_X6_say (m0 : Nat)  (f : Fn) (a1 : Int32) (a2 : Int32) (a3 : Int32) (a4 : Int32) (post : Option Value → Fn → Prop) : Prop :=
  ((a4 ≤ (40 : Int32) → (Pre_X6_bodyFor f a1 a2 ∧ (∀ f3 : Fn, Post_X6_note f (Val_X6_bodyFor f a1 a2) f3 → (((Val_X6_bodyFor f a1 a2) = (10 : Int32) → (post (some (.int (a3 + (f3 44 2)))) f3)) ∧ ((Val_X6_bodyFor f a1 a2) = (11 : Int32) → (Pre_X6_own f3 (0 : Int32) a3 (a4 + (1 : Int32)) ∧ (mu_X6_own f3 (0 : Int32) a3 (a4 + (1 : Int32)) < m0 ∧ (∀ (r8 : Int32) (f9 : Fn), Post_X6_own f3 (0 : Int32) a3 (a4 + (1 : Int32)) r8 f9 → (post (some (.int (r8 * (2 : Int32)))) f9))))) ∧ ((Val_X6_bodyFor f a1 a2) = (12 : Int32) → (post (some (.int (a3 - (f3 46 1)))) f3)) ∧ ((Val_X6_bodyFor f a1 a2) = (13 : Int32) → (Pre_X6_own f3 (1 : Int32) a3 (a4 + (1 : Int32)) ∧ (mu_X6_own f3 (1 : Int32) a3 (a4 + (1 : Int32)) < m0 ∧ (∀ (r13 : Int32) (f14 : Fn), Post_X6_own f3 (1 : Int32) a3 (a4 + (1 : Int32)) r13 f14 → (Pre_X6_own f14 (2 : Int32) a3 (a4 + (1 : Int32)) ∧ (mu_X6_own f14 (2 : Int32) a3 (a4 + (1 : Int32)) < m0 ∧ (∀ (r18 : Int32) (f19 : Fn), Post_X6_own f14 (2 : Int32) a3 (a4 + (1 : Int32)) r18 f19 → (post (some (.int (r13 ^^^ r18))) f19)))))))) ∧ ((Val_X6_bodyFor f a1 a2) = (20 : Int32) → (Pre_X6_say f3 (0 : Int32) (Val_X0_kindAbove f (((Val_X6_bodyFor f a1 a2) / (10 : Int32)) - (1 : Int32))) a3 (a4 + (1 : Int32)) ∧ (mu_X6_say f3 (0 : Int32) (Val_X0_kindAbove f (((Val_X6_bodyFor f a1 a2) / (10 : Int32)) - (1 : Int32))) a3 (a4 + (1 : Int32)) < m0 ∧ (∀ (r23 : Int32) (f24 : Fn), Post_X6_say f3 (0 : Int32) (Val_X0_kindAbove f (((Val_X6_bodyFor f a1 a2) / (10 : Int32)) - (1 : Int32))) a3 (a4 + (1 : Int32)) r23 f24 → (post (some (.int (r23 * (3 : Int32)))) f24))))) ∧ ((Val_X6_bodyFor f a1 a2) = (30 : Int32) → (Pre_X6_say f3 (1 : Int32) (Val_X0_kindAbove f (((Val_X6_bodyFor f a1 a2) / (10 : Int32)) - (1 : Int32))) a3 (a4 + (1 : Int32)) ∧ (mu_X6_say f3 (1 : Int32) (Val_X0_kindAbove f (((Val_X6_bodyFor f a1 a2) / (10 : Int32)) - (1 : Int32))) a3 (a4 + (1 : Int32)) < m0 ∧ (∀ (r28 : Int32) (f29 : Fn), Post_X6_say f3 (1 : Int32) (Val_X0_kindAbove f (((Val_X6_bodyFor f a1 a2) / (10 : Int32)) - (1 : Int32))) a3 (a4 + (1 : Int32)) r28 f29 → (Pre_X6_own f29 (2 : Int32) (1 : Int32) (a4 + (1 : Int32)) ∧ (mu_X6_own f29 (2 : Int32) (1 : Int32) (a4 + (1 : Int32)) < m0 ∧ (∀ (r33 : Int32) (f34 : Fn), Post_X6_own f29 (2 : Int32) (1 : Int32) (a4 + (1 : Int32)) r33 f34 → (post (some (.int (r28 - r33))) f34)))))))) ∧ ((Val_X6_bodyFor f a1 a2) = (40 : Int32) → (Pre_X6_say f3 (2 : Int32) (Val_X0_kindAbove f (((Val_X6_bodyFor f a1 a2) / (10 : Int32)) - (1 : Int32))) a3 (a4 + (1 : Int32)) ∧ (mu_X6_say f3 (2 : Int32) (Val_X0_kindAbove f (((Val_X6_bodyFor f a1 a2) / (10 : Int32)) - (1 : Int32))) a3 (a4 + (1 : Int32)) < m0 ∧ (∀ (r38 : Int32) (f39 : Fn), Post_X6_say f3 (2 : Int32) (Val_X0_kindAbove f (((Val_X6_bodyFor f a1 a2) / (10 : Int32)) - (1 : Int32))) a3 (a4 + (1 : Int32)) r38 f39 → (post (some (.int (-r38))) f39))))) ∧ ((Val_X6_bodyFor f a1 a2) = (50 : Int32) → (Pre_X6_say f3 (3 : Int32) (Val_X0_kindAbove f (((Val_X6_bodyFor f a1 a2) / (10 : Int32)) - (1 : Int32))) a3 (a4 + (1 : Int32)) ∧ (mu_X6_say f3 (3 : Int32) (Val_X0_kindAbove f (((Val_X6_bodyFor f a1 a2) / (10 : Int32)) - (1 : Int32))) a3 (a4 + (1 : Int32)) < m0 ∧ (∀ (r43 : Int32) (f44 : Fn), Post_X6_say f3 (3 : Int32) (Val_X0_kindAbove f (((Val_X6_bodyFor f a1 a2) / (10 : Int32)) - (1 : Int32))) a3 (a4 + (1 : Int32)) r43 f44 → (Pre_X6_own f44 (0 : Int32) (2 : Int32) (a4 + (1 : Int32)) ∧ (mu_X6_own f44 (0 : Int32) (2 : Int32) (a4 + (1 : Int32)) < m0 ∧ (∀ (r48 : Int32) (f49 : Fn), Post_X6_own f44 (0 : Int32) (2 : Int32) (a4 + (1 : Int32)) r48 f49 → (post (some (.int (r43 - r48))) f49)))))))) ∧ ((Val_X6_bodyFor f a1 a2) = (60 : Int32) → (Pre_X6_say f3 (1 : Int32) (Val_X0_kindAbove f (((Val_X6_bodyFor f a1 a2) / (10 : Int32)) - (1 : Int32))) (a3 + (1 : Int32)) (a4 + (1 : Int32)) ∧ (mu_X6_say f3 (1 : Int32) (Val_X0_kindAbove f (((Val_X6_bodyFor f a1 a2) / (10 : Int32)) - (1 : Int32))) (a3 + (1 : Int32)) (a4 + (1 : Int32)) < m0 ∧ (∀ (r53 : Int32) (f54 : Fn), Post_X6_say f3 (1 : Int32) (Val_X0_kindAbove f (((Val_X6_bodyFor f a1 a2) / (10 : Int32)) - (1 : Int32))) (a3 + (1 : Int32)) (a4 + (1 : Int32)) r53 f54 → (post (some (.int r53)) f54))))) ∧ ((Val_X6_bodyFor f a1 a2) = (70 : Int32) → (Pre_X6_say f3 (2 : Int32) (Val_X0_kindAbove f (((Val_X6_bodyFor f a1 a2) / (10 : Int32)) - (1 : Int32))) a3 (a4 + (1 : Int32)) ∧ (mu_X6_say f3 (2 : Int32) (Val_X0_kindAbove f (((Val_X6_bodyFor f a1 a2) / (10 : Int32)) - (1 : Int32))) a3 (a4 + (1 : Int32)) < m0 ∧ (∀ (r58 : Int32) (f59 : Fn), Post_X6_say f3 (2 : Int32) (Val_X0_kindAbove f (((Val_X6_bodyFor f a1 a2) / (10 : Int32)) - (1 : Int32))) a3 (a4 + (1 : Int32)) r58 f59 → (post (some (.int (r58 ^^^ (f59 44 2)))) f59))))) ∧ (¬ (Val_X6_bodyFor f a1 a2) = (10 : Int32) ∧ ¬ (Val_X6_bodyFor f a1 a2) = (11 : Int32) ∧ ¬ (Val_X6_bodyFor f a1 a2) = (12 : Int32) ∧ ¬ (Val_X6_bodyFor f a1 a2) = (13 : Int32) ∧ ¬ (Val_X6_bodyFor f a1 a2) = (20 : Int32) ∧ ¬ (Val_X6_bodyFor f a1 a2) = (30 : Int32) ∧ ¬ (Val_X6_bodyFor f a1 a2) = (40 : Int32) ∧ ¬ (Val_X6_bodyFor f a1 a2) = (50 : Int32) ∧ ¬ (Val_X6_bodyFor f a1 a2) = (60 : Int32) ∧ ¬ (Val_X6_bodyFor f a1 a2) = (70 : Int32) → (Pre_X6_own f3 (1 : Int32) a3 (a4 + (1 : Int32)) ∧ (mu_X6_own f3 (1 : Int32) a3 (a4 + (1 : Int32)) < m0 ∧ (∀ (r63 : Int32) (f64 : Fn), Post_X6_own f3 (1 : Int32) a3 (a4 + (1 : Int32)) r63 f64 → (Pre_X6_say f64 (3 : Int32) (Val_X0_kindAbove f (((Val_X6_bodyFor f a1 a2) / (10 : Int32)) - (1 : Int32))) a3 (a4 + (1 : Int32)) ∧ (mu_X6_say f64 (3 : Int32) (Val_X0_kindAbove f (((Val_X6_bodyFor f a1 a2) / (10 : Int32)) - (1 : Int32))) a3 (a4 + (1 : Int32)) < m0 ∧ (∀ (r68 : Int32) (f69 : Fn), Post_X6_say f64 (3 : Int32) (Val_X0_kindAbove f (((Val_X6_bodyFor f a1 a2) / (10 : Int32)) - (1 : Int32))) a3 (a4 + (1 : Int32)) r68 f69 → (post (some (.int (r63 - r68))) f69)))))))))))) ∧ (¬ a4 ≤ (40 : Int32) → (post (some (.int (0 : Int32))) f)))
def wp_X6_own (m0 : Nat)  (f : Fn) (a1 : Int32) (a2 : Int32) (a3 : Int32) (post : Option Value → Fn → Prop) : Prop :=
  (Pre_X6_say f a1 (f 46 0) a2 a3 ∧ (mu_X6_say f a1 (f 46 0) a2 a3 < m0 ∧ (∀ (r3 : Int32) (f4 : Fn), Post_X6_say f a1 (f 46 0) a2 a3 r3 f4 → (post (some (.int r3)) f4))))
def wp_X6_speak (o : Nat) (f : Fn) (a1 : Int32) (a3 : Int32) (a4 : Int32) (post : Option Value → Fn → Prop) : Prop :=
  (∀ f1 : Fn, Post_X0_copy 46 o (up2 (up2 f 44 1 (0 : Int32)) 44 2 a1) f1 → (Pre_X6_say f1 a3 (f1 46 0) a4 (0 : Int32) ∧ (∀ (r4 : Int32) (f5 : Fn), Post_X6_say f1 a3 (f1 46 0) a4 (0 : Int32) r4 f5 → (post (some (.int r4)) f5))))
def vcS_X7_swingOf : Prop := ∀ (ad : Nat → Nat)  (f : Fn) (a1 : Int32), wp_X7_swingOf ad f a1 (pR ad (fun r9 f9 => r9 = Val_X7_swingOf f a1 ∧ f9 = f))
def vcS_X7_lawOf : Prop := ∀ (ad : Nat → Nat)  (f : Fn) (a1 : Int32), wp_X7_lawOf ad f a1 (pR ad (fun r9 f9 => r9 = Val_X7_lawOf f a1 ∧ f9 = f))
def vcS_X7_flyerOf : Prop := ∀ (ad : Nat → Nat)  (f : Fn) (a1 : Int32), wp_X7_flyerOf ad f a1 (pR ad (fun r9 f9 => r9 = Val_X7_flyerOf f a1 ∧ f9 = f))
def vcS_X7_addByte : Prop := ∀  (f : Fn) (a1 : Int32), wp_X7_addByte f a1 (pV (Post_X7_addByte f a1))
def vcS_X7_addWaiting : Prop := ∀  (f : Fn) (a1 : Int32), wp_X7_addWaiting f a1 (pV (Post_X7_addWaiting f a1))
def vcS_X7_draw : Prop := ∀  (f : Fn) , wp_X7_draw f (pI (Post_X7_draw f))
def vcS_X7_copyA : Prop := ∀  (f : Fn) , wp_X7_copyA f (pV (Post_X7_copyA f))
def vcS_X7_copyB : Prop := ∀  (f : Fn) , wp_X7_copyB f (pV (Post_X7_copyB f))
def vcS_X5_start : Prop := ∀ (o : Nat) (f : Fn) , isFl o → wp_X5_start o f (pV (Post_X5_start o f))
def vcS_X5_fly : Prop := ∀  (f : Fn) (a1 : Int32) (a2 : Int32), wp_X5_fly f a1 a2 (pV (Post_X5_fly f a1 a2))
def vcS_X5_off : Prop := ∀  (f : Fn) (a1 : Int32), wp_X5_off f a1 (pI (fun r9 f9 => r9 = Val_X5_off f a1 ∧ f9 = f))
def vcS_X5_isHeld : Prop := ∀  (f : Fn) (a1 : Int32), wp_X5_isHeld f a1 (pI (fun r9 f9 => r9 = Val_X5_isHeld f a1 ∧ f9 = f))
def vcS_X5_isCaught : Prop := ∀  (f : Fn) (a1 : Int32), wp_X5_isCaught f a1 (pI (Post_X5_isCaught f a1))
def vcS_X5_howManyCaught : Prop := ∀  (f : Fn) (a1 : Int32), wp_X5_howManyCaught f a1 (pI (Post_X5_howManyCaught f a1))
def vcS_X5_firstCaught : Prop := ∀  (f : Fn) (a1 : Int32), wp_X5_firstCaught f a1 (pI (Post_X5_firstCaught f a1))
def vcS_X5_casesCaught : Prop := ∀  (f : Fn) (a1 : Int32), wp_X5_casesCaught f a1 (pI (Post_X5_casesCaught f a1))
def vcS_X5_surestWait : Prop := ∀  (f : Fn) (a1 : Int32), wp_X5_surestWait f a1 (pI (Post_X5_surestWait f a1))
def vcS_X5_leastPumps : Prop := ∀  (f : Fn) (a1 : Int32), Pre_X5_leastPumps f a1 → wp_X5_leastPumps f a1 (pI (Post_X5_leastPumps f a1))
def vcS_X5_leastSteps : Prop := ∀  (f : Fn) (a1 : Int32), Pre_X5_leastSteps f a1 → wp_X5_leastSteps f a1 (pI (Post_X5_leastSteps f a1))
def vcS_X5_gatherFalls : Prop := ∀  (f : Fn) (a1 : Int32), Pre_X5_gatherFalls f a1 → wp_X5_gatherFalls f a1 (pI (Post_X5_gatherFalls f a1))
def vcS_X5_harmTogether : Prop := ∀  (f : Fn) (a1 : Int32), Pre_X5_harmTogether f a1 → wp_X5_harmTogether f a1 (pI (fun r9 f9 => r9 = Val_X5_harmTogether f a1 ∧ f9 = f))
def vcS_X5_leastHarmPlace : Prop := ∀  (f : Fn) , Pre_X5_leastHarmPlace f → wp_X5_leastHarmPlace f (pI (fun r9 f9 => r9 = Val_X5_leastHarmPlace f ∧ f9 = f))
def vcS_X5_isAsTold : Prop := ∀ (o : Nat) (f : Fn) , isSh o → Pre_X5_isAsTold o f → wp_X5_isAsTold o f (pI (Post_X5_isAsTold o f))
def vcS_X5_firstPhase : Prop := ∀ (o : Nat) (f : Fn) (a2 : Int32), isSh o → Pre_X5_firstPhase o f a2 → wp_X5_firstPhase o f a2 (pI (Post_X5_firstPhase o f a2))
def vcS_X5_howManyPhases : Prop := ∀ (o : Nat) (f : Fn) , isSh o → Pre_X5_howManyPhases o f → wp_X5_howManyPhases o f (pI (Post_X5_howManyPhases o f))
def vcS_X5_leastLag : Prop := ∀ (o : Nat) (f : Fn) , isSh o → Pre_X5_leastLag o f → wp_X5_leastLag o f (pI (Post_X5_leastLag o f))
def vcS_X2_next : Prop := ∀  (f : Fn) , wp_X2_next f (pI (fun r9 f9 => r9 = Val_X2_next f ∧ f9 = f))
def vcS_X2_addStep : Prop := ∀  (f : Fn) (a1 : Int32), Pre_X2_addStep f a1 → wp_X2_addStep f a1 (pV (Post_X2_addStep f a1))
def vcS_X2_levelOf : Prop := ∀  (f : Fn) (a1 : Int32), wp_X2_levelOf f a1 (pI (fun r9 f9 => r9 = Val_X2_levelOf f a1 ∧ f9 = f))
def vcS_X2_isDigit : Prop := ∀  (f : Fn) (a1 : Int32), wp_X2_isDigit f a1 (pI (fun r9 f9 => r9 = Val_X2_isDigit f a1 ∧ f9 = f))
def vcS_X2_readNumber : Prop := ∀  (f : Fn) , Pre_X2_readNumber f → wp_X2_readNumber f (pV (Post_X2_readNumber f))
def vcS_X2_readLevel : Prop := ∀  (f : Fn) (a1 : Int32) (a2 : Int32), Pre_X2_readLevel f a1 a2 → (mu_X2_readLevel f a1 a2 < 48 ∧ wp_X2_readLevel (mu_X2_readLevel f a1 a2) f a1 a2 (pV (Post_X2_readLevel f a1 a2)))
def vcS_X2_readPart : Prop := ∀  (f : Fn) (a1 : Int32), Pre_X2_readPart f a1 → (mu_X2_readPart f a1 < 48 ∧ wp_X2_readPart (mu_X2_readPart f a1) f a1 (pV (Post_X2_readPart f a1)))
def vcS_X2_readTape : Prop := ∀  (f : Fn) , Pre_X2_readTape f → wp_X2_readTape f (pI (Post_X2_readTape f))
def vcS_X6_bodyAt : Prop := ∀  (f : Fn) (a1 : Int32), wp_X6_bodyAt f a1 (pI (fun r9 f9 => r9 = Val_X6_bodyAt f a1 ∧ f9 = f))
def vcS_X6_bodyFor : Prop := ∀  (f : Fn) (a1 : Int32) (a2 : Int32), Pre_X6_bodyFor f a1 a2 → wp_X6_bodyFor f a1 a2 (pI (fun r9 f9 => r9 = Val_X6_bodyFor f a1 a2 ∧ f9 = f))
def vcS_X6_note : Prop := ∀  (f : Fn) (a1 : Int32), wp_X6_note f a1 (pV (Post_X6_note f a1))
def vcS_X6_say : Prop := ∀  (f : Fn) (a1 : Int32) (a2 : Int32) (a3 : Int32) (a4 : Int32), Pre_X6_say f a1 a2 a3 a4 → (mu_X6_say f a1 a2 a3 a4 < 18 ∧ wp_X6_say (mu_X6_say f a1 a2 a3 a4) f a1 a2 a3 a4 (pI (Post_X6_say f a1 a2 a3 a4)))
def vcS_X6_own : Prop := ∀  (f : Fn) (a1 : Int32) (a2 : Int32) (a3 : Int32), Pre_X6_own f a1 a2 a3 → (mu_X6_own f a1 a2 a3 < 18 ∧ wp_X6_own (mu_X6_own f a1 a2 a3) f a1 a2 a3 (pI (Post_X6_own f a1 a2 a3)))
def vcS_X6_speak : Prop := ∀ (o : Nat) (f : Fn) (a1 : Int32) (a3 : Int32) (a4 : Int32), isFl o → Pre_X6_speak o f a1 a3 a4 → wp_X6_speak o f a1 a3 a4 (pI (Post_X6_speak o f a1 a3 a4))
def VC_l2 : Prop := vcS_X7_swingOf ∧ vcS_X7_lawOf ∧ vcS_X7_flyerOf ∧ vcS_X7_addByte ∧ vcS_X7_addWaiting ∧ vcS_X7_draw ∧ vcS_X7_copyA ∧ vcS_X7_copyB ∧ vcS_X5_start ∧ vcS_X5_fly ∧ vcS_X5_off ∧ vcS_X5_isHeld ∧ vcS_X5_isCaught ∧ vcS_X5_howManyCaught ∧ vcS_X5_firstCaught ∧ vcS_X5_casesCaught ∧ vcS_X5_surestWait ∧ vcS_X5_leastPumps ∧ vcS_X5_leastSteps ∧ vcS_X5_gatherFalls ∧ vcS_X5_harmTogether ∧ vcS_X5_leastHarmPlace ∧ vcS_X5_isAsTold ∧ vcS_X5_firstPhase ∧ vcS_X5_howManyPhases ∧ vcS_X5_leastLag ∧ vcS_X2_next ∧ vcS_X2_addStep ∧ vcS_X2_levelOf ∧ vcS_X2_isDigit ∧ vcS_X2_readNumber ∧ vcS_X2_readLevel ∧ vcS_X2_readPart ∧ vcS_X2_readTape ∧ vcS_X6_bodyAt ∧ vcS_X6_bodyFor ∧ vcS_X6_note ∧ vcS_X6_say ∧ vcS_X6_own ∧ vcS_X6_speak ∧ True
theorem ki_5 : Int32.ofInt 5 = (5 : Int32) := by decide +kernel
theorem kb_m99 : (Int8.ofInt (-99)).toInt32 = (-99 : Int32) := by decide +kernel
theorem kb_m98 : (Int8.ofInt (-98)).toInt32 = (-98 : Int32) := by decide +kernel
theorem kb_6 : (Int8.ofInt 6).toInt32 = (6 : Int32) := by decide +kernel
theorem kb_9 : (Int8.ofInt 9).toInt32 = (9 : Int32) := by decide +kernel
theorem kb_20 : (Int8.ofInt 20).toInt32 = (20 : Int32) := by decide +kernel
theorem kb_33 : (Int8.ofInt 33).toInt32 = (33 : Int32) := by decide +kernel
theorem kb_41 : (Int8.ofInt 41).toInt32 = (41 : Int32) := by decide +kernel
theorem kb_48 : (Int8.ofInt 48).toInt32 = (48 : Int32) := by decide +kernel
theorem kb_57 : (Int8.ofInt 57).toInt32 = (57 : Int32) := by decide +kernel
theorem kb_59 : (Int8.ofInt 59).toInt32 = (59 : Int32) := by decide +kernel
theorem kb_107 : (Int8.ofInt 107).toInt32 = (107 : Int32) := by decide +kernel
theorem kb_109 : (Int8.ofInt 109).toInt32 = (109 : Int32) := by decide +kernel
theorem kb_118 : (Int8.ofInt 118).toInt32 = (118 : Int32) := by decide +kernel
theorem ks_299 : (Int16.ofInt 299).toInt32 = (299 : Int32) := by decide +kernel
theorem ks_12345 : (Int16.ofInt 12345).toInt32 = (12345 : Int32) := by decide +kernel
theorem fg_X2_9R {Z : Zt} {la : List CD} {cc : ByteArray} {n : Nat} {ret : Option FieldType} {d : Nat} {f : Fn} {lv : List (Nat × Value)} {pc q : Nat} {st : List Value} {k : Nat} {fl : List Nat} {p : Nat} (C : CX Z la RX2 cc n ret d) (hk : la[k]? = some (.inl (2, fl))) (hf : fl[1]? = some (p + 2)) (hd : decode cc pc = .ok (.getfield 9, 3)) (hq : pc + 3 = q) (g : GG Z f lv q (.ref (zad Z p) :: st)) : GG Z f lv pc (.ref (zad Z k) :: st) := g_get (T := TX2) (N := 5) C gwi2 rfl (by decide) rfl rfl rfl tw_224 hk hf hd hq (by rw [fvl_2]; exact g)
theorem fg_X2_15R {Z : Zt} {la : List CD} {cc : ByteArray} {n : Nat} {ret : Option FieldType} {d : Nat} {f : Fn} {lv : List (Nat × Value)} {pc q : Nat} {st : List Value} {k : Nat} {fl : List Nat} {p : Nat} (C : CX Z la RX2 cc n ret d) (hk : la[k]? = some (.inl (2, fl))) (hf : fl[0]? = some (p + 2)) (hd : decode cc pc = .ok (.getfield 15, 3)) (hq : pc + 3 = q) (g : GG Z f lv q (.ref (zad Z p) :: st)) : GG Z f lv pc (.ref (zad Z k) :: st) := g_get (T := TX2) (N := 5) C gwi2 rfl (by decide) rfl rfl rfl tw_223 hk hf hd hq (by rw [fvl_2]; exact g)
theorem fg_X2_19I {Z : Zt} {la : List CD} {cc : ByteArray} {n : Nat} {ret : Option FieldType} {d : Nat} {f : Fn} {lv : List (Nat × Value)} {pc q : Nat} {st : List Value} {k : Nat} {fl : List Nat} {x : Int32} (C : CX Z la RX2 cc n ret d) (hk : la[k]? = some (.inl (2, fl))) (hf : fl[2]? = some 0) (hx : f k 2 = x) (hd : decode cc pc = .ok (.getfield 19, 3)) (hq : pc + 3 = q) (g : GG Z f lv q (.int x :: st)) : GG Z f lv pc (.ref (zad Z k) :: st) := g_get (T := TX2) (N := 5) C gwi2 rfl (by decide) rfl rfl rfl tw_226 hk hf hd hq (by rw [fvl_0, hx]; exact g)
theorem fg_X2_23I {Z : Zt} {la : List CD} {cc : ByteArray} {n : Nat} {ret : Option FieldType} {d : Nat} {f : Fn} {lv : List (Nat × Value)} {pc q : Nat} {st : List Value} {k : Nat} {fl : List Nat} {x : Int32} (C : CX Z la RX2 cc n ret d) (hk : la[k]? = some (.inl (2, fl))) (hf : fl[3]? = some 0) (hx : f k 3 = x) (hd : decode cc pc = .ok (.getfield 23, 3)) (hq : pc + 3 = q) (g : GG Z f lv q (.int x :: st)) : GG Z f lv pc (.ref (zad Z k) :: st) := g_get (T := TX2) (N := 5) C gwi2 rfl (by decide) rfl rfl rfl tw_228 hk hf hd hq (by rw [fvl_0, hx]; exact g)
theorem fg_X2_26I {Z : Zt} {la : List CD} {cc : ByteArray} {n : Nat} {ret : Option FieldType} {d : Nat} {f : Fn} {lv : List (Nat × Value)} {pc q : Nat} {st : List Value} {k : Nat} {fl : List Nat} {x : Int32} (C : CX Z la RX2 cc n ret d) (hk : la[k]? = some (.inl (2, fl))) (hf : fl[4]? = some 0) (hx : f k 4 = x) (hd : decode cc pc = .ok (.getfield 26, 3)) (hq : pc + 3 = q) (g : GG Z f lv q (.int x :: st)) : GG Z f lv pc (.ref (zad Z k) :: st) := g_get (T := TX2) (N := 5) C gwi2 rfl (by decide) rfl rfl rfl tw_229 hk hf hd hq (by rw [fvl_0, hx]; exact g)
theorem fg_X2_38I {Z : Zt} {la : List CD} {cc : ByteArray} {n : Nat} {ret : Option FieldType} {d : Nat} {f : Fn} {lv : List (Nat × Value)} {pc q : Nat} {st : List Value} {k : Nat} {fl : List Nat} {x : Int32} (C : CX Z la RX2 cc n ret d) (hk : la[k]? = some (.inl (7, fl))) (hf : fl[9]? = some 0) (hx : f k 9 = x) (hd : decode cc pc = .ok (.getfield 38, 3)) (hq : pc + 3 = q) (g : GG Z f lv q (.int x :: st)) : GG Z f lv pc (.ref (zad Z k) :: st) := g_getN (T := TX7) (N := 18) C gwi7 rfl (by decide) rfl rfl rfl nw_25 hk hf hd hq (by rw [fvl_0, hx]; exact g)
theorem fg_X2_43R {Z : Zt} {la : List CD} {cc : ByteArray} {n : Nat} {ret : Option FieldType} {d : Nat} {f : Fn} {lv : List (Nat × Value)} {pc q : Nat} {st : List Value} {k : Nat} {fl : List Nat} {p : Nat} (C : CX Z la RX2 cc n ret d) (hk : la[k]? = some (.inl (7, fl))) (hf : fl[8]? = some (p + 2)) (hd : decode cc pc = .ok (.getfield 43, 3)) (hq : pc + 3 = q) (g : GG Z f lv q (.ref (zad Z p) :: st)) : GG Z f lv pc (.ref (zad Z k) :: st) := g_getN (T := TX7) (N := 18) C gwi7 rfl (by decide) rfl rfl rfl nw_24 hk hf hd hq (by rw [fvl_2]; exact g)
theorem fg_X5_12R {Z : Zt} {la : List CD} {cc : ByteArray} {n : Nat} {ret : Option FieldType} {d : Nat} {f : Fn} {lv : List (Nat × Value)} {pc q : Nat} {st : List Value} {k : Nat} {fl : List Nat} {p : Nat} (C : CX Z la RX5 cc n ret d) (hk : la[k]? = some (.inl (5, fl))) (hf : fl[1]? = some (p + 2)) (hd : decode cc pc = .ok (.getfield 12, 3)) (hq : pc + 3 = q) (g : GG Z f lv q (.ref (zad Z p) :: st)) : GG Z f lv pc (.ref (zad Z k) :: st) := g_get (T := TX5) (N := 9) C gwi5 rfl (by decide) rfl rfl rfl tw_188 hk hf hd hq (by rw [fvl_2]; exact g)
theorem fg_X5_18R {Z : Zt} {la : List CD} {cc : ByteArray} {n : Nat} {ret : Option FieldType} {d : Nat} {f : Fn} {lv : List (Nat × Value)} {pc q : Nat} {st : List Value} {k : Nat} {fl : List Nat} {p : Nat} (C : CX Z la RX5 cc n ret d) (hk : la[k]? = some (.inl (5, fl))) (hf : fl[2]? = some (p + 2)) (hd : decode cc pc = .ok (.getfield 18, 3)) (hq : pc + 3 = q) (g : GG Z f lv q (.ref (zad Z p) :: st)) : GG Z f lv pc (.ref (zad Z k) :: st) := g_get (T := TX5) (N := 9) C gwi5 rfl (by decide) rfl rfl rfl tw_189 hk hf hd hq (by rw [fvl_2]; exact g)
theorem fg_X5_24R {Z : Zt} {la : List CD} {cc : ByteArray} {n : Nat} {ret : Option FieldType} {d : Nat} {f : Fn} {lv : List (Nat × Value)} {pc q : Nat} {st : List Value} {k : Nat} {fl : List Nat} {p : Nat} (C : CX Z la RX5 cc n ret d) (hk : la[k]? = some (.inl (5, fl))) (hf : fl[3]? = some (p + 2)) (hd : decode cc pc = .ok (.getfield 24, 3)) (hq : pc + 3 = q) (g : GG Z f lv q (.ref (zad Z p) :: st)) : GG Z f lv pc (.ref (zad Z k) :: st) := g_get (T := TX5) (N := 9) C gwi5 rfl (by decide) rfl rfl rfl tw_190 hk hf hd hq (by rw [fvl_2]; exact g)
theorem fg_X5_28R {Z : Zt} {la : List CD} {cc : ByteArray} {n : Nat} {ret : Option FieldType} {d : Nat} {f : Fn} {lv : List (Nat × Value)} {pc q : Nat} {st : List Value} {k : Nat} {fl : List Nat} {p : Nat} (C : CX Z la RX5 cc n ret d) (hk : la[k]? = some (.inl (5, fl))) (hf : fl[4]? = some (p + 2)) (hd : decode cc pc = .ok (.getfield 28, 3)) (hq : pc + 3 = q) (g : GG Z f lv q (.ref (zad Z p) :: st)) : GG Z f lv pc (.ref (zad Z k) :: st) := g_get (T := TX5) (N := 9) C gwi5 rfl (by decide) rfl rfl rfl tw_191 hk hf hd hq (by rw [fvl_2]; exact g)
theorem fg_X5_32R {Z : Zt} {la : List CD} {cc : ByteArray} {n : Nat} {ret : Option FieldType} {d : Nat} {f : Fn} {lv : List (Nat × Value)} {pc q : Nat} {st : List Value} {k : Nat} {fl : List Nat} {p : Nat} (C : CX Z la RX5 cc n ret d) (hk : la[k]? = some (.inl (5, fl))) (hf : fl[0]? = some (p + 2)) (hd : decode cc pc = .ok (.getfield 32, 3)) (hq : pc + 3 = q) (g : GG Z f lv q (.ref (zad Z p) :: st)) : GG Z f lv pc (.ref (zad Z k) :: st) := g_get (T := TX5) (N := 9) C gwi5 rfl (by decide) rfl rfl rfl tw_187 hk hf hd hq (by rw [fvl_2]; exact g)
theorem fg_X5_36R {Z : Zt} {la : List CD} {cc : ByteArray} {n : Nat} {ret : Option FieldType} {d : Nat} {f : Fn} {lv : List (Nat × Value)} {pc q : Nat} {st : List Value} {k : Nat} {fl : List Nat} {p : Nat} (C : CX Z la RX5 cc n ret d) (hk : la[k]? = some (.inl (7, fl))) (hf : fl[0]? = some (p + 2)) (hd : decode cc pc = .ok (.getfield 36, 3)) (hq : pc + 3 = q) (g : GG Z f lv q (.ref (zad Z p) :: st)) : GG Z f lv pc (.ref (zad Z k) :: st) := g_getN (T := TX7) (N := 18) C gwi7 rfl (by decide) rfl rfl rfl nw_13 hk hf hd hq (by rw [fvl_2]; exact g)
theorem fg_X5_43R {Z : Zt} {la : List CD} {cc : ByteArray} {n : Nat} {ret : Option FieldType} {d : Nat} {f : Fn} {lv : List (Nat × Value)} {pc q : Nat} {st : List Value} {k : Nat} {fl : List Nat} {p : Nat} (C : CX Z la RX5 cc n ret d) (hk : la[k]? = some (.inl (7, fl))) (hf : fl[1]? = some (p + 2)) (hd : decode cc pc = .ok (.getfield 43, 3)) (hq : pc + 3 = q) (g : GG Z f lv q (.ref (zad Z p) :: st)) : GG Z f lv pc (.ref (zad Z k) :: st) := g_getN (T := TX7) (N := 18) C gwi7 rfl (by decide) rfl rfl rfl nw_15 hk hf hd hq (by rw [fvl_2]; exact g)
theorem fg_X5_51I {Z : Zt} {la : List CD} {cc : ByteArray} {n : Nat} {ret : Option FieldType} {d : Nat} {f : Fn} {lv : List (Nat × Value)} {pc q : Nat} {st : List Value} {k : Nat} {fl : List Nat} {x : Int32} (C : CX Z la RX5 cc n ret d) (hk : la[k]? = some (.inl (5, fl))) (hf : fl[6]? = some 0) (hx : f k 6 = x) (hd : decode cc pc = .ok (.getfield 51, 3)) (hq : pc + 3 = q) (g : GG Z f lv q (.int x :: st)) : GG Z f lv pc (.ref (zad Z k) :: st) := g_get (T := TX5) (N := 9) C gwi5 rfl (by decide) rfl rfl rfl tw_193 hk hf hd hq (by rw [fvl_0, hx]; exact g)
theorem fg_X5_58R {Z : Zt} {la : List CD} {cc : ByteArray} {n : Nat} {ret : Option FieldType} {d : Nat} {f : Fn} {lv : List (Nat × Value)} {pc q : Nat} {st : List Value} {k : Nat} {fl : List Nat} {p : Nat} (C : CX Z la RX5 cc n ret d) (hk : la[k]? = some (.inl (7, fl))) (hf : fl[10]? = some (p + 2)) (hd : decode cc pc = .ok (.getfield 58, 3)) (hq : pc + 3 = q) (g : GG Z f lv q (.ref (zad Z p) :: st)) : GG Z f lv pc (.ref (zad Z k) :: st) := g_getN (T := TX7) (N := 18) C gwi7 rfl (by decide) rfl rfl rfl nw_27 hk hf hd hq (by rw [fvl_2]; exact g)
theorem fg_X5_62I {Z : Zt} {la : List CD} {cc : ByteArray} {n : Nat} {ret : Option FieldType} {d : Nat} {f : Fn} {lv : List (Nat × Value)} {pc q : Nat} {st : List Value} {k : Nat} {fl : List Nat} {x : Int32} (C : CX Z la RX5 cc n ret d) (hk : la[k]? = some (.inl (0, fl))) (hf : fl[2]? = some 0) (hx : f k 2 = x) (hd : decode cc pc = .ok (.getfield 62, 3)) (hq : pc + 3 = q) (g : GG Z f lv q (.int x :: st)) : GG Z f lv pc (.ref (zad Z k) :: st) := g_getN (T := TX0) (N := 4) C gwi0 rfl (by decide) rfl rfl rfl nw_10 hk hf hd hq (by rw [fvl_0, hx]; exact g)
theorem fg_X5_65I {Z : Zt} {la : List CD} {cc : ByteArray} {n : Nat} {ret : Option FieldType} {d : Nat} {f : Fn} {lv : List (Nat × Value)} {pc q : Nat} {st : List Value} {k : Nat} {fl : List Nat} {x : Int32} (C : CX Z la RX5 cc n ret d) (hk : la[k]? = some (.inl (0, fl))) (hf : fl[1]? = some 0) (hx : f k 1 = x) (hd : decode cc pc = .ok (.getfield 65, 3)) (hq : pc + 3 = q) (g : GG Z f lv q (.int x :: st)) : GG Z f lv pc (.ref (zad Z k) :: st) := g_getN (T := TX0) (N := 4) C gwi0 rfl (by decide) rfl rfl rfl nw_7 hk hf hd hq (by rw [fvl_0, hx]; exact g)
theorem fg_X5_74I {Z : Zt} {la : List CD} {cc : ByteArray} {n : Nat} {ret : Option FieldType} {d : Nat} {f : Fn} {lv : List (Nat × Value)} {pc q : Nat} {st : List Value} {k : Nat} {fl : List Nat} {x : Int32} (C : CX Z la RX5 cc n ret d) (hk : la[k]? = some (.inl (5, fl))) (hf : fl[7]? = some 0) (hx : f k 7 = x) (hd : decode cc pc = .ok (.getfield 74, 3)) (hq : pc + 3 = q) (g : GG Z f lv q (.int x :: st)) : GG Z f lv pc (.ref (zad Z k) :: st) := g_get (T := TX5) (N := 9) C gwi5 rfl (by decide) rfl rfl rfl tw_194 hk hf hd hq (by rw [fvl_0, hx]; exact g)
theorem fg_X5_77R {Z : Zt} {la : List CD} {cc : ByteArray} {n : Nat} {ret : Option FieldType} {d : Nat} {f : Fn} {lv : List (Nat × Value)} {pc q : Nat} {st : List Value} {k : Nat} {fl : List Nat} {p : Nat} (C : CX Z la RX5 cc n ret d) (hk : la[k]? = some (.inl (7, fl))) (hf : fl[11]? = some (p + 2)) (hd : decode cc pc = .ok (.getfield 77, 3)) (hq : pc + 3 = q) (g : GG Z f lv q (.ref (zad Z p) :: st)) : GG Z f lv pc (.ref (zad Z k) :: st) := g_getN (T := TX7) (N := 18) C gwi7 rfl (by decide) rfl rfl rfl nw_28 hk hf hd hq (by rw [fvl_2]; exact g)
theorem fg_X5_80I {Z : Zt} {la : List CD} {cc : ByteArray} {n : Nat} {ret : Option FieldType} {d : Nat} {f : Fn} {lv : List (Nat × Value)} {pc q : Nat} {st : List Value} {k : Nat} {fl : List Nat} {x : Int32} (C : CX Z la RX5 cc n ret d) (hk : la[k]? = some (.inl (5, fl))) (hf : fl[8]? = some 0) (hx : f k 8 = x) (hd : decode cc pc = .ok (.getfield 80, 3)) (hq : pc + 3 = q) (g : GG Z f lv q (.int x :: st)) : GG Z f lv pc (.ref (zad Z k) :: st) := g_get (T := TX5) (N := 9) C gwi5 rfl (by decide) rfl rfl rfl tw_196 hk hf hd hq (by rw [fvl_0, hx]; exact g)
theorem fg_X5_83I {Z : Zt} {la : List CD} {cc : ByteArray} {n : Nat} {ret : Option FieldType} {d : Nat} {f : Fn} {lv : List (Nat × Value)} {pc q : Nat} {st : List Value} {k : Nat} {fl : List Nat} {x : Int32} (C : CX Z la RX5 cc n ret d) (hk : la[k]? = some (.inl (7, fl))) (hf : fl[2]? = some 0) (hx : f k 2 = x) (hd : decode cc pc = .ok (.getfield 83, 3)) (hq : pc + 3 = q) (g : GG Z f lv q (.int x :: st)) : GG Z f lv pc (.ref (zad Z k) :: st) := g_getN (T := TX7) (N := 18) C gwi7 rfl (by decide) rfl rfl rfl nw_16 hk hf hd hq (by rw [fvl_0, hx]; exact g)
theorem fg_X5_91I {Z : Zt} {la : List CD} {cc : ByteArray} {n : Nat} {ret : Option FieldType} {d : Nat} {f : Fn} {lv : List (Nat × Value)} {pc q : Nat} {st : List Value} {k : Nat} {fl : List Nat} {x : Int32} (C : CX Z la RX5 cc n ret d) (hk : la[k]? = some (.inl (7, fl))) (hf : fl[3]? = some 0) (hx : f k 3 = x) (hd : decode cc pc = .ok (.getfield 91, 3)) (hq : pc + 3 = q) (g : GG Z f lv q (.int x :: st)) : GG Z f lv pc (.ref (zad Z k) :: st) := g_getN (T := TX7) (N := 18) C gwi7 rfl (by decide) rfl rfl rfl nw_19 hk hf hd hq (by rw [fvl_0, hx]; exact g)
theorem fg_X5_108I {Z : Zt} {la : List CD} {cc : ByteArray} {n : Nat} {ret : Option FieldType} {d : Nat} {f : Fn} {lv : List (Nat × Value)} {pc q : Nat} {st : List Value} {k : Nat} {fl : List Nat} {x : Int32} (C : CX Z la RX5 cc n ret d) (hk : la[k]? = some (.inl (7, fl))) (hf : fl[5]? = some 0) (hx : f k 5 = x) (hd : decode cc pc = .ok (.getfield 108, 3)) (hq : pc + 3 = q) (g : GG Z f lv q (.int x :: st)) : GG Z f lv pc (.ref (zad Z k) :: st) := g_getN (T := TX7) (N := 18) C gwi7 rfl (by decide) rfl rfl rfl nw_21 hk hf hd hq (by rw [fvl_0, hx]; exact g)
theorem fg_X5_117I {Z : Zt} {la : List CD} {cc : ByteArray} {n : Nat} {ret : Option FieldType} {d : Nat} {f : Fn} {lv : List (Nat × Value)} {pc q : Nat} {st : List Value} {k : Nat} {fl : List Nat} {x : Int32} (C : CX Z la RX5 cc n ret d) (hk : la[k]? = some (.inl (4, fl))) (hf : fl[1]? = some 0) (hx : f k 1 = x) (hd : decode cc pc = .ok (.getfield 117, 3)) (hq : pc + 3 = q) (g : GG Z f lv q (.int x :: st)) : GG Z f lv pc (.ref (zad Z k) :: st) := g_getN (T := TX4) (N := 3) C gwi4 rfl (by decide) rfl rfl rfl nw_2 hk hf hd hq (by rw [fvl_0, hx]; exact g)
theorem fg_X5_123I {Z : Zt} {la : List CD} {cc : ByteArray} {n : Nat} {ret : Option FieldType} {d : Nat} {f : Fn} {lv : List (Nat × Value)} {pc q : Nat} {st : List Value} {k : Nat} {fl : List Nat} {x : Int32} (C : CX Z la RX5 cc n ret d) (hk : la[k]? = some (.inl (4, fl))) (hf : fl[2]? = some 0) (hx : f k 2 = x) (hd : decode cc pc = .ok (.getfield 123, 3)) (hq : pc + 3 = q) (g : GG Z f lv q (.int x :: st)) : GG Z f lv pc (.ref (zad Z k) :: st) := g_getN (T := TX4) (N := 3) C gwi4 rfl (by decide) rfl rfl rfl nw_3 hk hf hd hq (by rw [fvl_0, hx]; exact g)
theorem fg_X5_126I {Z : Zt} {la : List CD} {cc : ByteArray} {n : Nat} {ret : Option FieldType} {d : Nat} {f : Fn} {lv : List (Nat × Value)} {pc q : Nat} {st : List Value} {k : Nat} {fl : List Nat} {x : Int32} (C : CX Z la RX5 cc n ret d) (hk : la[k]? = some (.inl (4, fl))) (hf : fl[0]? = some 0) (hx : f k 0 = x) (hd : decode cc pc = .ok (.getfield 126, 3)) (hq : pc + 3 = q) (g : GG Z f lv q (.int x :: st)) : GG Z f lv pc (.ref (zad Z k) :: st) := g_getN (T := TX4) (N := 3) C gwi4 rfl (by decide) rfl rfl rfl nw_1 hk hf hd hq (by rw [fvl_0, hx]; exact g)
theorem fg_X5_129I {Z : Zt} {la : List CD} {cc : ByteArray} {n : Nat} {ret : Option FieldType} {d : Nat} {f : Fn} {lv : List (Nat × Value)} {pc q : Nat} {st : List Value} {k : Nat} {fl : List Nat} {x : Int32} (C : CX Z la RX5 cc n ret d) (hk : la[k]? = some (.inl (5, fl))) (hf : fl[5]? = some 0) (hx : f k 5 = x) (hd : decode cc pc = .ok (.getfield 129, 3)) (hq : pc + 3 = q) (g : GG Z f lv q (.int x :: st)) : GG Z f lv pc (.ref (zad Z k) :: st) := g_get (T := TX5) (N := 9) C gwi5 rfl (by decide) rfl rfl rfl tw_192 hk hf hd hq (by rw [fvl_0, hx]; exact g)
theorem fg_X5_138I {Z : Zt} {la : List CD} {cc : ByteArray} {n : Nat} {ret : Option FieldType} {d : Nat} {f : Fn} {lv : List (Nat × Value)} {pc q : Nat} {st : List Value} {k : Nat} {fl : List Nat} {x : Int32} (C : CX Z la RX5 cc n ret d) (hk : la[k]? = some (.inl (3, fl))) (hf : fl[2]? = some 0) (hx : f k 2 = x) (hd : decode cc pc = .ok (.getfield 138, 3)) (hq : pc + 3 = q) (g : GG Z f lv q (.int x :: st)) : GG Z f lv pc (.ref (zad Z k) :: st) := g_getN (T := TX3) (N := 3) C gwi3 rfl (by decide) rfl rfl rfl nw_47 hk hf hd hq (by rw [fvl_0, hx]; exact g)
theorem fg_X6_9R {Z : Zt} {la : List CD} {cc : ByteArray} {n : Nat} {ret : Option FieldType} {d : Nat} {f : Fn} {lv : List (Nat × Value)} {pc q : Nat} {st : List Value} {k : Nat} {fl : List Nat} {p : Nat} (C : CX Z la RX6 cc n ret d) (hk : la[k]? = some (.inl (6, fl))) (hf : fl[0]? = some (p + 2)) (hd : decode cc pc = .ok (.getfield 9, 3)) (hq : pc + 3 = q) (g : GG Z f lv q (.ref (zad Z p) :: st)) : GG Z f lv pc (.ref (zad Z k) :: st) := g_get (T := TX6) (N := 4) C gwi6 rfl (by decide) rfl rfl rfl tw_249 hk hf hd hq (by rw [fvl_2]; exact g)
theorem fg_X6_18R {Z : Zt} {la : List CD} {cc : ByteArray} {n : Nat} {ret : Option FieldType} {d : Nat} {f : Fn} {lv : List (Nat × Value)} {pc q : Nat} {st : List Value} {k : Nat} {fl : List Nat} {p : Nat} (C : CX Z la RX6 cc n ret d) (hk : la[k]? = some (.inl (6, fl))) (hf : fl[3]? = some (p + 2)) (hd : decode cc pc = .ok (.getfield 18, 3)) (hq : pc + 3 = q) (g : GG Z f lv q (.ref (zad Z p) :: st)) : GG Z f lv pc (.ref (zad Z k) :: st) := g_get (T := TX6) (N := 4) C gwi6 rfl (by decide) rfl rfl rfl tw_253 hk hf hd hq (by rw [fvl_2]; exact g)
theorem fg_X6_22I {Z : Zt} {la : List CD} {cc : ByteArray} {n : Nat} {ret : Option FieldType} {d : Nat} {f : Fn} {lv : List (Nat × Value)} {pc q : Nat} {st : List Value} {k : Nat} {fl : List Nat} {x : Int32} (C : CX Z la RX6 cc n ret d) (hk : la[k]? = some (.inl (6, fl))) (hf : fl[1]? = some 0) (hx : f k 1 = x) (hd : decode cc pc = .ok (.getfield 22, 3)) (hq : pc + 3 = q) (g : GG Z f lv q (.int x :: st)) : GG Z f lv pc (.ref (zad Z k) :: st) := g_get (T := TX6) (N := 4) C gwi6 rfl (by decide) rfl rfl rfl tw_250 hk hf hd hq (by rw [fvl_0, hx]; exact g)
theorem fg_X6_26I {Z : Zt} {la : List CD} {cc : ByteArray} {n : Nat} {ret : Option FieldType} {d : Nat} {f : Fn} {lv : List (Nat × Value)} {pc q : Nat} {st : List Value} {k : Nat} {fl : List Nat} {x : Int32} (C : CX Z la RX6 cc n ret d) (hk : la[k]? = some (.inl (6, fl))) (hf : fl[2]? = some 0) (hx : f k 2 = x) (hd : decode cc pc = .ok (.getfield 26, 3)) (hq : pc + 3 = q) (g : GG Z f lv q (.int x :: st)) : GG Z f lv pc (.ref (zad Z k) :: st) := g_get (T := TX6) (N := 4) C gwi6 rfl (by decide) rfl rfl rfl tw_252 hk hf hd hq (by rw [fvl_0, hx]; exact g)
theorem fg_X6_33I {Z : Zt} {la : List CD} {cc : ByteArray} {n : Nat} {ret : Option FieldType} {d : Nat} {f : Fn} {lv : List (Nat × Value)} {pc q : Nat} {st : List Value} {k : Nat} {fl : List Nat} {x : Int32} (C : CX Z la RX6 cc n ret d) (hk : la[k]? = some (.inl (0, fl))) (hf : fl[0]? = some 0) (hx : f k 0 = x) (hd : decode cc pc = .ok (.getfield 33, 3)) (hq : pc + 3 = q) (g : GG Z f lv q (.int x :: st)) : GG Z f lv pc (.ref (zad Z k) :: st) := g_getN (T := TX0) (N := 4) C gwi0 rfl (by decide) rfl rfl rfl nw_5 hk hf hd hq (by rw [fvl_0, hx]; exact g)
theorem fg_X6_59I {Z : Zt} {la : List CD} {cc : ByteArray} {n : Nat} {ret : Option FieldType} {d : Nat} {f : Fn} {lv : List (Nat × Value)} {pc q : Nat} {st : List Value} {k : Nat} {fl : List Nat} {x : Int32} (C : CX Z la RX6 cc n ret d) (hk : la[k]? = some (.inl (0, fl))) (hf : fl[1]? = some 0) (hx : f k 1 = x) (hd : decode cc pc = .ok (.getfield 59, 3)) (hq : pc + 3 = q) (g : GG Z f lv q (.int x :: st)) : GG Z f lv pc (.ref (zad Z k) :: st) := g_getN (T := TX0) (N := 4) C gwi0 rfl (by decide) rfl rfl rfl nw_9 hk hf hd hq (by rw [fvl_0, hx]; exact g)
theorem fg_X7_12R {Z : Zt} {la : List CD} {cc : ByteArray} {n : Nat} {ret : Option FieldType} {d : Nat} {f : Fn} {lv : List (Nat × Value)} {pc q : Nat} {st : List Value} {k : Nat} {fl : List Nat} {p : Nat} (C : CX Z la RX7 cc n ret d) (hk : la[k]? = some (.inl (7, fl))) (hf : fl[0]? = some (p + 2)) (hd : decode cc pc = .ok (.getfield 12, 3)) (hq : pc + 3 = q) (g : GG Z f lv q (.ref (zad Z p) :: st)) : GG Z f lv pc (.ref (zad Z k) :: st) := g_get (T := TX7) (N := 18) C gwi7 rfl (by decide) rfl rfl rfl tw_100 hk hf hd hq (by rw [fvl_2]; exact g)
theorem fg_X7_18R {Z : Zt} {la : List CD} {cc : ByteArray} {n : Nat} {ret : Option FieldType} {d : Nat} {f : Fn} {lv : List (Nat × Value)} {pc q : Nat} {st : List Value} {k : Nat} {fl : List Nat} {p : Nat} (C : CX Z la RX7 cc n ret d) (hk : la[k]? = some (.inl (7, fl))) (hf : fl[1]? = some (p + 2)) (hd : decode cc pc = .ok (.getfield 18, 3)) (hq : pc + 3 = q) (g : GG Z f lv q (.ref (zad Z p) :: st)) : GG Z f lv pc (.ref (zad Z k) :: st) := g_get (T := TX7) (N := 18) C gwi7 rfl (by decide) rfl rfl rfl tw_103 hk hf hd hq (by rw [fvl_2]; exact g)
theorem fg_X7_21I {Z : Zt} {la : List CD} {cc : ByteArray} {n : Nat} {ret : Option FieldType} {d : Nat} {f : Fn} {lv : List (Nat × Value)} {pc q : Nat} {st : List Value} {k : Nat} {fl : List Nat} {x : Int32} (C : CX Z la RX7 cc n ret d) (hk : la[k]? = some (.inl (7, fl))) (hf : fl[2]? = some 0) (hx : f k 2 = x) (hd : decode cc pc = .ok (.getfield 21, 3)) (hq : pc + 3 = q) (g : GG Z f lv q (.int x :: st)) : GG Z f lv pc (.ref (zad Z k) :: st) := g_get (T := TX7) (N := 18) C gwi7 rfl (by decide) rfl rfl rfl tw_105 hk hf hd hq (by rw [fvl_0, hx]; exact g)
theorem fg_X7_25I {Z : Zt} {la : List CD} {cc : ByteArray} {n : Nat} {ret : Option FieldType} {d : Nat} {f : Fn} {lv : List (Nat × Value)} {pc q : Nat} {st : List Value} {k : Nat} {fl : List Nat} {x : Int32} (C : CX Z la RX7 cc n ret d) (hk : la[k]? = some (.inl (7, fl))) (hf : fl[3]? = some 0) (hx : f k 3 = x) (hd : decode cc pc = .ok (.getfield 25, 3)) (hq : pc + 3 = q) (g : GG Z f lv q (.int x :: st)) : GG Z f lv pc (.ref (zad Z k) :: st) := g_get (T := TX7) (N := 18) C gwi7 rfl (by decide) rfl rfl rfl tw_108 hk hf hd hq (by rw [fvl_0, hx]; exact g)
theorem fg_X7_28I {Z : Zt} {la : List CD} {cc : ByteArray} {n : Nat} {ret : Option FieldType} {d : Nat} {f : Fn} {lv : List (Nat × Value)} {pc q : Nat} {st : List Value} {k : Nat} {fl : List Nat} {x : Int32} (C : CX Z la RX7 cc n ret d) (hk : la[k]? = some (.inl (7, fl))) (hf : fl[4]? = some 0) (hx : f k 4 = x) (hd : decode cc pc = .ok (.getfield 28, 3)) (hq : pc + 3 = q) (g : GG Z f lv q (.int x :: st)) : GG Z f lv pc (.ref (zad Z k) :: st) := g_get (T := TX7) (N := 18) C gwi7 rfl (by decide) rfl rfl rfl tw_111 hk hf hd hq (by rw [fvl_0, hx]; exact g)
theorem fg_X7_33R {Z : Zt} {la : List CD} {cc : ByteArray} {n : Nat} {ret : Option FieldType} {d : Nat} {f : Fn} {lv : List (Nat × Value)} {pc q : Nat} {st : List Value} {k : Nat} {fl : List Nat} {p : Nat} (C : CX Z la RX7 cc n ret d) (hk : la[k]? = some (.inl (7, fl))) (hf : fl[6]? = some (p + 2)) (hd : decode cc pc = .ok (.getfield 33, 3)) (hq : pc + 3 = q) (g : GG Z f lv q (.ref (zad Z p) :: st)) : GG Z f lv pc (.ref (zad Z k) :: st) := g_get (T := TX7) (N := 18) C gwi7 rfl (by decide) rfl rfl rfl tw_116 hk hf hd hq (by rw [fvl_2]; exact g)
theorem fg_X7_37R {Z : Zt} {la : List CD} {cc : ByteArray} {n : Nat} {ret : Option FieldType} {d : Nat} {f : Fn} {lv : List (Nat × Value)} {pc q : Nat} {st : List Value} {k : Nat} {fl : List Nat} {p : Nat} (C : CX Z la RX7 cc n ret d) (hk : la[k]? = some (.inl (7, fl))) (hf : fl[8]? = some (p + 2)) (hd : decode cc pc = .ok (.getfield 37, 3)) (hq : pc + 3 = q) (g : GG Z f lv q (.ref (zad Z p) :: st)) : GG Z f lv pc (.ref (zad Z k) :: st) := g_get (T := TX7) (N := 18) C gwi7 rfl (by decide) rfl rfl rfl tw_119 hk hf hd hq (by rw [fvl_2]; exact g)
theorem fg_X7_46R {Z : Zt} {la : List CD} {cc : ByteArray} {n : Nat} {ret : Option FieldType} {d : Nat} {f : Fn} {lv : List (Nat × Value)} {pc q : Nat} {st : List Value} {k : Nat} {fl : List Nat} {p : Nat} (C : CX Z la RX7 cc n ret d) (hk : la[k]? = some (.inl (7, fl))) (hf : fl[10]? = some (p + 2)) (hd : decode cc pc = .ok (.getfield 46, 3)) (hq : pc + 3 = q) (g : GG Z f lv q (.ref (zad Z p) :: st)) : GG Z f lv pc (.ref (zad Z k) :: st) := g_get (T := TX7) (N := 18) C gwi7 rfl (by decide) rfl rfl rfl tw_124 hk hf hd hq (by rw [fvl_2]; exact g)
theorem fg_X7_50R {Z : Zt} {la : List CD} {cc : ByteArray} {n : Nat} {ret : Option FieldType} {d : Nat} {f : Fn} {lv : List (Nat × Value)} {pc q : Nat} {st : List Value} {k : Nat} {fl : List Nat} {p : Nat} (C : CX Z la RX7 cc n ret d) (hk : la[k]? = some (.inl (7, fl))) (hf : fl[11]? = some (p + 2)) (hd : decode cc pc = .ok (.getfield 50, 3)) (hq : pc + 3 = q) (g : GG Z f lv q (.ref (zad Z p) :: st)) : GG Z f lv pc (.ref (zad Z k) :: st) := g_get (T := TX7) (N := 18) C gwi7 rfl (by decide) rfl rfl rfl tw_126 hk hf hd hq (by rw [fvl_2]; exact g)
theorem fg_X7_53I {Z : Zt} {la : List CD} {cc : ByteArray} {n : Nat} {ret : Option FieldType} {d : Nat} {f : Fn} {lv : List (Nat × Value)} {pc q : Nat} {st : List Value} {k : Nat} {fl : List Nat} {x : Int32} (C : CX Z la RX7 cc n ret d) (hk : la[k]? = some (.inl (7, fl))) (hf : fl[15]? = some 0) (hx : f k 15 = x) (hd : decode cc pc = .ok (.getfield 53, 3)) (hq : pc + 3 = q) (g : GG Z f lv q (.int x :: st)) : GG Z f lv pc (.ref (zad Z k) :: st) := g_get (T := TX7) (N := 18) C gwi7 rfl (by decide) rfl rfl rfl tw_134 hk hf hd hq (by rw [fvl_0, hx]; exact g)
theorem fg_X7_56R {Z : Zt} {la : List CD} {cc : ByteArray} {n : Nat} {ret : Option FieldType} {d : Nat} {f : Fn} {lv : List (Nat × Value)} {pc q : Nat} {st : List Value} {k : Nat} {fl : List Nat} {p : Nat} (C : CX Z la RX7 cc n ret d) (hk : la[k]? = some (.inl (7, fl))) (hf : fl[16]? = some (p + 2)) (hd : decode cc pc = .ok (.getfield 56, 3)) (hq : pc + 3 = q) (g : GG Z f lv q (.ref (zad Z p) :: st)) : GG Z f lv pc (.ref (zad Z k) :: st) := g_get (T := TX7) (N := 18) C gwi7 rfl (by decide) rfl rfl rfl tw_136 hk hf hd hq (by rw [fvl_2]; exact g)
theorem fg_X7_60I {Z : Zt} {la : List CD} {cc : ByteArray} {n : Nat} {ret : Option FieldType} {d : Nat} {f : Fn} {lv : List (Nat × Value)} {pc q : Nat} {st : List Value} {k : Nat} {fl : List Nat} {x : Int32} (C : CX Z la RX7 cc n ret d) (hk : la[k]? = some (.inl (7, fl))) (hf : fl[7]? = some 0) (hx : f k 7 = x) (hd : decode cc pc = .ok (.getfield 60, 3)) (hq : pc + 3 = q) (g : GG Z f lv q (.int x :: st)) : GG Z f lv pc (.ref (zad Z k) :: st) := g_get (T := TX7) (N := 18) C gwi7 rfl (by decide) rfl rfl rfl tw_117 hk hf hd hq (by rw [fvl_0, hx]; exact g)
theorem fg_X7_63I {Z : Zt} {la : List CD} {cc : ByteArray} {n : Nat} {ret : Option FieldType} {d : Nat} {f : Fn} {lv : List (Nat × Value)} {pc q : Nat} {st : List Value} {k : Nat} {fl : List Nat} {x : Int32} (C : CX Z la RX7 cc n ret d) (hk : la[k]? = some (.inl (7, fl))) (hf : fl[9]? = some 0) (hx : f k 9 = x) (hd : decode cc pc = .ok (.getfield 63, 3)) (hq : pc + 3 = q) (g : GG Z f lv q (.int x :: st)) : GG Z f lv pc (.ref (zad Z k) :: st) := g_get (T := TX7) (N := 18) C gwi7 rfl (by decide) rfl rfl rfl tw_122 hk hf hd hq (by rw [fvl_0, hx]; exact g)
theorem fg_X7_66I {Z : Zt} {la : List CD} {cc : ByteArray} {n : Nat} {ret : Option FieldType} {d : Nat} {f : Fn} {lv : List (Nat × Value)} {pc q : Nat} {st : List Value} {k : Nat} {fl : List Nat} {x : Int32} (C : CX Z la RX7 cc n ret d) (hk : la[k]? = some (.inl (7, fl))) (hf : fl[17]? = some 0) (hx : f k 17 = x) (hd : decode cc pc = .ok (.getfield 66, 3)) (hq : pc + 3 = q) (g : GG Z f lv q (.int x :: st)) : GG Z f lv pc (.ref (zad Z k) :: st) := g_get (T := TX7) (N := 18) C gwi7 rfl (by decide) rfl rfl rfl tw_138 hk hf hd hq (by rw [fvl_0, hx]; exact g)
theorem fg_X7_74I {Z : Zt} {la : List CD} {cc : ByteArray} {n : Nat} {ret : Option FieldType} {d : Nat} {f : Fn} {lv : List (Nat × Value)} {pc q : Nat} {st : List Value} {k : Nat} {fl : List Nat} {x : Int32} (C : CX Z la RX7 cc n ret d) (hk : la[k]? = some (.inl (7, fl))) (hf : fl[5]? = some 0) (hx : f k 5 = x) (hd : decode cc pc = .ok (.getfield 74, 3)) (hq : pc + 3 = q) (g : GG Z f lv q (.int x :: st)) : GG Z f lv pc (.ref (zad Z k) :: st) := g_get (T := TX7) (N := 18) C gwi7 rfl (by decide) rfl rfl rfl tw_114 hk hf hd hq (by rw [fvl_0, hx]; exact g)
theorem fg_X7_89I {Z : Zt} {la : List CD} {cc : ByteArray} {n : Nat} {ret : Option FieldType} {d : Nat} {f : Fn} {lv : List (Nat × Value)} {pc q : Nat} {st : List Value} {k : Nat} {fl : List Nat} {x : Int32} (C : CX Z la RX7 cc n ret d) (hk : la[k]? = some (.inl (7, fl))) (hf : fl[12]? = some 0) (hx : f k 12 = x) (hd : decode cc pc = .ok (.getfield 89, 3)) (hq : pc + 3 = q) (g : GG Z f lv q (.int x :: st)) : GG Z f lv pc (.ref (zad Z k) :: st) := g_get (T := TX7) (N := 18) C gwi7 rfl (by decide) rfl rfl rfl tw_128 hk hf hd hq (by rw [fvl_0, hx]; exact g)
theorem fg_X7_92I {Z : Zt} {la : List CD} {cc : ByteArray} {n : Nat} {ret : Option FieldType} {d : Nat} {f : Fn} {lv : List (Nat × Value)} {pc q : Nat} {st : List Value} {k : Nat} {fl : List Nat} {x : Int32} (C : CX Z la RX7 cc n ret d) (hk : la[k]? = some (.inl (7, fl))) (hf : fl[13]? = some 0) (hx : f k 13 = x) (hd : decode cc pc = .ok (.getfield 92, 3)) (hq : pc + 3 = q) (g : GG Z f lv q (.int x :: st)) : GG Z f lv pc (.ref (zad Z k) :: st) := g_get (T := TX7) (N := 18) C gwi7 rfl (by decide) rfl rfl rfl tw_130 hk hf hd hq (by rw [fvl_0, hx]; exact g)
theorem fg_X7_95I {Z : Zt} {la : List CD} {cc : ByteArray} {n : Nat} {ret : Option FieldType} {d : Nat} {f : Fn} {lv : List (Nat × Value)} {pc q : Nat} {st : List Value} {k : Nat} {fl : List Nat} {x : Int32} (C : CX Z la RX7 cc n ret d) (hk : la[k]? = some (.inl (7, fl))) (hf : fl[14]? = some 0) (hx : f k 14 = x) (hd : decode cc pc = .ok (.getfield 95, 3)) (hq : pc + 3 = q) (g : GG Z f lv q (.int x :: st)) : GG Z f lv pc (.ref (zad Z k) :: st) := g_get (T := TX7) (N := 18) C gwi7 rfl (by decide) rfl rfl rfl tw_132 hk hf hd hq (by rw [fvl_0, hx]; exact g)
theorem fp_X2_19 {Z : Zt} {la : List CD} {cc : ByteArray} {n : Nat} {ret : Option FieldType} {d : Nat} {f : Fn} {lv : List (Nat × Value)} {pc q : Nat} {st : List Value} {k : Nat} {fl : List Nat} {v : Int32} (C : CX Z la RX2 cc n ret d) (hk : la[k]? = some (.inl (2, fl))) (hf : fl[2]? = some 0) (hlen : fl.length ≤ 100) (hd : decode cc pc = .ok (.putfield 19, 3)) (hq : pc + 3 = q) (g : GG Z (up2 f k 2 v) lv q st) : GG Z f lv pc (.int v :: .ref (zad Z k) :: st) := g_put (T := TX2) (N := 5) (j := 2) C gwi2 tyX2_ok nmX2 rfl (by decide) rfl rfl rfl rfl tw_226 rfl rfl hk hf hlen hd hq g
theorem fp_X2_23 {Z : Zt} {la : List CD} {cc : ByteArray} {n : Nat} {ret : Option FieldType} {d : Nat} {f : Fn} {lv : List (Nat × Value)} {pc q : Nat} {st : List Value} {k : Nat} {fl : List Nat} {v : Int32} (C : CX Z la RX2 cc n ret d) (hk : la[k]? = some (.inl (2, fl))) (hf : fl[3]? = some 0) (hlen : fl.length ≤ 100) (hd : decode cc pc = .ok (.putfield 23, 3)) (hq : pc + 3 = q) (g : GG Z (up2 f k 3 v) lv q st) : GG Z f lv pc (.int v :: .ref (zad Z k) :: st) := g_put (T := TX2) (N := 5) (j := 3) C gwi2 tyX2_ok nmX2 rfl (by decide) rfl rfl rfl rfl tw_228 rfl rfl hk hf hlen hd hq g
theorem fp_X2_26 {Z : Zt} {la : List CD} {cc : ByteArray} {n : Nat} {ret : Option FieldType} {d : Nat} {f : Fn} {lv : List (Nat × Value)} {pc q : Nat} {st : List Value} {k : Nat} {fl : List Nat} {v : Int32} (C : CX Z la RX2 cc n ret d) (hz : v = 0 ∨ v = 1) (hk : la[k]? = some (.inl (2, fl))) (hf : fl[4]? = some 0) (hlen : fl.length ≤ 100) (hd : decode cc pc = .ok (.putfield 26, 3)) (hq : pc + 3 = q) (g : GG Z (up2 f k 4 v) lv q st) : GG Z f lv pc (.int v :: .ref (zad Z k) :: st) := g_put (T := TX2) (N := 5) (j := 4) C gwi2 tyX2_ok nmX2 rfl (by decide) rfl rfl rfl rfl tw_229 (nar_b hz) (fit_b hz) hk hf hlen hd hq g
theorem fp_X5_51 {Z : Zt} {la : List CD} {cc : ByteArray} {n : Nat} {ret : Option FieldType} {d : Nat} {f : Fn} {lv : List (Nat × Value)} {pc q : Nat} {st : List Value} {k : Nat} {fl : List Nat} {v : Int32} (C : CX Z la RX5 cc n ret d) (hk : la[k]? = some (.inl (5, fl))) (hf : fl[6]? = some 0) (hlen : fl.length ≤ 100) (hd : decode cc pc = .ok (.putfield 51, 3)) (hq : pc + 3 = q) (g : GG Z (up2 f k 6 v) lv q st) : GG Z f lv pc (.int v :: .ref (zad Z k) :: st) := g_put (T := TX5) (N := 9) (j := 6) C gwi5 tyX5_ok nmX5 rfl (by decide) rfl rfl rfl rfl tw_193 rfl rfl hk hf hlen hd hq g
theorem fp_X5_74 {Z : Zt} {la : List CD} {cc : ByteArray} {n : Nat} {ret : Option FieldType} {d : Nat} {f : Fn} {lv : List (Nat × Value)} {pc q : Nat} {st : List Value} {k : Nat} {fl : List Nat} {v : Int32} (C : CX Z la RX5 cc n ret d) (hk : la[k]? = some (.inl (5, fl))) (hf : fl[7]? = some 0) (hlen : fl.length ≤ 100) (hd : decode cc pc = .ok (.putfield 74, 3)) (hq : pc + 3 = q) (g : GG Z (up2 f k 7 v) lv q st) : GG Z f lv pc (.int v :: .ref (zad Z k) :: st) := g_put (T := TX5) (N := 9) (j := 7) C gwi5 tyX5_ok nmX5 rfl (by decide) rfl rfl rfl rfl tw_194 rfl rfl hk hf hlen hd hq g
theorem fp_X5_80 {Z : Zt} {la : List CD} {cc : ByteArray} {n : Nat} {ret : Option FieldType} {d : Nat} {f : Fn} {lv : List (Nat × Value)} {pc q : Nat} {st : List Value} {k : Nat} {fl : List Nat} {v : Int32} (C : CX Z la RX5 cc n ret d) (hk : la[k]? = some (.inl (5, fl))) (hf : fl[8]? = some 0) (hlen : fl.length ≤ 100) (hd : decode cc pc = .ok (.putfield 80, 3)) (hq : pc + 3 = q) (g : GG Z (up2 f k 8 v) lv q st) : GG Z f lv pc (.int v :: .ref (zad Z k) :: st) := g_put (T := TX5) (N := 9) (j := 8) C gwi5 tyX5_ok nmX5 rfl (by decide) rfl rfl rfl rfl tw_196 rfl rfl hk hf hlen hd hq g
theorem fp_X5_117 {Z : Zt} {la : List CD} {cc : ByteArray} {n : Nat} {ret : Option FieldType} {d : Nat} {f : Fn} {lv : List (Nat × Value)} {pc q : Nat} {st : List Value} {k : Nat} {fl : List Nat} {v : Int32} (C : CX Z la RX5 cc n ret d) (hk : la[k]? = some (.inl (4, fl))) (hf : fl[1]? = some 0) (hlen : fl.length ≤ 100) (hd : decode cc pc = .ok (.putfield 117, 3)) (hq : pc + 3 = q) (g : GG Z (up2 f k 1 v) lv q st) : GG Z f lv pc (.int v :: .ref (zad Z k) :: st) := g_putN (T := TX4) (N := 3) (j := 1) C gwi4 tyX4_ok nmX4 rfl (by decide) rfl rfl rfl rfl nw_2 rfl rfl hk hf hlen hd hq g
theorem fp_X5_123 {Z : Zt} {la : List CD} {cc : ByteArray} {n : Nat} {ret : Option FieldType} {d : Nat} {f : Fn} {lv : List (Nat × Value)} {pc q : Nat} {st : List Value} {k : Nat} {fl : List Nat} {v : Int32} (C : CX Z la RX5 cc n ret d) (hk : la[k]? = some (.inl (4, fl))) (hf : fl[2]? = some 0) (hlen : fl.length ≤ 100) (hd : decode cc pc = .ok (.putfield 123, 3)) (hq : pc + 3 = q) (g : GG Z (up2 f k 2 v) lv q st) : GG Z f lv pc (.int v :: .ref (zad Z k) :: st) := g_putN (T := TX4) (N := 3) (j := 2) C gwi4 tyX4_ok nmX4 rfl (by decide) rfl rfl rfl rfl nw_3 rfl rfl hk hf hlen hd hq g
theorem fp_X5_129 {Z : Zt} {la : List CD} {cc : ByteArray} {n : Nat} {ret : Option FieldType} {d : Nat} {f : Fn} {lv : List (Nat × Value)} {pc q : Nat} {st : List Value} {k : Nat} {fl : List Nat} {v : Int32} (C : CX Z la RX5 cc n ret d) (hk : la[k]? = some (.inl (5, fl))) (hf : fl[5]? = some 0) (hlen : fl.length ≤ 100) (hd : decode cc pc = .ok (.putfield 129, 3)) (hq : pc + 3 = q) (g : GG Z (up2 f k 5 v) lv q st) : GG Z f lv pc (.int v :: .ref (zad Z k) :: st) := g_put (T := TX5) (N := 9) (j := 5) C gwi5 tyX5_ok nmX5 rfl (by decide) rfl rfl rfl rfl tw_192 rfl rfl hk hf hlen hd hq g
theorem fp_X6_22 {Z : Zt} {la : List CD} {cc : ByteArray} {n : Nat} {ret : Option FieldType} {d : Nat} {f : Fn} {lv : List (Nat × Value)} {pc q : Nat} {st : List Value} {k : Nat} {fl : List Nat} {v : Int32} (C : CX Z la RX6 cc n ret d) (hk : la[k]? = some (.inl (6, fl))) (hf : fl[1]? = some 0) (hlen : fl.length ≤ 100) (hd : decode cc pc = .ok (.putfield 22, 3)) (hq : pc + 3 = q) (g : GG Z (up2 f k 1 v) lv q st) : GG Z f lv pc (.int v :: .ref (zad Z k) :: st) := g_put (T := TX6) (N := 4) (j := 1) C gwi6 tyX6_ok nmX6 rfl (by decide) rfl rfl rfl rfl tw_250 rfl rfl hk hf hlen hd hq g
theorem fp_X6_26 {Z : Zt} {la : List CD} {cc : ByteArray} {n : Nat} {ret : Option FieldType} {d : Nat} {f : Fn} {lv : List (Nat × Value)} {pc q : Nat} {st : List Value} {k : Nat} {fl : List Nat} {v : Int32} (C : CX Z la RX6 cc n ret d) (hk : la[k]? = some (.inl (6, fl))) (hf : fl[2]? = some 0) (hlen : fl.length ≤ 100) (hd : decode cc pc = .ok (.putfield 26, 3)) (hq : pc + 3 = q) (g : GG Z (up2 f k 2 v) lv q st) : GG Z f lv pc (.int v :: .ref (zad Z k) :: st) := g_put (T := TX6) (N := 4) (j := 2) C gwi6 tyX6_ok nmX6 rfl (by decide) rfl rfl rfl rfl tw_252 rfl rfl hk hf hlen hd hq g
theorem fp_X7_21 {Z : Zt} {la : List CD} {cc : ByteArray} {n : Nat} {ret : Option FieldType} {d : Nat} {f : Fn} {lv : List (Nat × Value)} {pc q : Nat} {st : List Value} {k : Nat} {fl : List Nat} {v : Int32} (C : CX Z la RX7 cc n ret d) (hk : la[k]? = some (.inl (7, fl))) (hf : fl[2]? = some 0) (hlen : fl.length ≤ 100) (hd : decode cc pc = .ok (.putfield 21, 3)) (hq : pc + 3 = q) (g : GG Z (up2 f k 2 v) lv q st) : GG Z f lv pc (.int v :: .ref (zad Z k) :: st) := g_put (T := TX7) (N := 18) (j := 2) C gwi7 tyX7_ok nmX7 rfl (by decide) rfl rfl rfl rfl tw_105 rfl rfl hk hf hlen hd hq g
theorem fp_X7_25 {Z : Zt} {la : List CD} {cc : ByteArray} {n : Nat} {ret : Option FieldType} {d : Nat} {f : Fn} {lv : List (Nat × Value)} {pc q : Nat} {st : List Value} {k : Nat} {fl : List Nat} {v : Int32} (C : CX Z la RX7 cc n ret d) (hk : la[k]? = some (.inl (7, fl))) (hf : fl[3]? = some 0) (hlen : fl.length ≤ 100) (hd : decode cc pc = .ok (.putfield 25, 3)) (hq : pc + 3 = q) (g : GG Z (up2 f k 3 v) lv q st) : GG Z f lv pc (.int v :: .ref (zad Z k) :: st) := g_put (T := TX7) (N := 18) (j := 3) C gwi7 tyX7_ok nmX7 rfl (by decide) rfl rfl rfl rfl tw_108 rfl rfl hk hf hlen hd hq g
theorem fp_X7_28 {Z : Zt} {la : List CD} {cc : ByteArray} {n : Nat} {ret : Option FieldType} {d : Nat} {f : Fn} {lv : List (Nat × Value)} {pc q : Nat} {st : List Value} {k : Nat} {fl : List Nat} {v : Int32} (C : CX Z la RX7 cc n ret d) (hk : la[k]? = some (.inl (7, fl))) (hf : fl[4]? = some 0) (hlen : fl.length ≤ 100) (hd : decode cc pc = .ok (.putfield 28, 3)) (hq : pc + 3 = q) (g : GG Z (up2 f k 4 v) lv q st) : GG Z f lv pc (.int v :: .ref (zad Z k) :: st) := g_put (T := TX7) (N := 18) (j := 4) C gwi7 tyX7_ok nmX7 rfl (by decide) rfl rfl rfl rfl tw_111 rfl rfl hk hf hlen hd hq g
theorem fp_X7_53 {Z : Zt} {la : List CD} {cc : ByteArray} {n : Nat} {ret : Option FieldType} {d : Nat} {f : Fn} {lv : List (Nat × Value)} {pc q : Nat} {st : List Value} {k : Nat} {fl : List Nat} {v : Int32} (C : CX Z la RX7 cc n ret d) (hk : la[k]? = some (.inl (7, fl))) (hf : fl[15]? = some 0) (hlen : fl.length ≤ 100) (hd : decode cc pc = .ok (.putfield 53, 3)) (hq : pc + 3 = q) (g : GG Z (up2 f k 15 v) lv q st) : GG Z f lv pc (.int v :: .ref (zad Z k) :: st) := g_put (T := TX7) (N := 18) (j := 15) C gwi7 tyX7_ok nmX7 rfl (by decide) rfl rfl rfl rfl tw_134 rfl rfl hk hf hlen hd hq g
theorem fp_X7_60 {Z : Zt} {la : List CD} {cc : ByteArray} {n : Nat} {ret : Option FieldType} {d : Nat} {f : Fn} {lv : List (Nat × Value)} {pc q : Nat} {st : List Value} {k : Nat} {fl : List Nat} {v : Int32} (C : CX Z la RX7 cc n ret d) (hk : la[k]? = some (.inl (7, fl))) (hf : fl[7]? = some 0) (hlen : fl.length ≤ 100) (hd : decode cc pc = .ok (.putfield 60, 3)) (hq : pc + 3 = q) (g : GG Z (up2 f k 7 v) lv q st) : GG Z f lv pc (.int v :: .ref (zad Z k) :: st) := g_put (T := TX7) (N := 18) (j := 7) C gwi7 tyX7_ok nmX7 rfl (by decide) rfl rfl rfl rfl tw_117 rfl rfl hk hf hlen hd hq g
theorem fp_X7_63 {Z : Zt} {la : List CD} {cc : ByteArray} {n : Nat} {ret : Option FieldType} {d : Nat} {f : Fn} {lv : List (Nat × Value)} {pc q : Nat} {st : List Value} {k : Nat} {fl : List Nat} {v : Int32} (C : CX Z la RX7 cc n ret d) (hk : la[k]? = some (.inl (7, fl))) (hf : fl[9]? = some 0) (hlen : fl.length ≤ 100) (hd : decode cc pc = .ok (.putfield 63, 3)) (hq : pc + 3 = q) (g : GG Z (up2 f k 9 v) lv q st) : GG Z f lv pc (.int v :: .ref (zad Z k) :: st) := g_put (T := TX7) (N := 18) (j := 9) C gwi7 tyX7_ok nmX7 rfl (by decide) rfl rfl rfl rfl tw_122 rfl rfl hk hf hlen hd hq g
theorem fp_X7_66 {Z : Zt} {la : List CD} {cc : ByteArray} {n : Nat} {ret : Option FieldType} {d : Nat} {f : Fn} {lv : List (Nat × Value)} {pc q : Nat} {st : List Value} {k : Nat} {fl : List Nat} {v : Int32} (C : CX Z la RX7 cc n ret d) (hk : la[k]? = some (.inl (7, fl))) (hf : fl[17]? = some 0) (hlen : fl.length ≤ 100) (hd : decode cc pc = .ok (.putfield 66, 3)) (hq : pc + 3 = q) (g : GG Z (up2 f k 17 v) lv q st) : GG Z f lv pc (.int v :: .ref (zad Z k) :: st) := g_put (T := TX7) (N := 18) (j := 17) C gwi7 tyX7_ok nmX7 rfl (by decide) rfl rfl rfl rfl tw_138 rfl rfl hk hf hlen hd hq g
theorem fp_X7_74 {Z : Zt} {la : List CD} {cc : ByteArray} {n : Nat} {ret : Option FieldType} {d : Nat} {f : Fn} {lv : List (Nat × Value)} {pc q : Nat} {st : List Value} {k : Nat} {fl : List Nat} {v : Int32} (C : CX Z la RX7 cc n ret d) (hk : la[k]? = some (.inl (7, fl))) (hf : fl[5]? = some 0) (hlen : fl.length ≤ 100) (hd : decode cc pc = .ok (.putfield 74, 3)) (hq : pc + 3 = q) (g : GG Z (up2 f k 5 v) lv q st) : GG Z f lv pc (.int v :: .ref (zad Z k) :: st) := g_put (T := TX7) (N := 18) (j := 5) C gwi7 tyX7_ok nmX7 rfl (by decide) rfl rfl rfl rfl tw_114 rfl rfl hk hf hlen hd hq g
theorem fp_X7_89 {Z : Zt} {la : List CD} {cc : ByteArray} {n : Nat} {ret : Option FieldType} {d : Nat} {f : Fn} {lv : List (Nat × Value)} {pc q : Nat} {st : List Value} {k : Nat} {fl : List Nat} {v : Int32} (C : CX Z la RX7 cc n ret d) (hk : la[k]? = some (.inl (7, fl))) (hf : fl[12]? = some 0) (hlen : fl.length ≤ 100) (hd : decode cc pc = .ok (.putfield 89, 3)) (hq : pc + 3 = q) (g : GG Z (up2 f k 12 v) lv q st) : GG Z f lv pc (.int v :: .ref (zad Z k) :: st) := g_put (T := TX7) (N := 18) (j := 12) C gwi7 tyX7_ok nmX7 rfl (by decide) rfl rfl rfl rfl tw_128 rfl rfl hk hf hlen hd hq g
theorem fp_X7_92 {Z : Zt} {la : List CD} {cc : ByteArray} {n : Nat} {ret : Option FieldType} {d : Nat} {f : Fn} {lv : List (Nat × Value)} {pc q : Nat} {st : List Value} {k : Nat} {fl : List Nat} {v : Int32} (C : CX Z la RX7 cc n ret d) (hk : la[k]? = some (.inl (7, fl))) (hf : fl[13]? = some 0) (hlen : fl.length ≤ 100) (hd : decode cc pc = .ok (.putfield 92, 3)) (hq : pc + 3 = q) (g : GG Z (up2 f k 13 v) lv q st) : GG Z f lv pc (.int v :: .ref (zad Z k) :: st) := g_put (T := TX7) (N := 18) (j := 13) C gwi7 tyX7_ok nmX7 rfl (by decide) rfl rfl rfl rfl tw_130 rfl rfl hk hf hlen hd hq g
theorem fp_X7_95 {Z : Zt} {la : List CD} {cc : ByteArray} {n : Nat} {ret : Option FieldType} {d : Nat} {f : Fn} {lv : List (Nat × Value)} {pc q : Nat} {st : List Value} {k : Nat} {fl : List Nat} {v : Int32} (C : CX Z la RX7 cc n ret d) (hk : la[k]? = some (.inl (7, fl))) (hf : fl[14]? = some 0) (hlen : fl.length ≤ 100) (hd : decode cc pc = .ok (.putfield 95, 3)) (hq : pc + 3 = q) (g : GG Z (up2 f k 14 v) lv q st) : GG Z f lv pc (.int v :: .ref (zad Z k) :: st) := g_put (T := TX7) (N := 18) (j := 14) C gwi7 tyX7_ok nmX7 rfl (by decide) rfl rfl rfl rfl tw_132 rfl rfl hk hf hlen hd hq g
theorem hy_X0_copy : yX0_copy.cls ≠ "java/lang/invoke/MethodHandle" ∧ yX0_copy.cls ≠ "java/lang/invoke/VarHandle" ∧ (parseMethodDescriptor yX0_copy.desc).map (fun d => d.parameters.length) = some 1 := by decide +kernel
theorem hy_X0_harm : yX0_harm.cls ≠ "java/lang/invoke/MethodHandle" ∧ yX0_harm.cls ≠ "java/lang/invoke/VarHandle" ∧ (parseMethodDescriptor yX0_harm.desc).map (fun d => d.parameters.length) = some 1 := by decide +kernel
theorem hy_X0_holds : yX0_holds.cls ≠ "java/lang/invoke/MethodHandle" ∧ yX0_holds.cls ≠ "java/lang/invoke/VarHandle" ∧ (parseMethodDescriptor yX0_holds.desc).map (fun d => d.parameters.length) = some 1 := by decide +kernel
theorem hy_X0_lag : yX0_lag.cls ≠ "java/lang/invoke/MethodHandle" ∧ yX0_lag.cls ≠ "java/lang/invoke/VarHandle" ∧ (parseMethodDescriptor yX0_lag.desc).map (fun d => d.parameters.length) = some 0 := by decide +kernel
theorem hy_X1_copy : yX1_copy.cls ≠ "java/lang/invoke/MethodHandle" ∧ yX1_copy.cls ≠ "java/lang/invoke/VarHandle" ∧ (parseMethodDescriptor yX1_copy.desc).map (fun d => d.parameters.length) = some 1 := by decide +kernel
theorem hy_X1_gives : yX1_gives.cls ≠ "java/lang/invoke/MethodHandle" ∧ yX1_gives.cls ≠ "java/lang/invoke/VarHandle" ∧ (parseMethodDescriptor yX1_gives.desc).map (fun d => d.parameters.length) = some 3 := by decide +kernel
theorem hy_X2_addStep : yX2_addStep.cls ≠ "java/lang/invoke/MethodHandle" ∧ yX2_addStep.cls ≠ "java/lang/invoke/VarHandle" ∧ (parseMethodDescriptor yX2_addStep.desc).map (fun d => d.parameters.length) = some 1 := by decide +kernel
theorem hy_X2_isDigit : yX2_isDigit.cls ≠ "java/lang/invoke/MethodHandle" ∧ yX2_isDigit.cls ≠ "java/lang/invoke/VarHandle" ∧ (parseMethodDescriptor yX2_isDigit.desc).map (fun d => d.parameters.length) = some 1 := by decide +kernel
theorem hy_X2_levelOf : yX2_levelOf.cls ≠ "java/lang/invoke/MethodHandle" ∧ yX2_levelOf.cls ≠ "java/lang/invoke/VarHandle" ∧ (parseMethodDescriptor yX2_levelOf.desc).map (fun d => d.parameters.length) = some 1 := by decide +kernel
theorem hy_X2_next : yX2_next.cls ≠ "java/lang/invoke/MethodHandle" ∧ yX2_next.cls ≠ "java/lang/invoke/VarHandle" ∧ (parseMethodDescriptor yX2_next.desc).map (fun d => d.parameters.length) = some 0 := by decide +kernel
theorem hy_X2_readLevel : yX2_readLevel.cls ≠ "java/lang/invoke/MethodHandle" ∧ yX2_readLevel.cls ≠ "java/lang/invoke/VarHandle" ∧ (parseMethodDescriptor yX2_readLevel.desc).map (fun d => d.parameters.length) = some 2 := by decide +kernel
theorem hy_X2_readNumber : yX2_readNumber.cls ≠ "java/lang/invoke/MethodHandle" ∧ yX2_readNumber.cls ≠ "java/lang/invoke/VarHandle" ∧ (parseMethodDescriptor yX2_readNumber.desc).map (fun d => d.parameters.length) = some 0 := by decide +kernel
theorem hy_X2_readPart : yX2_readPart.cls ≠ "java/lang/invoke/MethodHandle" ∧ yX2_readPart.cls ≠ "java/lang/invoke/VarHandle" ∧ (parseMethodDescriptor yX2_readPart.desc).map (fun d => d.parameters.length) = some 1 := by decide +kernel
theorem hy_X3_read : yX3_read.cls ≠ "java/lang/invoke/MethodHandle" ∧ yX3_read.cls ≠ "java/lang/invoke/VarHandle" ∧ (parseMethodDescriptor yX3_read.desc).map (fun d => d.parameters.length) = some 1 := by decide +kernel
theorem hy_X4_copy : yX4_copy.cls ≠ "java/lang/invoke/MethodHandle" ∧ yX4_copy.cls ≠ "java/lang/invoke/VarHandle" ∧ (parseMethodDescriptor yX4_copy.desc).map (fun d => d.parameters.length) = some 1 := by decide +kernel
theorem hy_X4_placeAt : yX4_placeAt.cls ≠ "java/lang/invoke/MethodHandle" ∧ yX4_placeAt.cls ≠ "java/lang/invoke/VarHandle" ∧ (parseMethodDescriptor yX4_placeAt.desc).map (fun d => d.parameters.length) = some 1 := by decide +kernel
theorem hy_X5_casesCaught : yX5_casesCaught.cls ≠ "java/lang/invoke/MethodHandle" ∧ yX5_casesCaught.cls ≠ "java/lang/invoke/VarHandle" ∧ (parseMethodDescriptor yX5_casesCaught.desc).map (fun d => d.parameters.length) = some 1 := by decide +kernel
theorem hy_X5_firstCaught : yX5_firstCaught.cls ≠ "java/lang/invoke/MethodHandle" ∧ yX5_firstCaught.cls ≠ "java/lang/invoke/VarHandle" ∧ (parseMethodDescriptor yX5_firstCaught.desc).map (fun d => d.parameters.length) = some 1 := by decide +kernel
theorem hy_X5_firstPhase : yX5_firstPhase.cls ≠ "java/lang/invoke/MethodHandle" ∧ yX5_firstPhase.cls ≠ "java/lang/invoke/VarHandle" ∧ (parseMethodDescriptor yX5_firstPhase.desc).map (fun d => d.parameters.length) = some 2 := by decide +kernel
theorem hy_X5_fly : yX5_fly.cls ≠ "java/lang/invoke/MethodHandle" ∧ yX5_fly.cls ≠ "java/lang/invoke/VarHandle" ∧ (parseMethodDescriptor yX5_fly.desc).map (fun d => d.parameters.length) = some 2 := by decide +kernel
theorem hy_X5_harmTogether : yX5_harmTogether.cls ≠ "java/lang/invoke/MethodHandle" ∧ yX5_harmTogether.cls ≠ "java/lang/invoke/VarHandle" ∧ (parseMethodDescriptor yX5_harmTogether.desc).map (fun d => d.parameters.length) = some 1 := by decide +kernel
theorem hy_X5_isAsTold : yX5_isAsTold.cls ≠ "java/lang/invoke/MethodHandle" ∧ yX5_isAsTold.cls ≠ "java/lang/invoke/VarHandle" ∧ (parseMethodDescriptor yX5_isAsTold.desc).map (fun d => d.parameters.length) = some 1 := by decide +kernel
theorem hy_X5_isCaught : yX5_isCaught.cls ≠ "java/lang/invoke/MethodHandle" ∧ yX5_isCaught.cls ≠ "java/lang/invoke/VarHandle" ∧ (parseMethodDescriptor yX5_isCaught.desc).map (fun d => d.parameters.length) = some 1 := by decide +kernel
theorem hy_X5_isHeld : yX5_isHeld.cls ≠ "java/lang/invoke/MethodHandle" ∧ yX5_isHeld.cls ≠ "java/lang/invoke/VarHandle" ∧ (parseMethodDescriptor yX5_isHeld.desc).map (fun d => d.parameters.length) = some 1 := by decide +kernel
theorem hy_X5_off : yX5_off.cls ≠ "java/lang/invoke/MethodHandle" ∧ yX5_off.cls ≠ "java/lang/invoke/VarHandle" ∧ (parseMethodDescriptor yX5_off.desc).map (fun d => d.parameters.length) = some 1 := by decide +kernel
theorem hy_X6_bodyFor : yX6_bodyFor.cls ≠ "java/lang/invoke/MethodHandle" ∧ yX6_bodyFor.cls ≠ "java/lang/invoke/VarHandle" ∧ (parseMethodDescriptor yX6_bodyFor.desc).map (fun d => d.parameters.length) = some 2 := by decide +kernel
theorem hy_X6_note : yX6_note.cls ≠ "java/lang/invoke/MethodHandle" ∧ yX6_note.cls ≠ "java/lang/invoke/VarHandle" ∧ (parseMethodDescriptor yX6_note.desc).map (fun d => d.parameters.length) = some 1 := by decide +kernel
theorem hy_X6_own : yX6_own.cls ≠ "java/lang/invoke/MethodHandle" ∧ yX6_own.cls ≠ "java/lang/invoke/VarHandle" ∧ (parseMethodDescriptor yX6_own.desc).map (fun d => d.parameters.length) = some 3 := by decide +kernel
theorem hy_X6_say : yX6_say.cls ≠ "java/lang/invoke/MethodHandle" ∧ yX6_say.cls ≠ "java/lang/invoke/VarHandle" ∧ (parseMethodDescriptor yX6_say.desc).map (fun d => d.parameters.length) = some 4 := by decide +kernel
set_option maxHeartbeats 4000000 in
set_option maxRecDepth 100000 in
theorem wk_X7_swingOf (V_l1 : VC_l1) (V_l2 : VC_l2) {Z : Zt}  (C : CX Z layC RX7 cX7_swingOf 2 (some (.object "CatchBars$Swing")) 0)     (f : Fn) (a1 : Int32) (h : wp_X7_swingOf (zad Z)  f a1 (zp Z)) : GG Z f [(0, .ref (zad Z 1)), (1, .int a1)] 0 [] := by
  refine g_iload_n C rfl dX7_swingOf_0 rfl ?_
  refine g_if_ne (tgt := 11) C dX7_swingOf_1 (by decide) rfl (fun hc1 => ?_) (fun hc1 => ?_)
  · replace h := h.1 hc1
    refine g_iload_n C rfl dX7_swingOf_11 rfl ?_
    refine g_iconst C ki_1 dX7_swingOf_12 rfl ?_
    refine g_icmp_ne (tgt := 23) C dX7_swingOf_13 (by decide) rfl (fun hc2 => ?_) (fun hc2 => ?_)
    · replace h := h.1 hc2
      refine g_null C dX7_swingOf_23 rfl ?_
      exact g_aret C (Or.inl rfl) dX7_swingOf_24 h
    · replace h := h.2 hc2
      refine g_aload_n C rfl dX7_swingOf_16 rfl ?_
      refine fg_X7_18R (k := 1) (p := 3) C rfl rfl dX7_swingOf_17 rfl ?_
      refine g_goto (q := 24) C dX7_swingOf_20 (by decide) ?_
      exact g_aret C (Or.inr ⟨_, rfl⟩) dX7_swingOf_24 h
  · replace h := h.2 hc1
    refine g_aload_n C rfl dX7_swingOf_4 rfl ?_
    refine fg_X7_12R (k := 1) (p := 2) C rfl rfl dX7_swingOf_5 rfl ?_
    refine g_goto (q := 24) C dX7_swingOf_8 (by decide) ?_
    exact g_aret C (Or.inr ⟨_, rfl⟩) dX7_swingOf_24 h
set_option maxRecDepth 100000 in
theorem ct_X7_swingOf (V_l1 : VC_l1) (V_l2 : VC_l2) {l : Launch} {E : Ev}   (f : Fn) (a1 : Int32)  : CT l E layC yX7_swingOf cX7_swingOf 2 (some (.object "CatchBars$Swing")) 0 [.ref (E.2.1 1), .int a1] f (pR E.2.1 (fun r9 f9 => r9 = Val_X7_swingOf f a1 ∧ f9 = f)) := by
  refine CT.of (by decide +kernel) (Nat.le_of_ble_eq_true rfl) (fun Z hl9 hE9 hp9 C => ?_)
  subst hl9
  subst hE9
  exact wk_X7_swingOf V_l1 V_l2 C   f a1 (by rw [hp9]; exact V_l2.1 (zad Z)  f a1  )
set_option maxHeartbeats 4000000 in
set_option maxRecDepth 100000 in
theorem wk_X7_lawOf (V_l1 : VC_l1) (V_l2 : VC_l2) {Z : Zt}  (C : CX Z layC RX7 cX7_lawOf 2 (some (.object "CatchBars$Law")) 0)     (f : Fn) (a1 : Int32) (h : wp_X7_lawOf (zad Z)  f a1 (zp Z)) : GG Z f [(0, .ref (zad Z 1)), (1, .int a1)] 0 [] := by
  refine g_iload_n C rfl dX7_lawOf_0 rfl ?_
  refine g_if_ne (tgt := 11) C dX7_lawOf_1 (by decide) rfl (fun hc1 => ?_) (fun hc1 => ?_)
  · replace h := h.1 hc1
    refine g_iload_n C rfl dX7_lawOf_11 rfl ?_
    refine g_iconst C ki_1 dX7_lawOf_12 rfl ?_
    refine g_icmp_ne (tgt := 23) C dX7_lawOf_13 (by decide) rfl (fun hc2 => ?_) (fun hc2 => ?_)
    · replace h := h.1 hc2
      refine g_null C dX7_lawOf_23 rfl ?_
      exact g_aret C (Or.inl rfl) dX7_lawOf_24 h
    · replace h := h.2 hc2
      refine g_aload_n C rfl dX7_lawOf_16 rfl ?_
      refine fg_X7_50R (k := 1) (p := 15) C rfl rfl dX7_lawOf_17 rfl ?_
      refine g_goto (q := 24) C dX7_lawOf_20 (by decide) ?_
      exact g_aret C (Or.inr ⟨_, rfl⟩) dX7_lawOf_24 h
  · replace h := h.2 hc1
    refine g_aload_n C rfl dX7_lawOf_4 rfl ?_
    refine fg_X7_46R (k := 1) (p := 12) C rfl rfl dX7_lawOf_5 rfl ?_
    refine g_goto (q := 24) C dX7_lawOf_8 (by decide) ?_
    exact g_aret C (Or.inr ⟨_, rfl⟩) dX7_lawOf_24 h
set_option maxRecDepth 100000 in
theorem ct_X7_lawOf (V_l1 : VC_l1) (V_l2 : VC_l2) {l : Launch} {E : Ev}   (f : Fn) (a1 : Int32)  : CT l E layC yX7_lawOf cX7_lawOf 2 (some (.object "CatchBars$Law")) 0 [.ref (E.2.1 1), .int a1] f (pR E.2.1 (fun r9 f9 => r9 = Val_X7_lawOf f a1 ∧ f9 = f)) := by
  refine CT.of (by decide +kernel) (Nat.le_of_ble_eq_true rfl) (fun Z hl9 hE9 hp9 C => ?_)
  subst hl9
  subst hE9
  exact wk_X7_lawOf V_l1 V_l2 C   f a1 (by rw [hp9]; exact V_l2.2.1 (zad Z)  f a1  )
set_option maxHeartbeats 4000000 in
set_option maxRecDepth 100000 in
theorem wk_X7_flyerOf (V_l1 : VC_l1) (V_l2 : VC_l2) {Z : Zt}  (C : CX Z layC RX7 cX7_flyerOf 2 (some (.object "CatchBars$Flyer")) 0)     (f : Fn) (a1 : Int32) (h : wp_X7_flyerOf (zad Z)  f a1 (zp Z)) : GG Z f [(0, .ref (zad Z 1)), (1, .int a1)] 0 [] := by
  refine g_iload_n C rfl dX7_flyerOf_0 rfl ?_
  refine g_if_lt (tgt := 27) C dX7_flyerOf_1 (by decide) rfl (fun hc1 => ?_) (fun hc1 => ?_)
  · replace h := h.1 hc1
    refine g_null C dX7_flyerOf_27 rfl ?_
    exact g_aret C (Or.inl rfl) dX7_flyerOf_28 h
  · replace h := h.2 hc1
    refine g_iload_n C rfl dX7_flyerOf_4 rfl ?_
    refine g_aload_n C rfl dX7_flyerOf_5 rfl ?_
    refine fg_X7_60I (k := 1) (x := (f 1 7)) C rfl rfl rfl dX7_flyerOf_6 rfl ?_
    refine g_icmp_ge (tgt := 27) C dX7_flyerOf_9 (by decide) rfl (fun hc2 => ?_) (fun hc2 => ?_)
    · replace h := h.1 hc2
      refine g_null C dX7_flyerOf_27 rfl ?_
      exact g_aret C (Or.inl rfl) dX7_flyerOf_28 h
    · replace h := h.2 hc2
      refine g_iload_n C rfl dX7_flyerOf_12 rfl ?_
      refine g_bipush C kb_6 dX7_flyerOf_13 rfl ?_
      refine g_icmp_ge (tgt := 27) C dX7_flyerOf_15 (by decide) rfl (fun hc3 => ?_) (fun hc3 => ?_)
      · replace h := h.1 hc3
        refine g_null C dX7_flyerOf_27 rfl ?_
        exact g_aret C (Or.inl rfl) dX7_flyerOf_28 h
      · replace h := h.2 hc3
        refine g_aload_n C rfl dX7_flyerOf_18 rfl ?_
        refine fg_X7_33R (k := 1) (p := 4) C rfl rfl dX7_flyerOf_19 rfl ?_
        refine g_iload_n C rfl dX7_flyerOf_22 rfl ?_
        have hs4 := h.1
        replace h := h.2
        refine g_aald (k := 4) C rfl (by decide) hs4 dX7_flyerOf_23 rfl (fun k5 hr6 => ?_)
        replace h := h k5 hr6
        refine g_goto (q := 28) C dX7_flyerOf_24 (by decide) ?_
        exact g_aret C (Or.inr ⟨_, rfl⟩) dX7_flyerOf_28 h
set_option maxRecDepth 100000 in
theorem ct_X7_flyerOf (V_l1 : VC_l1) (V_l2 : VC_l2) {l : Launch} {E : Ev}   (f : Fn) (a1 : Int32)  : CT l E layC yX7_flyerOf cX7_flyerOf 2 (some (.object "CatchBars$Flyer")) 0 [.ref (E.2.1 1), .int a1] f (pR E.2.1 (fun r9 f9 => r9 = Val_X7_flyerOf f a1 ∧ f9 = f)) := by
  refine CT.of (by decide +kernel) (Nat.le_of_ble_eq_true rfl) (fun Z hl9 hE9 hp9 C => ?_)
  subst hl9
  subst hE9
  exact wk_X7_flyerOf V_l1 V_l2 C   f a1 (by rw [hp9]; exact V_l2.2.2.1 (zad Z)  f a1  )
set_option maxHeartbeats 4000000 in
set_option maxRecDepth 100000 in
theorem wk_X7_addByte (V_l1 : VC_l1) (V_l2 : VC_l2) {Z : Zt}  (C : CX Z layC RX7 cX7_addByte 2 none 0)     (f : Fn) (a1 : Int32) (h : wp_X7_addByte  f a1 (zp Z)) : GG Z f [(0, .ref (zad Z 1)), (1, .int a1)] 0 [] := by
  refine g_aload_n C rfl dX7_addByte_0 rfl ?_
  refine fg_X7_63I (k := 1) (x := (f 1 9)) C rfl rfl rfl dX7_addByte_1 rfl ?_
  refine g_if_lt (tgt := 36) C dX7_addByte_4 (by decide) rfl (fun hc1 => ?_) (fun hc1 => ?_)
  · replace h := h.1 hc1
    exact g_vret C dX7_addByte_36 h
  · replace h := h.2 hc1
    refine g_aload_n C rfl dX7_addByte_7 rfl ?_
    refine fg_X7_63I (k := 1) (x := (f 1 9)) C rfl rfl rfl dX7_addByte_8 rfl ?_
    refine g_bipush C kb_50 dX7_addByte_11 rfl ?_
    refine g_icmp_ge (tgt := 36) C dX7_addByte_13 (by decide) rfl (fun hc2 => ?_) (fun hc2 => ?_)
    · replace h := h.1 hc2
      exact g_vret C dX7_addByte_36 h
    · replace h := h.2 hc2
      refine g_aload_n C rfl dX7_addByte_16 rfl ?_
      refine fg_X7_37R (k := 1) (p := 11) C rfl rfl dX7_addByte_17 rfl ?_
      refine g_aload_n C rfl dX7_addByte_20 rfl ?_
      refine fg_X7_63I (k := 1) (x := (f 1 9)) C rfl rfl rfl dX7_addByte_21 rfl ?_
      refine g_iload_n C rfl dX7_addByte_24 rfl ?_
      have hs3 := h.1
      replace h := h.2
      refine g_iastx (k := 11) (j := (f 1 9).toNatClampNeg) C rfl hs3 rfl dX7_addByte_25 rfl ?_
      refine g_aload_n C rfl dX7_addByte_26 rfl ?_
      refine g_dup C rfl dX7_addByte_27 rfl ?_
      refine fg_X7_63I (k := 1) (x := (f 1 9)) C rfl rfl (by simp [up2, upd]) dX7_addByte_28 rfl ?_
      refine g_iconst C ki_1 dX7_addByte_31 rfl ?_
      refine g_iadd C dX7_addByte_32 rfl ?_
      refine fp_X7_63 (k := 1) C rfl rfl (Nat.le_of_ble_eq_true rfl) dX7_addByte_33 rfl ?_
      exact g_vret C dX7_addByte_36 h
set_option maxRecDepth 100000 in
theorem ct_X7_addByte (V_l1 : VC_l1) (V_l2 : VC_l2) {l : Launch} {E : Ev}   (f : Fn) (a1 : Int32)  : CT l E layC yX7_addByte cX7_addByte 2 none 0 [.ref (E.2.1 1), .int a1] f (pV (Post_X7_addByte f a1)) := by
  refine CT.of (by decide +kernel) (Nat.le_of_ble_eq_true rfl) (fun Z hl9 hE9 hp9 C => ?_)
  subst hl9
  subst hE9
  exact wk_X7_addByte V_l1 V_l2 C   f a1 (by rw [hp9]; exact V_l2.2.2.2.1  f a1  )
set_option maxHeartbeats 4000000 in
set_option maxRecDepth 100000 in
theorem wk_X7_addWaiting (V_l1 : VC_l1) (V_l2 : VC_l2) {Z : Zt}  (C : CX Z layC RX7 cX7_addWaiting 2 none 0)     (f : Fn) (a1 : Int32) (h : wp_X7_addWaiting  f a1 (zp Z)) : GG Z f [(0, .ref (zad Z 1)), (1, .int a1)] 0 [] := by
  refine g_aload_n C rfl dX7_addWaiting_0 rfl ?_
  refine fg_X7_66I (k := 1) (x := (f 1 17)) C rfl rfl rfl dX7_addWaiting_1 rfl ?_
  refine g_if_lt (tgt := 36) C dX7_addWaiting_4 (by decide) rfl (fun hc1 => ?_) (fun hc1 => ?_)
  · replace h := h.1 hc1
    exact g_vret C dX7_addWaiting_36 h
  · replace h := h.2 hc1
    refine g_aload_n C rfl dX7_addWaiting_7 rfl ?_
    refine fg_X7_66I (k := 1) (x := (f 1 17)) C rfl rfl rfl dX7_addWaiting_8 rfl ?_
    refine g_bipush C kb_20 dX7_addWaiting_11 rfl ?_
    refine g_icmp_ge (tgt := 36) C dX7_addWaiting_13 (by decide) rfl (fun hc2 => ?_) (fun hc2 => ?_)
    · replace h := h.1 hc2
      exact g_vret C dX7_addWaiting_36 h
    · replace h := h.2 hc2
      refine g_aload_n C rfl dX7_addWaiting_16 rfl ?_
      refine fg_X7_56R (k := 1) (p := 18) C rfl rfl dX7_addWaiting_17 rfl ?_
      refine g_aload_n C rfl dX7_addWaiting_20 rfl ?_
      refine fg_X7_66I (k := 1) (x := (f 1 17)) C rfl rfl rfl dX7_addWaiting_21 rfl ?_
      refine g_iload_n C rfl dX7_addWaiting_24 rfl ?_
      have hs3 := h.1
      replace h := h.2
      refine g_iastx (k := 18) (j := (f 1 17).toNatClampNeg) C rfl hs3 rfl dX7_addWaiting_25 rfl ?_
      refine g_aload_n C rfl dX7_addWaiting_26 rfl ?_
      refine g_dup C rfl dX7_addWaiting_27 rfl ?_
      refine fg_X7_66I (k := 1) (x := (f 1 17)) C rfl rfl (by simp [up2, upd]) dX7_addWaiting_28 rfl ?_
      refine g_iconst C ki_1 dX7_addWaiting_31 rfl ?_
      refine g_iadd C dX7_addWaiting_32 rfl ?_
      refine fp_X7_66 (k := 1) C rfl rfl (Nat.le_of_ble_eq_true rfl) dX7_addWaiting_33 rfl ?_
      exact g_vret C dX7_addWaiting_36 h
set_option maxRecDepth 100000 in
theorem ct_X7_addWaiting (V_l1 : VC_l1) (V_l2 : VC_l2) {l : Launch} {E : Ev}   (f : Fn) (a1 : Int32)  : CT l E layC yX7_addWaiting cX7_addWaiting 2 none 0 [.ref (E.2.1 1), .int a1] f (pV (Post_X7_addWaiting f a1)) := by
  refine CT.of (by decide +kernel) (Nat.le_of_ble_eq_true rfl) (fun Z hl9 hE9 hp9 C => ?_)
  subst hl9
  subst hE9
  exact wk_X7_addWaiting V_l1 V_l2 C   f a1 (by rw [hp9]; exact V_l2.2.2.2.2.1  f a1  )
set_option maxHeartbeats 4000000 in
set_option maxRecDepth 100000 in
theorem wk_X7_draw (V_l1 : VC_l1) (V_l2 : VC_l2) {Z : Zt}  (C : CX Z layC RX7 cX7_draw 1 (some .int) 0)     (f : Fn)  (h : wp_X7_draw  f  (zp Z)) : GG Z f [(0, .ref (zad Z 1))] 0 [] := by
  refine g_aload_n C rfl dX7_draw_0 rfl ?_
  refine g_aload_n C rfl dX7_draw_1 rfl ?_
  refine fg_X7_53I (k := 1) (x := (f 1 15)) C rfl rfl rfl dX7_draw_2 rfl ?_
  refine g_ldc C tw_539 dX7_draw_5 rfl ?_
  refine g_imul C dX7_draw_7 rfl ?_
  refine g_sipush C ks_12345 dX7_draw_8 rfl ?_
  refine g_iadd C dX7_draw_11 rfl ?_
  refine fp_X7_53 (k := 1) C rfl rfl (Nat.le_of_ble_eq_true rfl) dX7_draw_12 rfl ?_
  refine g_aload_n C rfl dX7_draw_15 rfl ?_
  refine fg_X7_53I (k := 1) (x := (((f 1 15) * (1103515245 : Int32)) + (12345 : Int32))) C rfl rfl (by simp [up2, upd]) dX7_draw_16 rfl ?_
  refine g_bipush C kb_8 dX7_draw_19 rfl ?_
  refine g_iushr C dX7_draw_21 rfl ?_
  exact g_iret C dX7_draw_22 h
set_option maxRecDepth 100000 in
theorem ct_X7_draw (V_l1 : VC_l1) (V_l2 : VC_l2) {l : Launch} {E : Ev}   (f : Fn)   : CT l E layC yX7_draw cX7_draw 1 (some .int) 0 [.ref (E.2.1 1)] f (pI (Post_X7_draw f)) := by
  refine CT.of (by decide +kernel) (Nat.le_of_ble_eq_true rfl) (fun Z hl9 hE9 hp9 C => ?_)
  subst hl9
  subst hE9
  exact wk_X7_draw V_l1 V_l2 C   f  (by rw [hp9]; exact V_l2.2.2.2.2.2.1  f   )
set_option maxHeartbeats 4000000 in
set_option maxRecDepth 100000 in
theorem wk_X7_copyA_L100 (V_l1 : VC_l1) (V_l2 : VC_l2) {Z : Zt}  (C : CX Z layC RX7 cX7_copy 5 none 3)   {K64 : Fn → Int32 → Prop} (hK64 : ∀ (f : Fn) (x2 : Int32), K64 f x2 → GG Z f [(0, .ref (zad Z 19)), (1, .ref (zad Z 1)), (2, .int x2)] 64 []) (f : Fn) (x2 : Int32) (h : wp_X7_copyA_L100  K64 f x2 (zp Z)) : GG Z f [(0, .ref (zad Z 19)), (1, .ref (zad Z 1)), (2, .int x2)] 100 [] := by
  refine g_iinc (lv' := [(2, .int (x2 + (1 : Int32))), (0, .ref (zad Z 19)), (1, .ref (zad Z 1))]) C dX7_copy_100 rfl (inc_1 _) (by decide) rfl rfl ?_
  refine g_goto (q := 64) C dX7_copy_103 (by decide) ?_
  refine g_lps [0, 1, 2] rfl ?_
  exact hK64 _ _ h
set_option maxHeartbeats 4000000 in
set_option maxRecDepth 100000 in
theorem wkb_X7_copyA_L64 (V_l1 : VC_l1) (V_l2 : VC_l2) {Z : Zt}  (C : CX Z layC RX7 cX7_copy 5 none 3)   {K64 : Fn → Int32 → Prop} (hK64 : ∀ (f : Fn) (x2 : Int32), K64 f x2 → GG Z f [(0, .ref (zad Z 19)), (1, .ref (zad Z 1)), (2, .int x2)] 64 []) (f : Fn) (x2 : Int32) (h : wpb_X7_copyA_L64   K64 f x2 (zp Z)) : GG Z f [(0, .ref (zad Z 19)), (1, .ref (zad Z 1)), (2, .int x2)] 64 [] := by
  refine g_iload_n C rfl dX7_copy_64 rfl ?_
  refine g_bipush C kb_6 dX7_copy_65 rfl ?_
  refine g_icmp_ge (tgt := 106) C dX7_copy_67 (by decide) rfl (fun hc5 => ?_) (fun hc5 => ?_)
  · replace h := h.1 hc5
    refine g_aload_n C rfl dX7_copy_106 rfl ?_
    refine fg_X7_37R (k := 1) (p := 11) C rfl rfl dX7_copy_107 rfl ?_
    refine g_iconst C ki_0 dX7_copy_110 rfl ?_
    refine g_aload_n C rfl dX7_copy_111 rfl ?_
    refine fg_X7_37R (k := 19) (p := 29) C rfl rfl dX7_copy_112 rfl ?_
    refine g_iconst C ki_0 dX7_copy_115 rfl ?_
    refine g_bipush C kb_50 dX7_copy_116 rfl ?_
    refine g_copy (k0 := 11) (k1 := 29) C tw_758 tw_738 tw_737 tw_12 rfl rfl (by decide) (by decide) (by decide) (by decide +kernel) (by decide +kernel) (by decide) (by decide +kernel) dX7_copy_118 rfl (fun f6 hf7 => ?_)
    replace h := h f6 hf7
    refine g_aload_n C rfl dX7_copy_121 rfl ?_
    refine g_aload_n C rfl dX7_copy_122 rfl ?_
    refine fg_X7_63I (k := 1) (x := (f6 1 9)) C rfl rfl rfl dX7_copy_123 rfl ?_
    refine fp_X7_63 (k := 19) C rfl rfl (Nat.le_of_ble_eq_true rfl) dX7_copy_126 rfl ?_
    refine g_aload_n C rfl dX7_copy_129 rfl ?_
    refine fg_X7_46R (k := 19) (p := 30) C rfl rfl dX7_copy_130 rfl ?_
    refine g_aload_n C rfl dX7_copy_133 rfl ?_
    refine fg_X7_46R (k := 1) (p := 12) C rfl rfl dX7_copy_134 rfl ?_
    refine g_callVV C tw_759 tw_760 tw_761 tw_4 tw_762 hy_X1_copy (by decide) (by decide) rfl (Nat.le_of_ble_eq_true rfl) rfl rfl (ct_X1_copy V_l1 30 12 ⟨rfl, rfl, rfl⟩ ⟨rfl, rfl, rfl⟩ (up2 f6 19 9 (f6 1 9)) ) dX7_copy_137 rfl rfl (fun f8 hp9 => ?_)
    replace h := h f8 hp9
    refine g_aload_n C rfl dX7_copy_140 rfl ?_
    refine fg_X7_50R (k := 19) (p := 33) C rfl rfl dX7_copy_141 rfl ?_
    refine g_aload_n C rfl dX7_copy_144 rfl ?_
    refine fg_X7_50R (k := 1) (p := 15) C rfl rfl dX7_copy_145 rfl ?_
    refine g_callVV C tw_759 tw_760 tw_761 tw_4 tw_762 hy_X1_copy (by decide) (by decide) rfl (Nat.le_of_ble_eq_true rfl) rfl rfl (ct_X1_copy V_l1 33 15 ⟨rfl, rfl, rfl⟩ ⟨rfl, rfl, rfl⟩ f8 ) dX7_copy_148 rfl rfl (fun f10 hp11 => ?_)
    replace h := h f10 hp11
    refine g_aload_n C rfl dX7_copy_151 rfl ?_
    refine g_aload_n C rfl dX7_copy_152 rfl ?_
    refine fg_X7_89I (k := 1) (x := (f10 1 12)) C rfl rfl rfl dX7_copy_153 rfl ?_
    refine fp_X7_89 (k := 19) C rfl rfl (Nat.le_of_ble_eq_true rfl) dX7_copy_156 rfl ?_
    refine g_aload_n C rfl dX7_copy_159 rfl ?_
    refine g_aload_n C rfl dX7_copy_160 rfl ?_
    refine fg_X7_92I (k := 1) (x := (f10 1 13)) C rfl rfl (by simp [up2, upd]) dX7_copy_161 rfl ?_
    refine fp_X7_92 (k := 19) C rfl rfl (Nat.le_of_ble_eq_true rfl) dX7_copy_164 rfl ?_
    refine g_aload_n C rfl dX7_copy_167 rfl ?_
    refine g_aload_n C rfl dX7_copy_168 rfl ?_
    refine fg_X7_95I (k := 1) (x := (f10 1 14)) C rfl rfl (by simp [up2, upd]) dX7_copy_169 rfl ?_
    refine fp_X7_95 (k := 19) C rfl rfl (Nat.le_of_ble_eq_true rfl) dX7_copy_172 rfl ?_
    refine g_aload_n C rfl dX7_copy_175 rfl ?_
    refine g_aload_n C rfl dX7_copy_176 rfl ?_
    refine fg_X7_53I (k := 1) (x := (f10 1 15)) C rfl rfl (by simp [up2, upd]) dX7_copy_177 rfl ?_
    refine fp_X7_53 (k := 19) C rfl rfl (Nat.le_of_ble_eq_true rfl) dX7_copy_180 rfl ?_
    refine g_aload_n C rfl dX7_copy_183 rfl ?_
    refine fg_X7_56R (k := 1) (p := 18) C rfl rfl dX7_copy_184 rfl ?_
    refine g_iconst C ki_0 dX7_copy_187 rfl ?_
    refine g_aload_n C rfl dX7_copy_188 rfl ?_
    refine fg_X7_56R (k := 19) (p := 36) C rfl rfl dX7_copy_189 rfl ?_
    refine g_iconst C ki_0 dX7_copy_192 rfl ?_
    refine g_bipush C kb_20 dX7_copy_193 rfl ?_
    refine g_copy (k0 := 18) (k1 := 36) C tw_758 tw_738 tw_737 tw_12 rfl rfl (by decide) (by decide) (by decide) (by decide +kernel) (by decide +kernel) (by decide) (by decide +kernel) dX7_copy_195 rfl (fun f12 hf13 => ?_)
    replace h := h f12 hf13
    refine g_aload_n C rfl dX7_copy_198 rfl ?_
    refine g_aload_n C rfl dX7_copy_199 rfl ?_
    refine fg_X7_66I (k := 1) (x := (f12 1 17)) C rfl rfl rfl dX7_copy_200 rfl ?_
    refine fp_X7_66 (k := 19) C rfl rfl (Nat.le_of_ble_eq_true rfl) dX7_copy_203 rfl ?_
    exact g_vret C dX7_copy_206 h
  · replace h := h.2 hc5
    refine g_aload_n C rfl dX7_copy_70 rfl ?_
    refine fg_X7_33R (k := 19) (p := 22) C rfl rfl dX7_copy_71 rfl ?_
    refine g_iload_n C rfl dX7_copy_74 rfl ?_
    have hs14 := h.1
    replace h := h.2
    refine g_aald (k := 22) C rfl (by decide) hs14 dX7_copy_75 rfl (fun k15 hr16 => ?_)
    replace h := h k15 hr16
    refine g_astore_n (lv' := [(3, .ref (zad Z k15)), (0, .ref (zad Z 19)), (1, .ref (zad Z 1)), (2, .int x2)]) C dX7_copy_76 (by decide) rfl rfl ?_
    refine g_aload_n C rfl dX7_copy_77 rfl ?_
    refine fg_X7_33R (k := 1) (p := 4) C rfl rfl dX7_copy_78 rfl ?_
    refine g_iload_n C rfl dX7_copy_81 rfl ?_
    have hs17 := h.1
    replace h := h.2
    refine g_aald (k := 4) C rfl (by decide) hs17 dX7_copy_82 rfl (fun k18 hr19 => ?_)
    replace h := h k18 hr19
    refine g_astore (lv' := [(4, .ref (zad Z k18)), (3, .ref (zad Z k15)), (0, .ref (zad Z 19)), (1, .ref (zad Z 1)), (2, .int x2)]) C dX7_copy_83 (by decide) rfl rfl ?_
    refine g_aload_n C rfl dX7_copy_85 rfl ?_
    refine g_ifnull_r (q := 89) C dX7_copy_86 rfl ?_
    refine g_aload C rfl dX7_copy_89 rfl ?_
    refine g_ifnull_r (q := 94) C dX7_copy_91 rfl ?_
    refine g_aload_n C rfl dX7_copy_94 rfl ?_
    refine g_aload C rfl dX7_copy_95 rfl ?_
    have hs20 := h.1
    replace h := h.2
    have hs21 := h.1
    replace h := h.2
    refine g_callVV C tw_757 tw_496 tw_497 tw_5 tw_498 hy_X0_copy (by decide) (by decide) rfl (Nat.le_of_ble_eq_true rfl) hs20 rfl (ct_X0_copy V_l1 k15 k18 hs20 hs21 f ) dX7_copy_97 rfl rfl (fun f22 hp23 => ?_)
    replace h := h f22 hp23
    refine g_lps [0, 1, 2] rfl ?_
    exact wk_X7_copyA_L100 V_l1 V_l2  C   hK64 _ _ h
set_option maxHeartbeats 4000000 in
set_option maxRecDepth 100000 in
theorem wk_X7_copyA_L64 (V_l1 : VC_l1) (V_l2 : VC_l2) {Z : Zt}  (C : CX Z layC RX7 cX7_copy 5 none 3)     (f : Fn) (x2 : Int32) (h : wp_X7_copyA_L64   f x2 (zp Z)) : GG Z f [(0, .ref (zad Z 19)), (1, .ref (zad Z 1)), (2, .int x2)] 64 [] := by
  obtain ⟨I, μ, h0, hs⟩ := h
  suffices H : ∀ (N : Nat) (f : Fn) (x2 : Int32), μ f x2 < N → I f x2 → GG Z f [(0, .ref (zad Z 19)), (1, .ref (zad Z 1)), (2, .int x2)] 64 [] from H _ f x2 (Nat.lt_succ_self _) h0
  clear h0
  intro N
  induction N with
  | zero => intro f x2 hm; exact absurd hm (Nat.not_lt_zero _)
  | succ N ih =>
    intro f x2 hm hi
    exact wkb_X7_copyA_L64 V_l1 V_l2  C    (fun f9 x29 hk => ih f9 x29 (Nat.lt_of_lt_of_le hk.2 (Nat.le_of_lt_succ hm)) hk.1) f x2 (hs f x2 hi)
set_option maxHeartbeats 4000000 in
set_option maxRecDepth 100000 in
theorem wk_X7_copyA (V_l1 : VC_l1) (V_l2 : VC_l2) {Z : Zt}  (C : CX Z layC RX7 cX7_copy 5 none 3)     (f : Fn)  (h : wp_X7_copyA  f  (zp Z)) : GG Z f [(0, .ref (zad Z 19)), (1, .ref (zad Z 1))] 0 [] := by
  refine g_aload_n C rfl dX7_copy_0 rfl ?_
  refine fg_X7_12R (k := 19) (p := 20) C rfl rfl dX7_copy_1 rfl ?_
  refine g_aload_n C rfl dX7_copy_4 rfl ?_
  refine fg_X7_12R (k := 1) (p := 2) C rfl rfl dX7_copy_5 rfl ?_
  refine g_callVV C tw_756 tw_492 tw_493 tw_3 tw_494 hy_X4_copy (by decide) (by decide) rfl (Nat.le_of_ble_eq_true rfl) rfl rfl (ct_X4_copy V_l1 20 2 rfl rfl f ) dX7_copy_8 rfl rfl (fun f1 hp2 => ?_)
  replace h := h f1 hp2
  refine g_aload_n C rfl dX7_copy_11 rfl ?_
  refine fg_X7_18R (k := 19) (p := 21) C rfl rfl dX7_copy_12 rfl ?_
  refine g_aload_n C rfl dX7_copy_15 rfl ?_
  refine fg_X7_18R (k := 1) (p := 3) C rfl rfl dX7_copy_16 rfl ?_
  refine g_callVV C tw_756 tw_492 tw_493 tw_3 tw_494 hy_X4_copy (by decide) (by decide) rfl (Nat.le_of_ble_eq_true rfl) rfl rfl (ct_X4_copy V_l1 21 3 rfl rfl f1 ) dX7_copy_19 rfl rfl (fun f3 hp4 => ?_)
  replace h := h f3 hp4
  refine g_aload_n C rfl dX7_copy_22 rfl ?_
  refine g_aload_n C rfl dX7_copy_23 rfl ?_
  refine fg_X7_21I (k := 1) (x := (f3 1 2)) C rfl rfl rfl dX7_copy_24 rfl ?_
  refine fp_X7_21 (k := 19) C rfl rfl (Nat.le_of_ble_eq_true rfl) dX7_copy_27 rfl ?_
  refine g_aload_n C rfl dX7_copy_30 rfl ?_
  refine g_aload_n C rfl dX7_copy_31 rfl ?_
  refine fg_X7_25I (k := 1) (x := (f3 1 3)) C rfl rfl (by simp [up2, upd]) dX7_copy_32 rfl ?_
  refine fp_X7_25 (k := 19) C rfl rfl (Nat.le_of_ble_eq_true rfl) dX7_copy_35 rfl ?_
  refine g_aload_n C rfl dX7_copy_38 rfl ?_
  refine g_aload_n C rfl dX7_copy_39 rfl ?_
  refine fg_X7_28I (k := 1) (x := (f3 1 4)) C rfl rfl (by simp [up2, upd]) dX7_copy_40 rfl ?_
  refine fp_X7_28 (k := 19) C rfl rfl (Nat.le_of_ble_eq_true rfl) dX7_copy_43 rfl ?_
  refine g_aload_n C rfl dX7_copy_46 rfl ?_
  refine g_aload_n C rfl dX7_copy_47 rfl ?_
  refine fg_X7_74I (k := 1) (x := (f3 1 5)) C rfl rfl (by simp [up2, upd]) dX7_copy_48 rfl ?_
  refine fp_X7_74 (k := 19) C rfl rfl (Nat.le_of_ble_eq_true rfl) dX7_copy_51 rfl ?_
  refine g_aload_n C rfl dX7_copy_54 rfl ?_
  refine g_aload_n C rfl dX7_copy_55 rfl ?_
  refine fg_X7_60I (k := 1) (x := (f3 1 7)) C rfl rfl (by simp [up2, upd]) dX7_copy_56 rfl ?_
  refine fp_X7_60 (k := 19) C rfl rfl (Nat.le_of_ble_eq_true rfl) dX7_copy_59 rfl ?_
  refine g_iconst C ki_0 dX7_copy_62 rfl ?_
  refine g_istore_n (lv' := [(2, .int (0 : Int32)), (0, .ref (zad Z 19)), (1, .ref (zad Z 1))]) C dX7_copy_63 (by decide) rfl rfl ?_
  refine g_lps [0, 1, 2] rfl ?_
  exact wk_X7_copyA_L64 V_l1 V_l2  C    _ _ h
set_option maxRecDepth 100000 in
theorem ct_X7_copyA (V_l1 : VC_l1) (V_l2 : VC_l2) {l : Launch} {E : Ev}   (f : Fn)   : CT l E layC yX7_copy cX7_copy 5 none 3 [.ref (E.2.1 19), .ref (E.2.1 1)] f (pV (Post_X7_copyA f)) := by
  refine CT.of (by decide +kernel) (Nat.le_of_ble_eq_true rfl) (fun Z hl9 hE9 hp9 C => ?_)
  subst hl9
  subst hE9
  exact wk_X7_copyA V_l1 V_l2 C   f  (by rw [hp9]; exact V_l2.2.2.2.2.2.2.1  f   )
set_option maxHeartbeats 4000000 in
set_option maxRecDepth 100000 in
theorem wk_X7_copyB_L100 (V_l1 : VC_l1) (V_l2 : VC_l2) {Z : Zt}  (C : CX Z layC RX7 cX7_copy 5 none 3)   {K64 : Fn → Int32 → Prop} (hK64 : ∀ (f : Fn) (x2 : Int32), K64 f x2 → GG Z f [(0, .ref (zad Z 1)), (1, .ref (zad Z 19)), (2, .int x2)] 64 []) (f : Fn) (x2 : Int32) (h : wp_X7_copyB_L100  K64 f x2 (zp Z)) : GG Z f [(0, .ref (zad Z 1)), (1, .ref (zad Z 19)), (2, .int x2)] 100 [] := by
  refine g_iinc (lv' := [(2, .int (x2 + (1 : Int32))), (0, .ref (zad Z 1)), (1, .ref (zad Z 19))]) C dX7_copy_100 rfl (inc_1 _) (by decide) rfl rfl ?_
  refine g_goto (q := 64) C dX7_copy_103 (by decide) ?_
  refine g_lps [0, 1, 2] rfl ?_
  exact hK64 _ _ h
set_option maxHeartbeats 4000000 in
set_option maxRecDepth 100000 in
theorem wkb_X7_copyB_L64 (V_l1 : VC_l1) (V_l2 : VC_l2) {Z : Zt}  (C : CX Z layC RX7 cX7_copy 5 none 3)   {K64 : Fn → Int32 → Prop} (hK64 : ∀ (f : Fn) (x2 : Int32), K64 f x2 → GG Z f [(0, .ref (zad Z 1)), (1, .ref (zad Z 19)), (2, .int x2)] 64 []) (f : Fn) (x2 : Int32) (h : wpb_X7_copyB_L64   K64 f x2 (zp Z)) : GG Z f [(0, .ref (zad Z 1)), (1, .ref (zad Z 19)), (2, .int x2)] 64 [] := by
  refine g_iload_n C rfl dX7_copy_64 rfl ?_
  refine g_bipush C kb_6 dX7_copy_65 rfl ?_
  refine g_icmp_ge (tgt := 106) C dX7_copy_67 (by decide) rfl (fun hc5 => ?_) (fun hc5 => ?_)
  · replace h := h.1 hc5
    refine g_aload_n C rfl dX7_copy_106 rfl ?_
    refine fg_X7_37R (k := 19) (p := 29) C rfl rfl dX7_copy_107 rfl ?_
    refine g_iconst C ki_0 dX7_copy_110 rfl ?_
    refine g_aload_n C rfl dX7_copy_111 rfl ?_
    refine fg_X7_37R (k := 1) (p := 11) C rfl rfl dX7_copy_112 rfl ?_
    refine g_iconst C ki_0 dX7_copy_115 rfl ?_
    refine g_bipush C kb_50 dX7_copy_116 rfl ?_
    refine g_copy (k0 := 29) (k1 := 11) C tw_758 tw_738 tw_737 tw_12 rfl rfl (by decide) (by decide) (by decide) (by decide +kernel) (by decide +kernel) (by decide) (by decide +kernel) dX7_copy_118 rfl (fun f6 hf7 => ?_)
    replace h := h f6 hf7
    refine g_aload_n C rfl dX7_copy_121 rfl ?_
    refine g_aload_n C rfl dX7_copy_122 rfl ?_
    refine fg_X7_63I (k := 19) (x := (f6 19 9)) C rfl rfl rfl dX7_copy_123 rfl ?_
    refine fp_X7_63 (k := 1) C rfl rfl (Nat.le_of_ble_eq_true rfl) dX7_copy_126 rfl ?_
    refine g_aload_n C rfl dX7_copy_129 rfl ?_
    refine fg_X7_46R (k := 1) (p := 12) C rfl rfl dX7_copy_130 rfl ?_
    refine g_aload_n C rfl dX7_copy_133 rfl ?_
    refine fg_X7_46R (k := 19) (p := 30) C rfl rfl dX7_copy_134 rfl ?_
    refine g_callVV C tw_759 tw_760 tw_761 tw_4 tw_762 hy_X1_copy (by decide) (by decide) rfl (Nat.le_of_ble_eq_true rfl) rfl rfl (ct_X1_copy V_l1 12 30 ⟨rfl, rfl, rfl⟩ ⟨rfl, rfl, rfl⟩ (up2 f6 1 9 (f6 19 9)) ) dX7_copy_137 rfl rfl (fun f8 hp9 => ?_)
    replace h := h f8 hp9
    refine g_aload_n C rfl dX7_copy_140 rfl ?_
    refine fg_X7_50R (k := 1) (p := 15) C rfl rfl dX7_copy_141 rfl ?_
    refine g_aload_n C rfl dX7_copy_144 rfl ?_
    refine fg_X7_50R (k := 19) (p := 33) C rfl rfl dX7_copy_145 rfl ?_
    refine g_callVV C tw_759 tw_760 tw_761 tw_4 tw_762 hy_X1_copy (by decide) (by decide) rfl (Nat.le_of_ble_eq_true rfl) rfl rfl (ct_X1_copy V_l1 15 33 ⟨rfl, rfl, rfl⟩ ⟨rfl, rfl, rfl⟩ f8 ) dX7_copy_148 rfl rfl (fun f10 hp11 => ?_)
    replace h := h f10 hp11
    refine g_aload_n C rfl dX7_copy_151 rfl ?_
    refine g_aload_n C rfl dX7_copy_152 rfl ?_
    refine fg_X7_89I (k := 19) (x := (f10 19 12)) C rfl rfl rfl dX7_copy_153 rfl ?_
    refine fp_X7_89 (k := 1) C rfl rfl (Nat.le_of_ble_eq_true rfl) dX7_copy_156 rfl ?_
    refine g_aload_n C rfl dX7_copy_159 rfl ?_
    refine g_aload_n C rfl dX7_copy_160 rfl ?_
    refine fg_X7_92I (k := 19) (x := (f10 19 13)) C rfl rfl (by simp [up2, upd]) dX7_copy_161 rfl ?_
    refine fp_X7_92 (k := 1) C rfl rfl (Nat.le_of_ble_eq_true rfl) dX7_copy_164 rfl ?_
    refine g_aload_n C rfl dX7_copy_167 rfl ?_
    refine g_aload_n C rfl dX7_copy_168 rfl ?_
    refine fg_X7_95I (k := 19) (x := (f10 19 14)) C rfl rfl (by simp [up2, upd]) dX7_copy_169 rfl ?_
    refine fp_X7_95 (k := 1) C rfl rfl (Nat.le_of_ble_eq_true rfl) dX7_copy_172 rfl ?_
    refine g_aload_n C rfl dX7_copy_175 rfl ?_
    refine g_aload_n C rfl dX7_copy_176 rfl ?_
    refine fg_X7_53I (k := 19) (x := (f10 19 15)) C rfl rfl (by simp [up2, upd]) dX7_copy_177 rfl ?_
    refine fp_X7_53 (k := 1) C rfl rfl (Nat.le_of_ble_eq_true rfl) dX7_copy_180 rfl ?_
    refine g_aload_n C rfl dX7_copy_183 rfl ?_
    refine fg_X7_56R (k := 19) (p := 36) C rfl rfl dX7_copy_184 rfl ?_
    refine g_iconst C ki_0 dX7_copy_187 rfl ?_
    refine g_aload_n C rfl dX7_copy_188 rfl ?_
    refine fg_X7_56R (k := 1) (p := 18) C rfl rfl dX7_copy_189 rfl ?_
    refine g_iconst C ki_0 dX7_copy_192 rfl ?_
    refine g_bipush C kb_20 dX7_copy_193 rfl ?_
    refine g_copy (k0 := 36) (k1 := 18) C tw_758 tw_738 tw_737 tw_12 rfl rfl (by decide) (by decide) (by decide) (by decide +kernel) (by decide +kernel) (by decide) (by decide +kernel) dX7_copy_195 rfl (fun f12 hf13 => ?_)
    replace h := h f12 hf13
    refine g_aload_n C rfl dX7_copy_198 rfl ?_
    refine g_aload_n C rfl dX7_copy_199 rfl ?_
    refine fg_X7_66I (k := 19) (x := (f12 19 17)) C rfl rfl rfl dX7_copy_200 rfl ?_
    refine fp_X7_66 (k := 1) C rfl rfl (Nat.le_of_ble_eq_true rfl) dX7_copy_203 rfl ?_
    exact g_vret C dX7_copy_206 h
  · replace h := h.2 hc5
    refine g_aload_n C rfl dX7_copy_70 rfl ?_
    refine fg_X7_33R (k := 1) (p := 4) C rfl rfl dX7_copy_71 rfl ?_
    refine g_iload_n C rfl dX7_copy_74 rfl ?_
    have hs14 := h.1
    replace h := h.2
    refine g_aald (k := 4) C rfl (by decide) hs14 dX7_copy_75 rfl (fun k15 hr16 => ?_)
    replace h := h k15 hr16
    refine g_astore_n (lv' := [(3, .ref (zad Z k15)), (0, .ref (zad Z 1)), (1, .ref (zad Z 19)), (2, .int x2)]) C dX7_copy_76 (by decide) rfl rfl ?_
    refine g_aload_n C rfl dX7_copy_77 rfl ?_
    refine fg_X7_33R (k := 19) (p := 22) C rfl rfl dX7_copy_78 rfl ?_
    refine g_iload_n C rfl dX7_copy_81 rfl ?_
    have hs17 := h.1
    replace h := h.2
    refine g_aald (k := 22) C rfl (by decide) hs17 dX7_copy_82 rfl (fun k18 hr19 => ?_)
    replace h := h k18 hr19
    refine g_astore (lv' := [(4, .ref (zad Z k18)), (3, .ref (zad Z k15)), (0, .ref (zad Z 1)), (1, .ref (zad Z 19)), (2, .int x2)]) C dX7_copy_83 (by decide) rfl rfl ?_
    refine g_aload_n C rfl dX7_copy_85 rfl ?_
    refine g_ifnull_r (q := 89) C dX7_copy_86 rfl ?_
    refine g_aload C rfl dX7_copy_89 rfl ?_
    refine g_ifnull_r (q := 94) C dX7_copy_91 rfl ?_
    refine g_aload_n C rfl dX7_copy_94 rfl ?_
    refine g_aload C rfl dX7_copy_95 rfl ?_
    have hs20 := h.1
    replace h := h.2
    have hs21 := h.1
    replace h := h.2
    refine g_callVV C tw_757 tw_496 tw_497 tw_5 tw_498 hy_X0_copy (by decide) (by decide) rfl (Nat.le_of_ble_eq_true rfl) hs20 rfl (ct_X0_copy V_l1 k15 k18 hs20 hs21 f ) dX7_copy_97 rfl rfl (fun f22 hp23 => ?_)
    replace h := h f22 hp23
    refine g_lps [0, 1, 2] rfl ?_
    exact wk_X7_copyB_L100 V_l1 V_l2  C   hK64 _ _ h
set_option maxHeartbeats 4000000 in
set_option maxRecDepth 100000 in
theorem wk_X7_copyB_L64 (V_l1 : VC_l1) (V_l2 : VC_l2) {Z : Zt}  (C : CX Z layC RX7 cX7_copy 5 none 3)     (f : Fn) (x2 : Int32) (h : wp_X7_copyB_L64   f x2 (zp Z)) : GG Z f [(0, .ref (zad Z 1)), (1, .ref (zad Z 19)), (2, .int x2)] 64 [] := by
  obtain ⟨I, μ, h0, hs⟩ := h
  suffices H : ∀ (N : Nat) (f : Fn) (x2 : Int32), μ f x2 < N → I f x2 → GG Z f [(0, .ref (zad Z 1)), (1, .ref (zad Z 19)), (2, .int x2)] 64 [] from H _ f x2 (Nat.lt_succ_self _) h0
  clear h0
  intro N
  induction N with
  | zero => intro f x2 hm; exact absurd hm (Nat.not_lt_zero _)
  | succ N ih =>
    intro f x2 hm hi
    exact wkb_X7_copyB_L64 V_l1 V_l2  C    (fun f9 x29 hk => ih f9 x29 (Nat.lt_of_lt_of_le hk.2 (Nat.le_of_lt_succ hm)) hk.1) f x2 (hs f x2 hi)
set_option maxHeartbeats 4000000 in
set_option maxRecDepth 100000 in
theorem wk_X7_copyB (V_l1 : VC_l1) (V_l2 : VC_l2) {Z : Zt}  (C : CX Z layC RX7 cX7_copy 5 none 3)     (f : Fn)  (h : wp_X7_copyB  f  (zp Z)) : GG Z f [(0, .ref (zad Z 1)), (1, .ref (zad Z 19))] 0 [] := by
  refine g_aload_n C rfl dX7_copy_0 rfl ?_
  refine fg_X7_12R (k := 1) (p := 2) C rfl rfl dX7_copy_1 rfl ?_
  refine g_aload_n C rfl dX7_copy_4 rfl ?_
  refine fg_X7_12R (k := 19) (p := 20) C rfl rfl dX7_copy_5 rfl ?_
  refine g_callVV C tw_756 tw_492 tw_493 tw_3 tw_494 hy_X4_copy (by decide) (by decide) rfl (Nat.le_of_ble_eq_true rfl) rfl rfl (ct_X4_copy V_l1 2 20 rfl rfl f ) dX7_copy_8 rfl rfl (fun f1 hp2 => ?_)
  replace h := h f1 hp2
  refine g_aload_n C rfl dX7_copy_11 rfl ?_
  refine fg_X7_18R (k := 1) (p := 3) C rfl rfl dX7_copy_12 rfl ?_
  refine g_aload_n C rfl dX7_copy_15 rfl ?_
  refine fg_X7_18R (k := 19) (p := 21) C rfl rfl dX7_copy_16 rfl ?_
  refine g_callVV C tw_756 tw_492 tw_493 tw_3 tw_494 hy_X4_copy (by decide) (by decide) rfl (Nat.le_of_ble_eq_true rfl) rfl rfl (ct_X4_copy V_l1 3 21 rfl rfl f1 ) dX7_copy_19 rfl rfl (fun f3 hp4 => ?_)
  replace h := h f3 hp4
  refine g_aload_n C rfl dX7_copy_22 rfl ?_
  refine g_aload_n C rfl dX7_copy_23 rfl ?_
  refine fg_X7_21I (k := 19) (x := (f3 19 2)) C rfl rfl rfl dX7_copy_24 rfl ?_
  refine fp_X7_21 (k := 1) C rfl rfl (Nat.le_of_ble_eq_true rfl) dX7_copy_27 rfl ?_
  refine g_aload_n C rfl dX7_copy_30 rfl ?_
  refine g_aload_n C rfl dX7_copy_31 rfl ?_
  refine fg_X7_25I (k := 19) (x := (f3 19 3)) C rfl rfl (by simp [up2, upd]) dX7_copy_32 rfl ?_
  refine fp_X7_25 (k := 1) C rfl rfl (Nat.le_of_ble_eq_true rfl) dX7_copy_35 rfl ?_
  refine g_aload_n C rfl dX7_copy_38 rfl ?_
  refine g_aload_n C rfl dX7_copy_39 rfl ?_
  refine fg_X7_28I (k := 19) (x := (f3 19 4)) C rfl rfl (by simp [up2, upd]) dX7_copy_40 rfl ?_
  refine fp_X7_28 (k := 1) C rfl rfl (Nat.le_of_ble_eq_true rfl) dX7_copy_43 rfl ?_
  refine g_aload_n C rfl dX7_copy_46 rfl ?_
  refine g_aload_n C rfl dX7_copy_47 rfl ?_
  refine fg_X7_74I (k := 19) (x := (f3 19 5)) C rfl rfl (by simp [up2, upd]) dX7_copy_48 rfl ?_
  refine fp_X7_74 (k := 1) C rfl rfl (Nat.le_of_ble_eq_true rfl) dX7_copy_51 rfl ?_
  refine g_aload_n C rfl dX7_copy_54 rfl ?_
  refine g_aload_n C rfl dX7_copy_55 rfl ?_
  refine fg_X7_60I (k := 19) (x := (f3 19 7)) C rfl rfl (by simp [up2, upd]) dX7_copy_56 rfl ?_
  refine fp_X7_60 (k := 1) C rfl rfl (Nat.le_of_ble_eq_true rfl) dX7_copy_59 rfl ?_
  refine g_iconst C ki_0 dX7_copy_62 rfl ?_
  refine g_istore_n (lv' := [(2, .int (0 : Int32)), (0, .ref (zad Z 1)), (1, .ref (zad Z 19))]) C dX7_copy_63 (by decide) rfl rfl ?_
  refine g_lps [0, 1, 2] rfl ?_
  exact wk_X7_copyB_L64 V_l1 V_l2  C    _ _ h
set_option maxRecDepth 100000 in
theorem ct_X7_copyB (V_l1 : VC_l1) (V_l2 : VC_l2) {l : Launch} {E : Ev}   (f : Fn)   : CT l E layC yX7_copy cX7_copy 5 none 3 [.ref (E.2.1 1), .ref (E.2.1 19)] f (pV (Post_X7_copyB f)) := by
  refine CT.of (by decide +kernel) (Nat.le_of_ble_eq_true rfl) (fun Z hl9 hE9 hp9 C => ?_)
  subst hl9
  subst hE9
  exact wk_X7_copyB V_l1 V_l2 C   f  (by rw [hp9]; exact V_l2.2.2.2.2.2.2.2.1  f   )
set_option maxHeartbeats 4000000 in
set_option maxRecDepth 100000 in
theorem wk_X5_start (V_l1 : VC_l1) (V_l2 : VC_l2) {Z : Zt}  (C : CX Z layC RX5 cX5_start 2 none 1) (o : Nat) (ho : isFl o)   (f : Fn)  (h : wp_X5_start o f  (zp Z)) : GG Z f [(0, .ref (zad Z 37)), (1, .ref (zad Z o))] 0 [] := by
  refine g_aload_n C rfl dX5_start_0 rfl ?_
  refine fg_X5_12R (k := 37) (p := 38) C rfl rfl dX5_start_1 rfl ?_
  refine g_aload_n C rfl dX5_start_4 rfl ?_
  refine fg_X5_32R (k := 37) (p := 1) C rfl rfl dX5_start_5 rfl ?_
  refine fg_X5_36R (k := 1) (p := 2) C rfl rfl dX5_start_8 rfl ?_
  refine g_callVV C tw_491 tw_492 tw_493 tw_3 tw_494 hy_X4_copy (by decide) (by decide) rfl (Nat.le_of_ble_eq_true rfl) rfl rfl (ct_X4_copy V_l1 38 2 rfl rfl f ) dX5_start_11 rfl rfl (fun f1 hp2 => ?_)
  replace h := h f1 hp2
  refine g_aload_n C rfl dX5_start_14 rfl ?_
  refine fg_X5_18R (k := 37) (p := 39) C rfl rfl dX5_start_15 rfl ?_
  refine g_aload_n C rfl dX5_start_18 rfl ?_
  refine fg_X5_32R (k := 37) (p := 1) C rfl rfl dX5_start_19 rfl ?_
  refine fg_X5_43R (k := 1) (p := 3) C rfl rfl dX5_start_22 rfl ?_
  refine g_callVV C tw_491 tw_492 tw_493 tw_3 tw_494 hy_X4_copy (by decide) (by decide) rfl (Nat.le_of_ble_eq_true rfl) rfl rfl (ct_X4_copy V_l1 39 3 rfl rfl f1 ) dX5_start_25 rfl rfl (fun f3 hp4 => ?_)
  replace h := h f3 hp4
  refine g_aload_n C rfl dX5_start_28 rfl ?_
  refine fg_X5_24R (k := 37) (p := 40) C rfl rfl dX5_start_29 rfl ?_
  refine g_aload_n C rfl dX5_start_32 rfl ?_
  refine g_callVV C tw_495 tw_496 tw_497 tw_5 tw_498 hy_X0_copy (by decide) (by decide) rfl (Nat.le_of_ble_eq_true rfl) rfl rfl (ct_X0_copy V_l1 40 o rfl ho f3 ) dX5_start_33 rfl rfl (fun f5 hp6 => ?_)
  replace h := h f5 hp6
  refine g_aload_n C rfl dX5_start_36 rfl ?_
  refine g_aload_n C rfl dX5_start_37 rfl ?_
  refine fg_X5_24R (k := 37) (p := 40) C rfl rfl dX5_start_38 rfl ?_
  refine g_callVD C tw_499 tw_379 tw_380 tw_5 tw_381 hy_X0_lag (by decide) (by decide) rfl (Nat.le_of_ble_eq_true rfl) rfl rfl (ct_X0_lag V_l1 40 rfl f5 ) dX5_start_41 rfl rfl ?_
  refine fp_X5_51 (k := 37) C rfl rfl (Nat.le_of_ble_eq_true rfl) dX5_start_44 rfl ?_
  exact g_vret C dX5_start_47 h
set_option maxRecDepth 100000 in
theorem ct_X5_start (V_l1 : VC_l1) (V_l2 : VC_l2) {l : Launch} {E : Ev} (o : Nat) (ho : isFl o) (f : Fn)   : CT l E layC yX5_start cX5_start 2 none 1 [.ref (E.2.1 37), .ref (E.2.1 o)] f (pV (Post_X5_start o f)) := by
  refine CT.of (by decide +kernel) (Nat.le_of_ble_eq_true rfl) (fun Z hl9 hE9 hp9 C => ?_)
  subst hl9
  subst hE9
  exact wk_X5_start V_l1 V_l2 C o ho f  (by rw [hp9]; exact V_l2.2.2.2.2.2.2.2.2.1 o f  ho )
set_option maxHeartbeats 4000000 in
set_option maxRecDepth 100000 in
theorem wk_X5_fly (V_l1 : VC_l1) (V_l2 : VC_l2) {Z : Zt}  (C : CX Z layC RX5 cX5_fly 6 none 2)     (f : Fn) (a1 : Int32) (a2 : Int32) (h : wp_X5_fly  f a1 a2 (zp Z)) : GG Z f [(0, .ref (zad Z 37)), (1, .int a1), (2, .int a2)] 0 [] := by
  refine g_iload_n C rfl dX5_fly_0 rfl ?_
  refine g_aload_n C rfl dX5_fly_1 rfl ?_
  refine fg_X5_51I (k := 37) (x := (f 37 6)) C rfl rfl rfl dX5_fly_2 rfl ?_
  refine g_iadd C dX5_fly_5 rfl ?_
  refine g_iload_n C rfl dX5_fly_6 rfl ?_
  refine g_iadd C dX5_fly_7 rfl ?_
  refine g_istore_n (lv' := [(3, .int ((a1 + (f 37 6)) + a2)), (0, .ref (zad Z 37)), (1, .int a1), (2, .int a2)]) C dX5_fly_8 (by decide) rfl rfl ?_
  refine g_aload_n C rfl dX5_fly_9 rfl ?_
  refine fg_X5_12R (k := 37) (p := 38) C rfl rfl dX5_fly_10 rfl ?_
  refine g_iload_n C rfl dX5_fly_13 rfl ?_
  refine g_callVD C tw_508 tw_342 tw_343 tw_3 tw_344 hy_X4_placeAt (by decide) (by decide) rfl (Nat.le_of_ble_eq_true rfl) rfl rfl (ct_X4_placeAt V_l1 38 rfl f ((a1 + (f 37 6)) + a2) ) dX5_fly_14 rfl rfl ?_
  refine g_istore (lv' := [(4, .int (Val_X4_placeAt 38 f ((a1 + (f 37 6)) + a2))), (3, .int ((a1 + (f 37 6)) + a2)), (0, .ref (zad Z 37)), (1, .int a1), (2, .int a2)]) C dX5_fly_17 (by decide) rfl rfl ?_
  refine g_iload C rfl dX5_fly_19 rfl ?_
  refine g_aload_n C rfl dX5_fly_21 rfl ?_
  refine fg_X5_12R (k := 37) (p := 38) C rfl rfl dX5_fly_22 rfl ?_
  refine g_iload_n C rfl dX5_fly_25 rfl ?_
  refine g_iconst C ki_1 dX5_fly_26 rfl ?_
  refine g_isub C dX5_fly_27 rfl ?_
  refine g_callVD C tw_508 tw_342 tw_343 tw_3 tw_344 hy_X4_placeAt (by decide) (by decide) rfl (Nat.le_of_ble_eq_true rfl) rfl rfl (ct_X4_placeAt V_l1 38 rfl f (((a1 + (f 37 6)) + a2) - (1 : Int32)) ) dX5_fly_28 rfl rfl ?_
  refine g_isub C dX5_fly_31 rfl ?_
  refine g_istore (lv' := [(5, .int ((Val_X4_placeAt 38 f ((a1 + (f 37 6)) + a2)) - (Val_X4_placeAt 38 f (((a1 + (f 37 6)) + a2) - (1 : Int32))))), (4, .int (Val_X4_placeAt 38 f ((a1 + (f 37 6)) + a2))), (3, .int ((a1 + (f 37 6)) + a2)), (0, .ref (zad Z 37)), (1, .int a1), (2, .int a2)]) C dX5_fly_32 (by decide) rfl rfl ?_
  refine g_aload_n C rfl dX5_fly_34 rfl ?_
  refine g_iload_n C rfl dX5_fly_35 rfl ?_
  refine g_aload_n C rfl dX5_fly_36 rfl ?_
  refine fg_X5_32R (k := 37) (p := 1) C rfl rfl dX5_fly_37 rfl ?_
  refine fg_X5_58R (k := 1) (p := 12) C rfl rfl dX5_fly_40 rfl ?_
  refine g_aload_n C rfl dX5_fly_43 rfl ?_
  refine fg_X5_24R (k := 37) (p := 40) C rfl rfl dX5_fly_44 rfl ?_
  refine fg_X5_62I (k := 40) (x := (f 40 2)) C rfl rfl rfl dX5_fly_47 rfl ?_
  refine g_iload C rfl dX5_fly_50 rfl ?_
  refine g_aload_n C rfl dX5_fly_52 rfl ?_
  refine fg_X5_24R (k := 37) (p := 40) C rfl rfl dX5_fly_53 rfl ?_
  refine fg_X5_65I (k := 40) (x := (f 40 1)) C rfl rfl rfl dX5_fly_56 rfl ?_
  refine g_callVI C tw_509 tw_469 tw_470 tw_4 tw_471 hy_X1_gives (by decide) (by decide) rfl (Nat.le_of_ble_eq_true rfl) rfl rfl (ct_X1_gives V_l1 12 ⟨rfl, rfl, rfl⟩ f (f 40 2) ((Val_X4_placeAt 38 f ((a1 + (f 37 6)) + a2)) - (Val_X4_placeAt 38 f (((a1 + (f 37 6)) + a2) - (1 : Int32)))) (f 40 1) ) dX5_fly_59 rfl rfl (fun r1 f2 hp3 => ?_)
  replace h := h r1 f2 hp3
  refine g_iadd C dX5_fly_62 rfl ?_
  refine fp_X5_74 (k := 37) C rfl rfl (Nat.le_of_ble_eq_true rfl) dX5_fly_63 rfl ?_
  refine g_aload_n C rfl dX5_fly_66 rfl ?_
  refine g_iload C rfl dX5_fly_67 rfl ?_
  refine g_aload_n C rfl dX5_fly_69 rfl ?_
  refine fg_X5_32R (k := 37) (p := 1) C rfl rfl dX5_fly_70 rfl ?_
  refine fg_X5_77R (k := 1) (p := 15) C rfl rfl dX5_fly_73 rfl ?_
  refine g_aload_n C rfl dX5_fly_76 rfl ?_
  refine fg_X5_24R (k := 37) (p := 40) C rfl rfl dX5_fly_77 rfl ?_
  refine fg_X5_62I (k := 40) (x := (f2 40 2)) C rfl rfl (by simp [up2, upd]) dX5_fly_80 rfl ?_
  refine g_iload C rfl dX5_fly_83 rfl ?_
  refine g_aload_n C rfl dX5_fly_85 rfl ?_
  refine fg_X5_24R (k := 37) (p := 40) C rfl rfl dX5_fly_86 rfl ?_
  refine fg_X5_65I (k := 40) (x := (f2 40 1)) C rfl rfl (by simp [up2, upd]) dX5_fly_89 rfl ?_
  refine g_callVI C tw_509 tw_469 tw_470 tw_4 tw_471 hy_X1_gives (by decide) (by decide) rfl (Nat.le_of_ble_eq_true rfl) rfl rfl (ct_X1_gives V_l1 15 ⟨rfl, rfl, rfl⟩ (up2 f2 37 7 (((a1 + (f 37 6)) + a2) + r1)) (f2 40 2) ((Val_X4_placeAt 38 f ((a1 + (f 37 6)) + a2)) - (Val_X4_placeAt 38 f (((a1 + (f 37 6)) + a2) - (1 : Int32)))) (f2 40 1) ) dX5_fly_92 rfl rfl (fun r4 f5 hp6 => ?_)
  replace h := h r4 f5 hp6
  refine g_iadd C dX5_fly_95 rfl ?_
  refine fp_X5_80 (k := 37) C rfl rfl (Nat.le_of_ble_eq_true rfl) dX5_fly_96 rfl ?_
  exact g_vret C dX5_fly_99 h
set_option maxRecDepth 100000 in
theorem ct_X5_fly (V_l1 : VC_l1) (V_l2 : VC_l2) {l : Launch} {E : Ev}   (f : Fn) (a1 : Int32) (a2 : Int32)  : CT l E layC yX5_fly cX5_fly 6 none 2 [.ref (E.2.1 37), .int a1, .int a2] f (pV (Post_X5_fly f a1 a2)) := by
  refine CT.of (by decide +kernel) (Nat.le_of_ble_eq_true rfl) (fun Z hl9 hE9 hp9 C => ?_)
  subst hl9
  subst hE9
  exact wk_X5_fly V_l1 V_l2 C   f a1 a2 (by rw [hp9]; exact V_l2.2.2.2.2.2.2.2.2.2.1  f a1 a2  )
set_option maxHeartbeats 4000000 in
set_option maxRecDepth 100000 in
theorem wk_X5_off (V_l1 : VC_l1) (V_l2 : VC_l2) {Z : Zt}  (C : CX Z layC RX5 cX5_off 2 (some .int) 2)     (f : Fn) (a1 : Int32) (h : wp_X5_off  f a1 (zp Z)) : GG Z f [(0, .ref (zad Z 37)), (1, .int a1)] 0 [] := by
  refine g_aload_n C rfl dX5_off_0 rfl ?_
  refine fg_X5_80I (k := 37) (x := (f 37 8)) C rfl rfl rfl dX5_off_1 rfl ?_
  refine g_aload_n C rfl dX5_off_4 rfl ?_
  refine fg_X5_32R (k := 37) (p := 1) C rfl rfl dX5_off_5 rfl ?_
  refine fg_X5_83I (k := 1) (x := (f 1 2)) C rfl rfl rfl dX5_off_8 rfl ?_
  refine g_aload_n C rfl dX5_off_11 rfl ?_
  refine fg_X5_18R (k := 37) (p := 39) C rfl rfl dX5_off_12 rfl ?_
  refine g_aload_n C rfl dX5_off_15 rfl ?_
  refine fg_X5_74I (k := 37) (x := (f 37 7)) C rfl rfl rfl dX5_off_16 rfl ?_
  refine g_iload_n C rfl dX5_off_19 rfl ?_
  refine g_iadd C dX5_off_20 rfl ?_
  refine g_callVD C tw_508 tw_342 tw_343 tw_3 tw_344 hy_X4_placeAt (by decide) (by decide) rfl (Nat.le_of_ble_eq_true rfl) rfl rfl (ct_X4_placeAt V_l1 39 rfl f ((f 37 7) + a1) ) dX5_off_21 rfl rfl ?_
  refine g_isub C dX5_off_24 rfl ?_
  refine g_isub C dX5_off_25 rfl ?_
  exact g_iret C dX5_off_26 h
set_option maxRecDepth 100000 in
theorem ct_X5_off (V_l1 : VC_l1) (V_l2 : VC_l2) {l : Launch} {E : Ev}   (f : Fn) (a1 : Int32)  : CT l E layC yX5_off cX5_off 2 (some .int) 2 [.ref (E.2.1 37), .int a1] f (pI (fun r9 f9 => r9 = Val_X5_off f a1 ∧ f9 = f)) := by
  refine CT.of (by decide +kernel) (Nat.le_of_ble_eq_true rfl) (fun Z hl9 hE9 hp9 C => ?_)
  subst hl9
  subst hE9
  exact wk_X5_off V_l1 V_l2 C   f a1 (by rw [hp9]; exact V_l2.2.2.2.2.2.2.2.2.2.2.1  f a1  )
set_option maxHeartbeats 4000000 in
set_option maxRecDepth 100000 in
theorem wk_X5_isHeld (V_l1 : VC_l1) (V_l2 : VC_l2) {Z : Zt}  (C : CX Z layC RX5 cX5_isHeld 2 (some .boolean) 2)     (f : Fn) (a1 : Int32) (h : wp_X5_isHeld  f a1 (zp Z)) : GG Z f [(0, .ref (zad Z 37)), (1, .int a1)] 0 [] := by
  refine g_iload_n C rfl dX5_isHeld_0 rfl ?_
  refine g_callSD C tw_518 tw_349 tw_11 tw_350 hy_J9_abs_0f7a4 (by decide) (by decide) rfl (Nat.le_of_ble_eq_true rfl) (ct_J9_abs_0f7a4 V_l1   f a1 ) dX5_isHeld_1 rfl rfl ?_
  refine g_aload_n C rfl dX5_isHeld_4 rfl ?_
  refine fg_X5_24R (k := 37) (p := 40) C rfl rfl dX5_isHeld_5 rfl ?_
  refine g_aload_n C rfl dX5_isHeld_8 rfl ?_
  refine fg_X5_32R (k := 37) (p := 1) C rfl rfl dX5_isHeld_9 rfl ?_
  refine fg_X5_91I (k := 1) (x := (f 1 3)) C rfl rfl rfl dX5_isHeld_12 rfl ?_
  refine g_callVD C tw_519 tw_383 tw_384 tw_5 tw_385 hy_X0_holds (by decide) (by decide) rfl (Nat.le_of_ble_eq_true rfl) rfl rfl (ct_X0_holds V_l1 40 rfl f (f 1 3) ) dX5_isHeld_15 rfl rfl ?_
  refine g_icmp_gt (tgt := 25) C dX5_isHeld_18 (by decide) rfl (fun hc1 => ?_) (fun hc1 => ?_)
  · replace h := h.1 hc1
    refine g_iconst C ki_0 dX5_isHeld_25 rfl ?_
    exact g_zret C (Or.inl rfl) dX5_isHeld_26 h
  · replace h := h.2 hc1
    refine g_iconst C ki_1 dX5_isHeld_21 rfl ?_
    refine g_goto (q := 26) C dX5_isHeld_22 (by decide) ?_
    exact g_zret C (Or.inr rfl) dX5_isHeld_26 h
set_option maxRecDepth 100000 in
theorem ct_X5_isHeld (V_l1 : VC_l1) (V_l2 : VC_l2) {l : Launch} {E : Ev}   (f : Fn) (a1 : Int32)  : CT l E layC yX5_isHeld cX5_isHeld 2 (some .boolean) 2 [.ref (E.2.1 37), .int a1] f (pI (fun r9 f9 => r9 = Val_X5_isHeld f a1 ∧ f9 = f)) := by
  refine CT.of (by decide +kernel) (Nat.le_of_ble_eq_true rfl) (fun Z hl9 hE9 hp9 C => ?_)
  subst hl9
  subst hE9
  exact wk_X5_isHeld V_l1 V_l2 C   f a1 (by rw [hp9]; exact V_l2.2.2.2.2.2.2.2.2.2.2.2.1  f a1  )
set_option maxHeartbeats 4000000 in
set_option maxRecDepth 100000 in
theorem wk_X5_isCaught (V_l1 : VC_l1) (V_l2 : VC_l2) {Z : Zt}  (C : CX Z layC RX5 cX5_isCaught 2 (some .boolean) 3)     (f : Fn) (a1 : Int32) (h : wp_X5_isCaught  f a1 (zp Z)) : GG Z f [(0, .ref (zad Z 37)), (1, .int a1)] 0 [] := by
  refine g_aload_n C rfl dX5_isCaught_0 rfl ?_
  refine g_iload_n C rfl dX5_isCaught_1 rfl ?_
  refine g_iconst C ki_0 dX5_isCaught_2 rfl ?_
  refine g_callVV C tw_504 tw_505 tw_506 tw_6 tw_507 hy_X5_fly (by decide) (by decide) rfl (Nat.le_of_ble_eq_true rfl) rfl rfl (ct_X5_fly V_l1 V_l2   f a1 (0 : Int32) ) dX5_isCaught_3 rfl rfl (fun f1 hp2 => ?_)
  replace h := h f1 hp2
  refine g_aload_n C rfl dX5_isCaught_6 rfl ?_
  refine g_aload_n C rfl dX5_isCaught_7 rfl ?_
  refine g_iconst C ki_0 dX5_isCaught_8 rfl ?_
  refine g_callVD C tw_510 tw_511 tw_512 tw_6 tw_513 hy_X5_off (by decide) (by decide) rfl (Nat.le_of_ble_eq_true rfl) rfl rfl (ct_X5_off V_l1 V_l2   f1 (0 : Int32) ) dX5_isCaught_9 rfl rfl ?_
  refine g_callVD C tw_514 tw_516 tp_7 tw_6 tw_517 hy_X5_isHeld (by decide) (by decide) rfl (Nat.le_of_ble_eq_true rfl) rfl rfl (ct_X5_isHeld V_l1 V_l2   f1 (Val_X5_off f1 (0 : Int32)) ) dX5_isCaught_12 rfl rfl ?_
  have hs3 := h.1
  replace h := h.2
  exact g_zret C hs3 dX5_isCaught_15 h
set_option maxRecDepth 100000 in
theorem ct_X5_isCaught (V_l1 : VC_l1) (V_l2 : VC_l2) {l : Launch} {E : Ev}   (f : Fn) (a1 : Int32)  : CT l E layC yX5_isCaught cX5_isCaught 2 (some .boolean) 3 [.ref (E.2.1 37), .int a1] f (pI (Post_X5_isCaught f a1)) := by
  refine CT.of (by decide +kernel) (Nat.le_of_ble_eq_true rfl) (fun Z hl9 hE9 hp9 C => ?_)
  subst hl9
  subst hE9
  exact wk_X5_isCaught V_l1 V_l2 C   f a1 (by rw [hp9]; exact V_l2.2.2.2.2.2.2.2.2.2.2.2.2.1  f a1  )
set_option maxHeartbeats 4000000 in
set_option maxRecDepth 100000 in
theorem wk_X5_howManyCaught_L31 (V_l1 : VC_l1) (V_l2 : VC_l2) {Z : Zt}  (C : CX Z layC RX5 cX5_howManyCaught 4 (some .int) 4)   {K4 : Fn → Int32 → Int32 → Int32 → Prop} (hK4 : ∀ (f : Fn) (x1 : Int32) (x2 : Int32) (x3 : Int32), K4 f x1 x2 x3 → GG Z f [(0, .ref (zad Z 37)), (1, .int x1), (2, .int x2), (3, .int x3)] 4 []) (f : Fn) (x1 : Int32) (x3 : Int32) (s0 : Int32) (s1 : Int32) (h : wp_X5_howManyCaught_L31  K4 f x1 x3 s0 s1 (zp Z)) : GG Z f [(0, .ref (zad Z 37)), (1, .int x1), (3, .int x3)] 31 [.int s0, .int s1] := by
  refine g_iadd C dX5_howManyCaught_31 rfl ?_
  refine g_istore_n (lv' := [(2, .int (s1 + s0)), (0, .ref (zad Z 37)), (1, .int x1), (3, .int x3)]) C dX5_howManyCaught_32 (by decide) rfl rfl ?_
  refine g_iinc (lv' := [(3, .int (x3 + (1 : Int32))), (2, .int (s1 + s0)), (0, .ref (zad Z 37)), (1, .int x1)]) C dX5_howManyCaught_33 rfl (inc_1 _) (by decide) rfl rfl ?_
  refine g_goto (q := 4) C dX5_howManyCaught_36 (by decide) ?_
  refine g_lps [0, 1, 2, 3] rfl ?_
  exact hK4 _ _ _ _ h
set_option maxHeartbeats 4000000 in
set_option maxRecDepth 100000 in
theorem wkb_X5_howManyCaught_L4 (V_l1 : VC_l1) (V_l2 : VC_l2) {Z : Zt}  (C : CX Z layC RX5 cX5_howManyCaught 4 (some .int) 4)   {K4 : Fn → Int32 → Int32 → Int32 → Prop} (hK4 : ∀ (f : Fn) (x1 : Int32) (x2 : Int32) (x3 : Int32), K4 f x1 x2 x3 → GG Z f [(0, .ref (zad Z 37)), (1, .int x1), (2, .int x2), (3, .int x3)] 4 []) (f : Fn) (x1 : Int32) (x2 : Int32) (x3 : Int32) (h : wpb_X5_howManyCaught_L4   K4 f x1 x2 x3 (zp Z)) : GG Z f [(0, .ref (zad Z 37)), (1, .int x1), (2, .int x2), (3, .int x3)] 4 [] := by
  refine g_iload_n C rfl dX5_howManyCaught_4 rfl ?_
  refine g_iload_n C rfl dX5_howManyCaught_5 rfl ?_
  refine g_icmp_ge (tgt := 39) C dX5_howManyCaught_6 (by decide) rfl (fun hc1 => ?_) (fun hc1 => ?_)
  · replace h := h.1 hc1
    refine g_iload_n C rfl dX5_howManyCaught_39 rfl ?_
    exact g_iret C dX5_howManyCaught_40 h
  · replace h := h.2 hc1
    refine g_iload_n C rfl dX5_howManyCaught_9 rfl ?_
    refine g_aload_n C rfl dX5_howManyCaught_10 rfl ?_
    refine g_aload_n C rfl dX5_howManyCaught_11 rfl ?_
    refine fg_X5_32R (k := 37) (p := 1) C rfl rfl dX5_howManyCaught_12 rfl ?_
    refine fg_X5_108I (k := 1) (x := (f 1 5)) C rfl rfl rfl dX5_howManyCaught_15 rfl ?_
    refine g_iload_n C rfl dX5_howManyCaught_18 rfl ?_
    refine g_iadd C dX5_howManyCaught_19 rfl ?_
    refine g_callVI C tw_560 tw_501 tw_502 tw_6 tw_503 hy_X5_isCaught (by decide) (by decide) rfl (Nat.le_of_ble_eq_true rfl) rfl rfl (ct_X5_isCaught V_l1 V_l2   f ((f 1 5) + x3) ) dX5_howManyCaught_20 rfl rfl (fun r2 f3 hp4 => ?_)
    replace h := h r2 f3 hp4
    refine g_if_eq (tgt := 30) C dX5_howManyCaught_23 (by decide) rfl (fun hc5 => ?_) (fun hc5 => ?_)
    · replace h := h.1 hc5
      refine g_iconst C ki_0 dX5_howManyCaught_30 rfl ?_
      refine g_lps [0, 1, 3] rfl ?_
      exact wk_X5_howManyCaught_L31 V_l1 V_l2  C   hK4 _ _ _ _ _ h
    · replace h := h.2 hc5
      refine g_iconst C ki_1 dX5_howManyCaught_26 rfl ?_
      refine g_goto (q := 31) C dX5_howManyCaught_27 (by decide) ?_
      refine g_lps [0, 1, 3] rfl ?_
      exact wk_X5_howManyCaught_L31 V_l1 V_l2  C   hK4 _ _ _ _ _ h
set_option maxHeartbeats 4000000 in
set_option maxRecDepth 100000 in
theorem wk_X5_howManyCaught_L4 (V_l1 : VC_l1) (V_l2 : VC_l2) {Z : Zt}  (C : CX Z layC RX5 cX5_howManyCaught 4 (some .int) 4)     (f : Fn) (x1 : Int32) (x2 : Int32) (x3 : Int32) (h : wp_X5_howManyCaught_L4   f x1 x2 x3 (zp Z)) : GG Z f [(0, .ref (zad Z 37)), (1, .int x1), (2, .int x2), (3, .int x3)] 4 [] := by
  obtain ⟨I, μ, h0, hs⟩ := h
  suffices H : ∀ (N : Nat) (f : Fn) (x1 : Int32) (x2 : Int32) (x3 : Int32), μ f x1 x2 x3 < N → I f x1 x2 x3 → GG Z f [(0, .ref (zad Z 37)), (1, .int x1), (2, .int x2), (3, .int x3)] 4 [] from H _ f x1 x2 x3 (Nat.lt_succ_self _) h0
  clear h0
  intro N
  induction N with
  | zero => intro f x1 x2 x3 hm; exact absurd hm (Nat.not_lt_zero _)
  | succ N ih =>
    intro f x1 x2 x3 hm hi
    exact wkb_X5_howManyCaught_L4 V_l1 V_l2  C    (fun f9 x19 x29 x39 hk => ih f9 x19 x29 x39 (Nat.lt_of_lt_of_le hk.2 (Nat.le_of_lt_succ hm)) hk.1) f x1 x2 x3 (hs f x1 x2 x3 hi)
set_option maxHeartbeats 4000000 in
set_option maxRecDepth 100000 in
theorem wk_X5_howManyCaught (V_l1 : VC_l1) (V_l2 : VC_l2) {Z : Zt}  (C : CX Z layC RX5 cX5_howManyCaught 4 (some .int) 4)     (f : Fn) (a1 : Int32) (h : wp_X5_howManyCaught  f a1 (zp Z)) : GG Z f [(0, .ref (zad Z 37)), (1, .int a1)] 0 [] := by
  refine g_iconst C ki_0 dX5_howManyCaught_0 rfl ?_
  refine g_istore_n (lv' := [(2, .int (0 : Int32)), (0, .ref (zad Z 37)), (1, .int a1)]) C dX5_howManyCaught_1 (by decide) rfl rfl ?_
  refine g_iconst C ki_0 dX5_howManyCaught_2 rfl ?_
  refine g_istore_n (lv' := [(3, .int (0 : Int32)), (2, .int (0 : Int32)), (0, .ref (zad Z 37)), (1, .int a1)]) C dX5_howManyCaught_3 (by decide) rfl rfl ?_
  refine g_lps [0, 1, 2, 3] rfl ?_
  exact wk_X5_howManyCaught_L4 V_l1 V_l2  C    _ _ _ _ h
set_option maxRecDepth 100000 in
theorem ct_X5_howManyCaught (V_l1 : VC_l1) (V_l2 : VC_l2) {l : Launch} {E : Ev}   (f : Fn) (a1 : Int32)  : CT l E layC yX5_howManyCaught cX5_howManyCaught 4 (some .int) 4 [.ref (E.2.1 37), .int a1] f (pI (Post_X5_howManyCaught f a1)) := by
  refine CT.of (by decide +kernel) (Nat.le_of_ble_eq_true rfl) (fun Z hl9 hE9 hp9 C => ?_)
  subst hl9
  subst hE9
  exact wk_X5_howManyCaught V_l1 V_l2 C   f a1 (by rw [hp9]; exact V_l2.2.2.2.2.2.2.2.2.2.2.2.2.2.1  f a1  )
set_option maxHeartbeats 4000000 in
set_option maxRecDepth 100000 in
theorem wkb_X5_firstCaught_L2 (V_l1 : VC_l1) (V_l2 : VC_l2) {Z : Zt}  (C : CX Z layC RX5 cX5_firstCaught 3 (some .int) 4)   {K2 : Fn → Int32 → Int32 → Prop} (hK2 : ∀ (f : Fn) (x1 : Int32) (x2 : Int32), K2 f x1 x2 → GG Z f [(0, .ref (zad Z 37)), (1, .int x1), (2, .int x2)] 2 []) (f : Fn) (x1 : Int32) (x2 : Int32) (h : wpb_X5_firstCaught_L2   K2 f x1 x2 (zp Z)) : GG Z f [(0, .ref (zad Z 37)), (1, .int x1), (2, .int x2)] 2 [] := by
  refine g_iload_n C rfl dX5_firstCaught_2 rfl ?_
  refine g_iload_n C rfl dX5_firstCaught_3 rfl ?_
  refine g_icmp_ge (tgt := 31) C dX5_firstCaught_4 (by decide) rfl (fun hc1 => ?_) (fun hc1 => ?_)
  · replace h := h.1 hc1
    refine g_iconst C ki_m1 dX5_firstCaught_31 rfl ?_
    exact g_iret C dX5_firstCaught_32 h
  · replace h := h.2 hc1
    refine g_aload_n C rfl dX5_firstCaught_7 rfl ?_
    refine g_aload_n C rfl dX5_firstCaught_8 rfl ?_
    refine fg_X5_32R (k := 37) (p := 1) C rfl rfl dX5_firstCaught_9 rfl ?_
    refine fg_X5_108I (k := 1) (x := (f 1 5)) C rfl rfl rfl dX5_firstCaught_12 rfl ?_
    refine g_iload_n C rfl dX5_firstCaught_15 rfl ?_
    refine g_iadd C dX5_firstCaught_16 rfl ?_
    refine g_callVI C tw_560 tw_501 tw_502 tw_6 tw_503 hy_X5_isCaught (by decide) (by decide) rfl (Nat.le_of_ble_eq_true rfl) rfl rfl (ct_X5_isCaught V_l1 V_l2   f ((f 1 5) + x2) ) dX5_firstCaught_17 rfl rfl (fun r2 f3 hp4 => ?_)
    replace h := h r2 f3 hp4
    refine g_if_eq (tgt := 25) C dX5_firstCaught_20 (by decide) rfl (fun hc5 => ?_) (fun hc5 => ?_)
    · replace h := h.1 hc5
      refine g_iinc (lv' := [(2, .int (x2 + (1 : Int32))), (0, .ref (zad Z 37)), (1, .int x1)]) C dX5_firstCaught_25 rfl (inc_1 _) (by decide) rfl rfl ?_
      refine g_goto (q := 2) C dX5_firstCaught_28 (by decide) ?_
      refine g_lps [0, 1, 2] rfl ?_
      exact hK2 _ _ _ h
    · replace h := h.2 hc5
      refine g_iload_n C rfl dX5_firstCaught_23 rfl ?_
      exact g_iret C dX5_firstCaught_24 h
set_option maxHeartbeats 4000000 in
set_option maxRecDepth 100000 in
theorem wk_X5_firstCaught_L2 (V_l1 : VC_l1) (V_l2 : VC_l2) {Z : Zt}  (C : CX Z layC RX5 cX5_firstCaught 3 (some .int) 4)     (f : Fn) (x1 : Int32) (x2 : Int32) (h : wp_X5_firstCaught_L2   f x1 x2 (zp Z)) : GG Z f [(0, .ref (zad Z 37)), (1, .int x1), (2, .int x2)] 2 [] := by
  obtain ⟨I, μ, h0, hs⟩ := h
  suffices H : ∀ (N : Nat) (f : Fn) (x1 : Int32) (x2 : Int32), μ f x1 x2 < N → I f x1 x2 → GG Z f [(0, .ref (zad Z 37)), (1, .int x1), (2, .int x2)] 2 [] from H _ f x1 x2 (Nat.lt_succ_self _) h0
  clear h0
  intro N
  induction N with
  | zero => intro f x1 x2 hm; exact absurd hm (Nat.not_lt_zero _)
  | succ N ih =>
    intro f x1 x2 hm hi
    exact wkb_X5_firstCaught_L2 V_l1 V_l2  C    (fun f9 x19 x29 hk => ih f9 x19 x29 (Nat.lt_of_lt_of_le hk.2 (Nat.le_of_lt_succ hm)) hk.1) f x1 x2 (hs f x1 x2 hi)
set_option maxHeartbeats 4000000 in
set_option maxRecDepth 100000 in
theorem wk_X5_firstCaught (V_l1 : VC_l1) (V_l2 : VC_l2) {Z : Zt}  (C : CX Z layC RX5 cX5_firstCaught 3 (some .int) 4)     (f : Fn) (a1 : Int32) (h : wp_X5_firstCaught  f a1 (zp Z)) : GG Z f [(0, .ref (zad Z 37)), (1, .int a1)] 0 [] := by
  refine g_iconst C ki_0 dX5_firstCaught_0 rfl ?_
  refine g_istore_n (lv' := [(2, .int (0 : Int32)), (0, .ref (zad Z 37)), (1, .int a1)]) C dX5_firstCaught_1 (by decide) rfl rfl ?_
  refine g_lps [0, 1, 2] rfl ?_
  exact wk_X5_firstCaught_L2 V_l1 V_l2  C    _ _ _ h
set_option maxRecDepth 100000 in
theorem ct_X5_firstCaught (V_l1 : VC_l1) (V_l2 : VC_l2) {l : Launch} {E : Ev}   (f : Fn) (a1 : Int32)  : CT l E layC yX5_firstCaught cX5_firstCaught 3 (some .int) 4 [.ref (E.2.1 37), .int a1] f (pI (Post_X5_firstCaught f a1)) := by
  refine CT.of (by decide +kernel) (Nat.le_of_ble_eq_true rfl) (fun Z hl9 hE9 hp9 C => ?_)
  subst hl9
  subst hE9
  exact wk_X5_firstCaught V_l1 V_l2 C   f a1 (by rw [hp9]; exact V_l2.2.2.2.2.2.2.2.2.2.2.2.2.2.2.1  f a1  )
set_option maxHeartbeats 4000000 in
set_option maxRecDepth 100000 in
theorem wk_X5_casesCaught_L43 (V_l1 : VC_l1) (V_l2 : VC_l2) {Z : Zt}  (C : CX Z layC RX5 cX5_casesCaught 5 (some .int) 3)   {K4 : Fn → Int32 → Int32 → Int32 → Prop} {K18 : Fn → Int32 → Int32 → Int32 → Int32 → Prop} (hK4 : ∀ (f : Fn) (x1 : Int32) (x2 : Int32) (x3 : Int32), K4 f x1 x2 x3 → GG Z f [(0, .ref (zad Z 37)), (1, .int x1), (2, .int x2), (3, .int x3)] 4 []) (hK18 : ∀ (f : Fn) (x1 : Int32) (x2 : Int32) (x3 : Int32) (x4 : Int32), K18 f x1 x2 x3 x4 → GG Z f [(0, .ref (zad Z 37)), (1, .int x1), (2, .int x2), (3, .int x3), (4, .int x4)] 18 []) (f : Fn) (x1 : Int32) (x3 : Int32) (x4 : Int32) (s0 : Int32) (s1 : Int32) (h : wp_X5_casesCaught_L43  K4 K18 f x1 x3 x4 s0 s1 (zp Z)) : GG Z f [(0, .ref (zad Z 37)), (1, .int x1), (3, .int x3), (4, .int x4)] 43 [.int s0, .int s1] := by
  refine g_iadd C dX5_casesCaught_43 rfl ?_
  refine g_istore_n (lv' := [(2, .int (s1 + s0)), (0, .ref (zad Z 37)), (1, .int x1), (3, .int x3), (4, .int x4)]) C dX5_casesCaught_44 (by decide) rfl rfl ?_
  refine g_iinc (lv' := [(4, .int (x4 + (1 : Int32))), (2, .int (s1 + s0)), (0, .ref (zad Z 37)), (1, .int x1), (3, .int x3)]) C dX5_casesCaught_45 rfl (inc_1 _) (by decide) rfl rfl ?_
  refine g_goto (q := 18) C dX5_casesCaught_48 (by decide) ?_
  refine g_lps [0, 1, 2, 3, 4] rfl ?_
  exact hK18 _ _ _ _ _ h
set_option maxHeartbeats 4000000 in
set_option maxRecDepth 100000 in
theorem wkb_X5_casesCaught_L18 (V_l1 : VC_l1) (V_l2 : VC_l2) {Z : Zt}  (C : CX Z layC RX5 cX5_casesCaught 5 (some .int) 3)   {K4 : Fn → Int32 → Int32 → Int32 → Prop} {K18 : Fn → Int32 → Int32 → Int32 → Int32 → Prop} (hK4 : ∀ (f : Fn) (x1 : Int32) (x2 : Int32) (x3 : Int32), K4 f x1 x2 x3 → GG Z f [(0, .ref (zad Z 37)), (1, .int x1), (2, .int x2), (3, .int x3)] 4 []) (hK18 : ∀ (f : Fn) (x1 : Int32) (x2 : Int32) (x3 : Int32) (x4 : Int32), K18 f x1 x2 x3 x4 → GG Z f [(0, .ref (zad Z 37)), (1, .int x1), (2, .int x2), (3, .int x3), (4, .int x4)] 18 []) (f : Fn) (x1 : Int32) (x2 : Int32) (x3 : Int32) (x4 : Int32) (h : wpb_X5_casesCaught_L18  K4 K18 f x1 x2 x3 x4 (zp Z)) : GG Z f [(0, .ref (zad Z 37)), (1, .int x1), (2, .int x2), (3, .int x3), (4, .int x4)] 18 [] := by
  refine g_iload C rfl dX5_casesCaught_18 rfl ?_
  refine g_iconst C ki_1 dX5_casesCaught_20 rfl ?_
  refine g_icmp_gt (tgt := 51) C dX5_casesCaught_21 (by decide) rfl (fun hc4 => ?_) (fun hc4 => ?_)
  · replace h := h.1 hc4
    refine g_iinc (lv' := [(3, .int (x3 + (1 : Int32))), (0, .ref (zad Z 37)), (1, .int x1), (2, .int x2), (4, .int x4)]) C dX5_casesCaught_51 rfl (inc_1 _) (by decide) rfl rfl ?_
    refine g_goto (q := 4) C dX5_casesCaught_54 (by decide) ?_
    refine g_lps [0, 1, 2, 3] rfl ?_
    exact hK4 _ _ _ _ h
  · replace h := h.2 hc4
    refine g_iload_n C rfl dX5_casesCaught_24 rfl ?_
    refine g_aload_n C rfl dX5_casesCaught_25 rfl ?_
    refine g_aload_n C rfl dX5_casesCaught_26 rfl ?_
    refine g_iload C rfl dX5_casesCaught_27 rfl ?_
    refine g_callVD C tw_510 tw_511 tw_512 tw_6 tw_513 hy_X5_off (by decide) (by decide) rfl (Nat.le_of_ble_eq_true rfl) rfl rfl (ct_X5_off V_l1 V_l2   f x4 ) dX5_casesCaught_29 rfl rfl ?_
    refine g_callVD C tw_514 tw_516 tp_7 tw_6 tw_517 hy_X5_isHeld (by decide) (by decide) rfl (Nat.le_of_ble_eq_true rfl) rfl rfl (ct_X5_isHeld V_l1 V_l2   f (Val_X5_off f x4) ) dX5_casesCaught_32 rfl rfl ?_
    refine g_if_eq (tgt := 42) C dX5_casesCaught_35 (by decide) rfl (fun hc5 => ?_) (fun hc5 => ?_)
    · replace h := h.1 hc5
      refine g_iconst C ki_0 dX5_casesCaught_42 rfl ?_
      refine g_lps [0, 1, 3, 4] rfl ?_
      exact wk_X5_casesCaught_L43 V_l1 V_l2  C   hK4 hK18 _ _ _ _ _ _ h
    · replace h := h.2 hc5
      refine g_iconst C ki_1 dX5_casesCaught_38 rfl ?_
      refine g_goto (q := 43) C dX5_casesCaught_39 (by decide) ?_
      refine g_lps [0, 1, 3, 4] rfl ?_
      exact wk_X5_casesCaught_L43 V_l1 V_l2  C   hK4 hK18 _ _ _ _ _ _ h
set_option maxHeartbeats 4000000 in
set_option maxRecDepth 100000 in
theorem wk_X5_casesCaught_L18 (V_l1 : VC_l1) (V_l2 : VC_l2) {Z : Zt}  (C : CX Z layC RX5 cX5_casesCaught 5 (some .int) 3)   {K4 : Fn → Int32 → Int32 → Int32 → Prop} (hK4 : ∀ (f : Fn) (x1 : Int32) (x2 : Int32) (x3 : Int32), K4 f x1 x2 x3 → GG Z f [(0, .ref (zad Z 37)), (1, .int x1), (2, .int x2), (3, .int x3)] 4 []) (f : Fn) (x1 : Int32) (x2 : Int32) (x3 : Int32) (x4 : Int32) (h : wp_X5_casesCaught_L18  K4 f x1 x2 x3 x4 (zp Z)) : GG Z f [(0, .ref (zad Z 37)), (1, .int x1), (2, .int x2), (3, .int x3), (4, .int x4)] 18 [] := by
  obtain ⟨I, μ, h0, hs⟩ := h
  suffices H : ∀ (N : Nat) (f : Fn) (x1 : Int32) (x2 : Int32) (x3 : Int32) (x4 : Int32), μ f x1 x2 x3 x4 < N → I f x1 x2 x3 x4 → GG Z f [(0, .ref (zad Z 37)), (1, .int x1), (2, .int x2), (3, .int x3), (4, .int x4)] 18 [] from H _ f x1 x2 x3 x4 (Nat.lt_succ_self _) h0
  clear h0
  intro N
  induction N with
  | zero => intro f x1 x2 x3 x4 hm; exact absurd hm (Nat.not_lt_zero _)
  | succ N ih =>
    intro f x1 x2 x3 x4 hm hi
    exact wkb_X5_casesCaught_L18 V_l1 V_l2  C   hK4 (fun f9 x19 x29 x39 x49 hk => ih f9 x19 x29 x39 x49 (Nat.lt_of_lt_of_le hk.2 (Nat.le_of_lt_succ hm)) hk.1) f x1 x2 x3 x4 (hs f x1 x2 x3 x4 hi)
set_option maxHeartbeats 4000000 in
set_option maxRecDepth 100000 in
theorem wkb_X5_casesCaught_L4 (V_l1 : VC_l1) (V_l2 : VC_l2) {Z : Zt}  (C : CX Z layC RX5 cX5_casesCaught 5 (some .int) 3)   {K4 : Fn → Int32 → Int32 → Int32 → Prop} (hK4 : ∀ (f : Fn) (x1 : Int32) (x2 : Int32) (x3 : Int32), K4 f x1 x2 x3 → GG Z f [(0, .ref (zad Z 37)), (1, .int x1), (2, .int x2), (3, .int x3)] 4 []) (f : Fn) (x1 : Int32) (x2 : Int32) (x3 : Int32) (h : wpb_X5_casesCaught_L4   K4 f x1 x2 x3 (zp Z)) : GG Z f [(0, .ref (zad Z 37)), (1, .int x1), (2, .int x2), (3, .int x3)] 4 [] := by
  refine g_iload_n C rfl dX5_casesCaught_4 rfl ?_
  refine g_iconst C ki_1 dX5_casesCaught_5 rfl ?_
  refine g_icmp_gt (tgt := 57) C dX5_casesCaught_6 (by decide) rfl (fun hc1 => ?_) (fun hc1 => ?_)
  · replace h := h.1 hc1
    refine g_iload_n C rfl dX5_casesCaught_57 rfl ?_
    exact g_iret C dX5_casesCaught_58 h
  · replace h := h.2 hc1
    refine g_aload_n C rfl dX5_casesCaught_9 rfl ?_
    refine g_iload_n C rfl dX5_casesCaught_10 rfl ?_
    refine g_iload_n C rfl dX5_casesCaught_11 rfl ?_
    refine g_callVV C tw_504 tw_505 tw_506 tw_6 tw_507 hy_X5_fly (by decide) (by decide) rfl (Nat.le_of_ble_eq_true rfl) rfl rfl (ct_X5_fly V_l1 V_l2   f x1 x3 ) dX5_casesCaught_12 rfl rfl (fun f2 hp3 => ?_)
    replace h := h f2 hp3
    refine g_iconst C ki_m1 dX5_casesCaught_15 rfl ?_
    refine g_istore (lv' := [(4, .int (-1 : Int32)), (0, .ref (zad Z 37)), (1, .int x1), (2, .int x2), (3, .int x3)]) C dX5_casesCaught_16 (by decide) rfl rfl ?_
    refine g_lps [0, 1, 2, 3, 4] rfl ?_
    exact wk_X5_casesCaught_L18 V_l1 V_l2  C   hK4 _ _ _ _ _ h
set_option maxHeartbeats 4000000 in
set_option maxRecDepth 100000 in
theorem wk_X5_casesCaught_L4 (V_l1 : VC_l1) (V_l2 : VC_l2) {Z : Zt}  (C : CX Z layC RX5 cX5_casesCaught 5 (some .int) 3)     (f : Fn) (x1 : Int32) (x2 : Int32) (x3 : Int32) (h : wp_X5_casesCaught_L4   f x1 x2 x3 (zp Z)) : GG Z f [(0, .ref (zad Z 37)), (1, .int x1), (2, .int x2), (3, .int x3)] 4 [] := by
  obtain ⟨I, μ, h0, hs⟩ := h
  suffices H : ∀ (N : Nat) (f : Fn) (x1 : Int32) (x2 : Int32) (x3 : Int32), μ f x1 x2 x3 < N → I f x1 x2 x3 → GG Z f [(0, .ref (zad Z 37)), (1, .int x1), (2, .int x2), (3, .int x3)] 4 [] from H _ f x1 x2 x3 (Nat.lt_succ_self _) h0
  clear h0
  intro N
  induction N with
  | zero => intro f x1 x2 x3 hm; exact absurd hm (Nat.not_lt_zero _)
  | succ N ih =>
    intro f x1 x2 x3 hm hi
    exact wkb_X5_casesCaught_L4 V_l1 V_l2  C    (fun f9 x19 x29 x39 hk => ih f9 x19 x29 x39 (Nat.lt_of_lt_of_le hk.2 (Nat.le_of_lt_succ hm)) hk.1) f x1 x2 x3 (hs f x1 x2 x3 hi)
set_option maxHeartbeats 4000000 in
set_option maxRecDepth 100000 in
theorem wk_X5_casesCaught (V_l1 : VC_l1) (V_l2 : VC_l2) {Z : Zt}  (C : CX Z layC RX5 cX5_casesCaught 5 (some .int) 3)     (f : Fn) (a1 : Int32) (h : wp_X5_casesCaught  f a1 (zp Z)) : GG Z f [(0, .ref (zad Z 37)), (1, .int a1)] 0 [] := by
  refine g_iconst C ki_0 dX5_casesCaught_0 rfl ?_
  refine g_istore_n (lv' := [(2, .int (0 : Int32)), (0, .ref (zad Z 37)), (1, .int a1)]) C dX5_casesCaught_1 (by decide) rfl rfl ?_
  refine g_iconst C ki_m1 dX5_casesCaught_2 rfl ?_
  refine g_istore_n (lv' := [(3, .int (-1 : Int32)), (2, .int (0 : Int32)), (0, .ref (zad Z 37)), (1, .int a1)]) C dX5_casesCaught_3 (by decide) rfl rfl ?_
  refine g_lps [0, 1, 2, 3] rfl ?_
  exact wk_X5_casesCaught_L4 V_l1 V_l2  C    _ _ _ _ h
set_option maxRecDepth 100000 in
theorem ct_X5_casesCaught (V_l1 : VC_l1) (V_l2 : VC_l2) {l : Launch} {E : Ev}   (f : Fn) (a1 : Int32)  : CT l E layC yX5_casesCaught cX5_casesCaught 5 (some .int) 3 [.ref (E.2.1 37), .int a1] f (pI (Post_X5_casesCaught f a1)) := by
  refine CT.of (by decide +kernel) (Nat.le_of_ble_eq_true rfl) (fun Z hl9 hE9 hp9 C => ?_)
  subst hl9
  subst hE9
  exact wk_X5_casesCaught V_l1 V_l2 C   f a1 (by rw [hp9]; exact V_l2.2.2.2.2.2.2.2.2.2.2.2.2.2.2.2.1  f a1  )
set_option maxHeartbeats 4000000 in
set_option maxRecDepth 100000 in
theorem wk_X5_surestWait_L41 (V_l1 : VC_l1) (V_l2 : VC_l2) {Z : Zt}  (C : CX Z layC RX5 cX5_surestWait 6 (some .int) 4)   {K7 : Fn → Int32 → Int32 → Int32 → Int32 → Prop} (hK7 : ∀ (f : Fn) (x1 : Int32) (x2 : Int32) (x3 : Int32) (x4 : Int32), K7 f x1 x2 x3 x4 → GG Z f [(0, .ref (zad Z 37)), (1, .int x1), (2, .int x2), (3, .int x3), (4, .int x4)] 7 []) (f : Fn) (x1 : Int32) (x2 : Int32) (x3 : Int32) (x4 : Int32) (h : wp_X5_surestWait_L41  K7 f x1 x2 x3 x4 (zp Z)) : GG Z f [(0, .ref (zad Z 37)), (1, .int x1), (2, .int x2), (3, .int x3), (4, .int x4)] 41 [] := by
  refine g_iinc (lv' := [(4, .int (x4 + (1 : Int32))), (0, .ref (zad Z 37)), (1, .int x1), (2, .int x2), (3, .int x3)]) C dX5_surestWait_41 rfl (inc_1 _) (by decide) rfl rfl ?_
  refine g_goto (q := 7) C dX5_surestWait_44 (by decide) ?_
  refine g_lps [0, 1, 2, 3, 4] rfl ?_
  exact hK7 _ _ _ _ _ h
set_option maxHeartbeats 4000000 in
set_option maxRecDepth 100000 in
theorem wkb_X5_surestWait_L7 (V_l1 : VC_l1) (V_l2 : VC_l2) {Z : Zt}  (C : CX Z layC RX5 cX5_surestWait 6 (some .int) 4)   {K7 : Fn → Int32 → Int32 → Int32 → Int32 → Prop} (hK7 : ∀ (f : Fn) (x1 : Int32) (x2 : Int32) (x3 : Int32) (x4 : Int32), K7 f x1 x2 x3 x4 → GG Z f [(0, .ref (zad Z 37)), (1, .int x1), (2, .int x2), (3, .int x3), (4, .int x4)] 7 []) (f : Fn) (x1 : Int32) (x2 : Int32) (x3 : Int32) (x4 : Int32) (h : wpb_X5_surestWait_L7   K7 f x1 x2 x3 x4 (zp Z)) : GG Z f [(0, .ref (zad Z 37)), (1, .int x1), (2, .int x2), (3, .int x3), (4, .int x4)] 7 [] := by
  refine g_iload C rfl dX5_surestWait_7 rfl ?_
  refine g_iload_n C rfl dX5_surestWait_9 rfl ?_
  refine g_icmp_ge (tgt := 47) C dX5_surestWait_10 (by decide) rfl (fun hc1 => ?_) (fun hc1 => ?_)
  · replace h := h.1 hc1
    refine g_iload_n C rfl dX5_surestWait_47 rfl ?_
    exact g_iret C dX5_surestWait_48 h
  · replace h := h.2 hc1
    refine g_aload_n C rfl dX5_surestWait_13 rfl ?_
    refine g_aload_n C rfl dX5_surestWait_14 rfl ?_
    refine fg_X5_32R (k := 37) (p := 1) C rfl rfl dX5_surestWait_15 rfl ?_
    refine fg_X5_108I (k := 1) (x := (f 1 5)) C rfl rfl rfl dX5_surestWait_18 rfl ?_
    refine g_iload C rfl dX5_surestWait_21 rfl ?_
    refine g_iadd C dX5_surestWait_23 rfl ?_
    refine g_callVI C tw_577 tw_578 tw_579 tw_6 tw_580 hy_X5_casesCaught (by decide) (by decide) rfl (Nat.le_of_ble_eq_true rfl) rfl rfl (ct_X5_casesCaught V_l1 V_l2   f ((f 1 5) + x4) ) dX5_surestWait_24 rfl rfl (fun r2 f3 hp4 => ?_)
    replace h := h r2 f3 hp4
    refine g_istore (lv' := [(5, .int r2), (0, .ref (zad Z 37)), (1, .int x1), (2, .int x2), (3, .int x3), (4, .int x4)]) C dX5_surestWait_27 (by decide) rfl rfl ?_
    refine g_iload C rfl dX5_surestWait_29 rfl ?_
    refine g_iload_n C rfl dX5_surestWait_31 rfl ?_
    refine g_icmp_le (tgt := 41) C dX5_surestWait_32 (by decide) rfl (fun hc5 => ?_) (fun hc5 => ?_)
    · replace h := h.1 hc5
      refine g_lps [0, 1, 2, 3, 4] rfl ?_
      exact wk_X5_surestWait_L41 V_l1 V_l2  C   hK7 _ _ _ _ _ h
    · replace h := h.2 hc5
      refine g_iload C rfl dX5_surestWait_35 rfl ?_
      refine g_istore_n (lv' := [(3, .int r2), (5, .int r2), (0, .ref (zad Z 37)), (1, .int x1), (2, .int x2), (4, .int x4)]) C dX5_surestWait_37 (by decide) rfl rfl ?_
      refine g_iload C rfl dX5_surestWait_38 rfl ?_
      refine g_istore_n (lv' := [(2, .int x4), (3, .int r2), (5, .int r2), (0, .ref (zad Z 37)), (1, .int x1), (4, .int x4)]) C dX5_surestWait_40 (by decide) rfl rfl ?_
      refine g_lps [0, 1, 2, 3, 4] rfl ?_
      exact wk_X5_surestWait_L41 V_l1 V_l2  C   hK7 _ _ _ _ _ h
set_option maxHeartbeats 4000000 in
set_option maxRecDepth 100000 in
theorem wk_X5_surestWait_L7 (V_l1 : VC_l1) (V_l2 : VC_l2) {Z : Zt}  (C : CX Z layC RX5 cX5_surestWait 6 (some .int) 4)     (f : Fn) (x1 : Int32) (x2 : Int32) (x3 : Int32) (x4 : Int32) (h : wp_X5_surestWait_L7   f x1 x2 x3 x4 (zp Z)) : GG Z f [(0, .ref (zad Z 37)), (1, .int x1), (2, .int x2), (3, .int x3), (4, .int x4)] 7 [] := by
  obtain ⟨I, μ, h0, hs⟩ := h
  suffices H : ∀ (N : Nat) (f : Fn) (x1 : Int32) (x2 : Int32) (x3 : Int32) (x4 : Int32), μ f x1 x2 x3 x4 < N → I f x1 x2 x3 x4 → GG Z f [(0, .ref (zad Z 37)), (1, .int x1), (2, .int x2), (3, .int x3), (4, .int x4)] 7 [] from H _ f x1 x2 x3 x4 (Nat.lt_succ_self _) h0
  clear h0
  intro N
  induction N with
  | zero => intro f x1 x2 x3 x4 hm; exact absurd hm (Nat.not_lt_zero _)
  | succ N ih =>
    intro f x1 x2 x3 x4 hm hi
    exact wkb_X5_surestWait_L7 V_l1 V_l2  C    (fun f9 x19 x29 x39 x49 hk => ih f9 x19 x29 x39 x49 (Nat.lt_of_lt_of_le hk.2 (Nat.le_of_lt_succ hm)) hk.1) f x1 x2 x3 x4 (hs f x1 x2 x3 x4 hi)
set_option maxHeartbeats 4000000 in
set_option maxRecDepth 100000 in
theorem wk_X5_surestWait (V_l1 : VC_l1) (V_l2 : VC_l2) {Z : Zt}  (C : CX Z layC RX5 cX5_surestWait 6 (some .int) 4)     (f : Fn) (a1 : Int32) (h : wp_X5_surestWait  f a1 (zp Z)) : GG Z f [(0, .ref (zad Z 37)), (1, .int a1)] 0 [] := by
  refine g_iconst C ki_0 dX5_surestWait_0 rfl ?_
  refine g_istore_n (lv' := [(2, .int (0 : Int32)), (0, .ref (zad Z 37)), (1, .int a1)]) C dX5_surestWait_1 (by decide) rfl rfl ?_
  refine g_iconst C ki_m1 dX5_surestWait_2 rfl ?_
  refine g_istore_n (lv' := [(3, .int (-1 : Int32)), (2, .int (0 : Int32)), (0, .ref (zad Z 37)), (1, .int a1)]) C dX5_surestWait_3 (by decide) rfl rfl ?_
  refine g_iconst C ki_0 dX5_surestWait_4 rfl ?_
  refine g_istore (lv' := [(4, .int (0 : Int32)), (3, .int (-1 : Int32)), (2, .int (0 : Int32)), (0, .ref (zad Z 37)), (1, .int a1)]) C dX5_surestWait_5 (by decide) rfl rfl ?_
  refine g_lps [0, 1, 2, 3, 4] rfl ?_
  exact wk_X5_surestWait_L7 V_l1 V_l2  C    _ _ _ _ _ h
set_option maxRecDepth 100000 in
theorem ct_X5_surestWait (V_l1 : VC_l1) (V_l2 : VC_l2) {l : Launch} {E : Ev}   (f : Fn) (a1 : Int32)  : CT l E layC yX5_surestWait cX5_surestWait 6 (some .int) 4 [.ref (E.2.1 37), .int a1] f (pI (Post_X5_surestWait f a1)) := by
  refine CT.of (by decide +kernel) (Nat.le_of_ble_eq_true rfl) (fun Z hl9 hE9 hp9 C => ?_)
  subst hl9
  subst hE9
  exact wk_X5_surestWait V_l1 V_l2 C   f a1 (by rw [hp9]; exact V_l2.2.2.2.2.2.2.2.2.2.2.2.2.2.2.2.2.1  f a1  )
set_option maxHeartbeats 4000000 in
set_option maxRecDepth 100000 in
theorem wkb_X5_leastPumps_L10 (V_l1 : VC_l1) (V_l2 : VC_l2) {Z : Zt}  (C : CX Z layC RX5 cX5_leastPumps 4 (some .int) 5)   {K10 : Fn → Int32 → Int32 → Int32 → Prop} (hK10 : ∀ (f : Fn) (x1 : Int32) (x2 : Int32) (x3 : Int32), K10 f x1 x2 x3 → GG Z f [(0, .ref (zad Z 37)), (1, .int x1), (2, .int x2), (3, .int x3)] 10 []) (f : Fn) (x1 : Int32) (x2 : Int32) (x3 : Int32) (h : wpb_X5_leastPumps_L10   K10 f x1 x2 x3 (zp Z)) : GG Z f [(0, .ref (zad Z 37)), (1, .int x1), (2, .int x2), (3, .int x3)] 10 [] := by
  refine g_iload_n C rfl dX5_leastPumps_10 rfl ?_
  refine g_bipush C kb_59 dX5_leastPumps_11 rfl ?_
  refine g_icmp_gt (tgt := 50) C dX5_leastPumps_13 (by decide) rfl (fun hc1 => ?_) (fun hc1 => ?_)
  · replace h := h.1 hc1
    refine g_iconst C ki_m1 dX5_leastPumps_50 rfl ?_
    exact g_iret C dX5_leastPumps_51 h
  · replace h := h.2 hc1
    refine g_iload_n C rfl dX5_leastPumps_16 rfl ?_
    refine g_iload_n C rfl dX5_leastPumps_17 rfl ?_
    refine g_iadd C dX5_leastPumps_18 rfl ?_
    refine g_bipush C kb_60 dX5_leastPumps_19 rfl ?_
    refine g_icmp_gt (tgt := 50) C dX5_leastPumps_21 (by decide) rfl (fun hc2 => ?_) (fun hc2 => ?_)
    · replace h := h.1 hc2
      refine g_iconst C ki_m1 dX5_leastPumps_50 rfl ?_
      exact g_iret C dX5_leastPumps_51 h
    · replace h := h.2 hc2
      refine g_aload_n C rfl dX5_leastPumps_24 rfl ?_
      refine fg_X5_12R (k := 37) (p := 38) C rfl rfl dX5_leastPumps_25 rfl ?_
      refine g_iload_n C rfl dX5_leastPumps_28 rfl ?_
      refine g_iload_n C rfl dX5_leastPumps_29 rfl ?_
      refine g_iadd C dX5_leastPumps_30 rfl ?_
      refine fp_X5_117 (k := 38) C rfl rfl (Nat.le_of_ble_eq_true rfl) dX5_leastPumps_31 rfl ?_
      refine g_aload_n C rfl dX5_leastPumps_34 rfl ?_
      refine g_iload_n C rfl dX5_leastPumps_35 rfl ?_
      refine g_callVI C tw_598 tw_562 tw_563 tw_6 tw_564 hy_X5_firstCaught (by decide) (by decide) rfl (Nat.le_of_ble_eq_true rfl) rfl rfl (ct_X5_firstCaught V_l1 V_l2   (up2 f 38 1 (x2 + x3)) x1 ) dX5_leastPumps_36 rfl rfl (fun r3 f4 hp5 => ?_)
      replace h := h r3 f4 hp5
      refine g_if_lt (tgt := 44) C dX5_leastPumps_39 (by decide) rfl (fun hc6 => ?_) (fun hc6 => ?_)
      · replace h := h.1 hc6
        refine g_iinc (lv' := [(3, .int (x3 + (1 : Int32))), (0, .ref (zad Z 37)), (1, .int x1), (2, .int x2)]) C dX5_leastPumps_44 rfl (inc_1 _) (by decide) rfl rfl ?_
        refine g_goto (q := 10) C dX5_leastPumps_47 (by decide) ?_
        refine g_lps [0, 1, 2, 3] rfl ?_
        exact hK10 _ _ _ _ h
      · replace h := h.2 hc6
        refine g_iload_n C rfl dX5_leastPumps_42 rfl ?_
        exact g_iret C dX5_leastPumps_43 h
set_option maxHeartbeats 4000000 in
set_option maxRecDepth 100000 in
theorem wk_X5_leastPumps_L10 (V_l1 : VC_l1) (V_l2 : VC_l2) {Z : Zt}  (C : CX Z layC RX5 cX5_leastPumps 4 (some .int) 5)     (f : Fn) (x1 : Int32) (x2 : Int32) (x3 : Int32) (h : wp_X5_leastPumps_L10   f x1 x2 x3 (zp Z)) : GG Z f [(0, .ref (zad Z 37)), (1, .int x1), (2, .int x2), (3, .int x3)] 10 [] := by
  obtain ⟨I, μ, h0, hs⟩ := h
  suffices H : ∀ (N : Nat) (f : Fn) (x1 : Int32) (x2 : Int32) (x3 : Int32), μ f x1 x2 x3 < N → I f x1 x2 x3 → GG Z f [(0, .ref (zad Z 37)), (1, .int x1), (2, .int x2), (3, .int x3)] 10 [] from H _ f x1 x2 x3 (Nat.lt_succ_self _) h0
  clear h0
  intro N
  induction N with
  | zero => intro f x1 x2 x3 hm; exact absurd hm (Nat.not_lt_zero _)
  | succ N ih =>
    intro f x1 x2 x3 hm hi
    exact wkb_X5_leastPumps_L10 V_l1 V_l2  C    (fun f9 x19 x29 x39 hk => ih f9 x19 x29 x39 (Nat.lt_of_lt_of_le hk.2 (Nat.le_of_lt_succ hm)) hk.1) f x1 x2 x3 (hs f x1 x2 x3 hi)
set_option maxHeartbeats 4000000 in
set_option maxRecDepth 100000 in
theorem wk_X5_leastPumps (V_l1 : VC_l1) (V_l2 : VC_l2) {Z : Zt}  (C : CX Z layC RX5 cX5_leastPumps 4 (some .int) 5)     (f : Fn) (a1 : Int32) (h : wp_X5_leastPumps  f a1 (zp Z)) : GG Z f [(0, .ref (zad Z 37)), (1, .int a1)] 0 [] := by
  refine g_aload_n C rfl dX5_leastPumps_0 rfl ?_
  refine fg_X5_12R (k := 37) (p := 38) C rfl rfl dX5_leastPumps_1 rfl ?_
  refine fg_X5_117I (k := 38) (x := (f 38 1)) C rfl rfl rfl dX5_leastPumps_4 rfl ?_
  refine g_istore_n (lv' := [(2, .int (f 38 1)), (0, .ref (zad Z 37)), (1, .int a1)]) C dX5_leastPumps_7 (by decide) rfl rfl ?_
  refine g_iconst C ki_0 dX5_leastPumps_8 rfl ?_
  refine g_istore_n (lv' := [(3, .int (0 : Int32)), (2, .int (f 38 1)), (0, .ref (zad Z 37)), (1, .int a1)]) C dX5_leastPumps_9 (by decide) rfl rfl ?_
  refine g_lps [0, 1, 2, 3] rfl ?_
  exact wk_X5_leastPumps_L10 V_l1 V_l2  C    _ _ _ _ h
set_option maxRecDepth 100000 in
theorem ct_X5_leastPumps (V_l1 : VC_l1) (V_l2 : VC_l2) {l : Launch} {E : Ev}   (f : Fn) (a1 : Int32) (hpre : Pre_X5_leastPumps f a1) : CT l E layC yX5_leastPumps cX5_leastPumps 4 (some .int) 5 [.ref (E.2.1 37), .int a1] f (pI (Post_X5_leastPumps f a1)) := by
  refine CT.of (by decide +kernel) (Nat.le_of_ble_eq_true rfl) (fun Z hl9 hE9 hp9 C => ?_)
  subst hl9
  subst hE9
  exact wk_X5_leastPumps V_l1 V_l2 C   f a1 (by rw [hp9]; exact V_l2.2.2.2.2.2.2.2.2.2.2.2.2.2.2.2.2.2.1  f a1  hpre)
set_option maxHeartbeats 4000000 in
set_option maxRecDepth 100000 in
theorem wkb_X5_leastSteps_L10 (V_l1 : VC_l1) (V_l2 : VC_l2) {Z : Zt}  (C : CX Z layC RX5 cX5_leastSteps 4 (some .int) 5)   {K10 : Fn → Int32 → Int32 → Int32 → Prop} (hK10 : ∀ (f : Fn) (x1 : Int32) (x2 : Int32) (x3 : Int32), K10 f x1 x2 x3 → GG Z f [(0, .ref (zad Z 37)), (1, .int x1), (2, .int x2), (3, .int x3)] 10 []) (f : Fn) (x1 : Int32) (x2 : Int32) (x3 : Int32) (h : wpb_X5_leastSteps_L10   K10 f x1 x2 x3 (zp Z)) : GG Z f [(0, .ref (zad Z 37)), (1, .int x1), (2, .int x2), (3, .int x3)] 10 [] := by
  refine g_iload_n C rfl dX5_leastSteps_10 rfl ?_
  refine g_bipush C kb_40 dX5_leastSteps_11 rfl ?_
  refine g_icmp_ge (tgt := 60) C dX5_leastSteps_13 (by decide) rfl (fun hc1 => ?_) (fun hc1 => ?_)
  · replace h := h.1 hc1
    refine g_iconst C ki_m1 dX5_leastSteps_60 rfl ?_
    exact g_iret C dX5_leastSteps_61 h
  · replace h := h.2 hc1
    refine g_aload_n C rfl dX5_leastSteps_16 rfl ?_
    refine fg_X5_18R (k := 37) (p := 39) C rfl rfl dX5_leastSteps_17 rfl ?_
    refine fg_X5_126I (k := 39) (x := (f 39 0)) C rfl rfl rfl dX5_leastSteps_20 rfl ?_
    refine g_if_le (tgt := 60) C dX5_leastSteps_23 (by decide) rfl (fun hc2 => ?_) (fun hc2 => ?_)
    · replace h := h.1 hc2
      refine g_iconst C ki_m1 dX5_leastSteps_60 rfl ?_
      exact g_iret C dX5_leastSteps_61 h
    · replace h := h.2 hc2
      refine g_aload_n C rfl dX5_leastSteps_26 rfl ?_
      refine fg_X5_18R (k := 37) (p := 39) C rfl rfl dX5_leastSteps_27 rfl ?_
      refine g_iload_n C rfl dX5_leastSteps_30 rfl ?_
      refine g_iload_n C rfl dX5_leastSteps_31 rfl ?_
      refine g_iadd C dX5_leastSteps_32 rfl ?_
      refine g_aload_n C rfl dX5_leastSteps_33 rfl ?_
      refine fg_X5_18R (k := 37) (p := 39) C rfl rfl dX5_leastSteps_34 rfl ?_
      refine fg_X5_126I (k := 39) (x := (f 39 0)) C rfl rfl rfl dX5_leastSteps_37 rfl ?_
      have hs3 := h.1
      replace h := h.2
      refine g_irem C hs3 dX5_leastSteps_40 rfl ?_
      refine fp_X5_123 (k := 39) C rfl rfl (Nat.le_of_ble_eq_true rfl) dX5_leastSteps_41 rfl ?_
      refine g_aload_n C rfl dX5_leastSteps_44 rfl ?_
      refine g_iload_n C rfl dX5_leastSteps_45 rfl ?_
      refine g_callVI C tw_598 tw_562 tw_563 tw_6 tw_564 hy_X5_firstCaught (by decide) (by decide) rfl (Nat.le_of_ble_eq_true rfl) rfl rfl (ct_X5_firstCaught V_l1 V_l2   (up2 f 39 2 ((x2 + x3) - ((x2 + x3) / (f 39 0)) * (f 39 0))) x1 ) dX5_leastSteps_46 rfl rfl (fun r4 f5 hp6 => ?_)
      replace h := h r4 f5 hp6
      refine g_if_lt (tgt := 54) C dX5_leastSteps_49 (by decide) rfl (fun hc7 => ?_) (fun hc7 => ?_)
      · replace h := h.1 hc7
        refine g_iinc (lv' := [(3, .int (x3 + (1 : Int32))), (0, .ref (zad Z 37)), (1, .int x1), (2, .int x2)]) C dX5_leastSteps_54 rfl (inc_1 _) (by decide) rfl rfl ?_
        refine g_goto (q := 10) C dX5_leastSteps_57 (by decide) ?_
        refine g_lps [0, 1, 2, 3] rfl ?_
        exact hK10 _ _ _ _ h
      · replace h := h.2 hc7
        refine g_iload_n C rfl dX5_leastSteps_52 rfl ?_
        exact g_iret C dX5_leastSteps_53 h
set_option maxHeartbeats 4000000 in
set_option maxRecDepth 100000 in
theorem wk_X5_leastSteps_L10 (V_l1 : VC_l1) (V_l2 : VC_l2) {Z : Zt}  (C : CX Z layC RX5 cX5_leastSteps 4 (some .int) 5)     (f : Fn) (x1 : Int32) (x2 : Int32) (x3 : Int32) (h : wp_X5_leastSteps_L10   f x1 x2 x3 (zp Z)) : GG Z f [(0, .ref (zad Z 37)), (1, .int x1), (2, .int x2), (3, .int x3)] 10 [] := by
  obtain ⟨I, μ, h0, hs⟩ := h
  suffices H : ∀ (N : Nat) (f : Fn) (x1 : Int32) (x2 : Int32) (x3 : Int32), μ f x1 x2 x3 < N → I f x1 x2 x3 → GG Z f [(0, .ref (zad Z 37)), (1, .int x1), (2, .int x2), (3, .int x3)] 10 [] from H _ f x1 x2 x3 (Nat.lt_succ_self _) h0
  clear h0
  intro N
  induction N with
  | zero => intro f x1 x2 x3 hm; exact absurd hm (Nat.not_lt_zero _)
  | succ N ih =>
    intro f x1 x2 x3 hm hi
    exact wkb_X5_leastSteps_L10 V_l1 V_l2  C    (fun f9 x19 x29 x39 hk => ih f9 x19 x29 x39 (Nat.lt_of_lt_of_le hk.2 (Nat.le_of_lt_succ hm)) hk.1) f x1 x2 x3 (hs f x1 x2 x3 hi)
set_option maxHeartbeats 4000000 in
set_option maxRecDepth 100000 in
theorem wk_X5_leastSteps (V_l1 : VC_l1) (V_l2 : VC_l2) {Z : Zt}  (C : CX Z layC RX5 cX5_leastSteps 4 (some .int) 5)     (f : Fn) (a1 : Int32) (h : wp_X5_leastSteps  f a1 (zp Z)) : GG Z f [(0, .ref (zad Z 37)), (1, .int a1)] 0 [] := by
  refine g_aload_n C rfl dX5_leastSteps_0 rfl ?_
  refine fg_X5_18R (k := 37) (p := 39) C rfl rfl dX5_leastSteps_1 rfl ?_
  refine fg_X5_123I (k := 39) (x := (f 39 2)) C rfl rfl rfl dX5_leastSteps_4 rfl ?_
  refine g_istore_n (lv' := [(2, .int (f 39 2)), (0, .ref (zad Z 37)), (1, .int a1)]) C dX5_leastSteps_7 (by decide) rfl rfl ?_
  refine g_iconst C ki_0 dX5_leastSteps_8 rfl ?_
  refine g_istore_n (lv' := [(3, .int (0 : Int32)), (2, .int (f 39 2)), (0, .ref (zad Z 37)), (1, .int a1)]) C dX5_leastSteps_9 (by decide) rfl rfl ?_
  refine g_lps [0, 1, 2, 3] rfl ?_
  exact wk_X5_leastSteps_L10 V_l1 V_l2  C    _ _ _ _ h
set_option maxRecDepth 100000 in
theorem ct_X5_leastSteps (V_l1 : VC_l1) (V_l2 : VC_l2) {l : Launch} {E : Ev}   (f : Fn) (a1 : Int32) (hpre : Pre_X5_leastSteps f a1) : CT l E layC yX5_leastSteps cX5_leastSteps 4 (some .int) 5 [.ref (E.2.1 37), .int a1] f (pI (Post_X5_leastSteps f a1)) := by
  refine CT.of (by decide +kernel) (Nat.le_of_ble_eq_true rfl) (fun Z hl9 hE9 hp9 C => ?_)
  subst hl9
  subst hE9
  exact wk_X5_leastSteps V_l1 V_l2 C   f a1 (by rw [hp9]; exact V_l2.2.2.2.2.2.2.2.2.2.2.2.2.2.2.2.2.2.2.1  f a1  hpre)
set_option maxHeartbeats 4000000 in
set_option maxRecDepth 100000 in
theorem wk_X5_gatherFalls_L73 (V_l1 : VC_l1) (V_l2 : VC_l2) {Z : Zt}  (C : CX Z layC RX5 cX5_gatherFalls 3 (some .int) 4)     (f : Fn)  (h : wp_X5_gatherFalls_L73   f  (zp Z)) : GG Z f [(0, .ref (zad Z 37))] 73 [] := by
  refine g_aload_n C rfl dX5_gatherFalls_73 rfl ?_
  refine fg_X5_129I (k := 37) (x := (f 37 5)) C rfl rfl rfl dX5_gatherFalls_74 rfl ?_
  exact g_iret C dX5_gatherFalls_77 h
set_option maxHeartbeats 4000000 in
set_option maxRecDepth 100000 in
theorem wk_X5_gatherFalls_L67 (V_l1 : VC_l1) (V_l2 : VC_l2) {Z : Zt}  (C : CX Z layC RX5 cX5_gatherFalls 3 (some .int) 4)   {K7 : Fn → Int32 → Int32 → Prop} (hK7 : ∀ (f : Fn) (x1 : Int32) (x2 : Int32), K7 f x1 x2 → GG Z f [(0, .ref (zad Z 37)), (1, .int x1), (2, .int x2)] 7 []) (f : Fn) (x1 : Int32) (x2 : Int32) (h : wp_X5_gatherFalls_L67  K7 f x1 x2 (zp Z)) : GG Z f [(0, .ref (zad Z 37)), (1, .int x1), (2, .int x2)] 67 [] := by
  refine g_iinc (lv' := [(2, .int (x2 + (1 : Int32))), (0, .ref (zad Z 37)), (1, .int x1)]) C dX5_gatherFalls_67 rfl (inc_1 _) (by decide) rfl rfl ?_
  refine g_goto (q := 7) C dX5_gatherFalls_70 (by decide) ?_
  refine g_lps [0, 1, 2] rfl ?_
  exact hK7 _ _ _ h
set_option maxHeartbeats 4000000 in
set_option maxRecDepth 100000 in
theorem wkb_X5_gatherFalls_L7 (V_l1 : VC_l1) (V_l2 : VC_l2) {Z : Zt}  (C : CX Z layC RX5 cX5_gatherFalls 3 (some .int) 4)   {K7 : Fn → Int32 → Int32 → Prop} (hK7 : ∀ (f : Fn) (x1 : Int32) (x2 : Int32), K7 f x1 x2 → GG Z f [(0, .ref (zad Z 37)), (1, .int x1), (2, .int x2)] 7 []) (f : Fn) (x1 : Int32) (x2 : Int32) (h : wpb_X5_gatherFalls_L7   K7 f x1 x2 (zp Z)) : GG Z f [(0, .ref (zad Z 37)), (1, .int x1), (2, .int x2)] 7 [] := by
  refine g_iload_n C rfl dX5_gatherFalls_7 rfl ?_
  refine g_iload_n C rfl dX5_gatherFalls_8 rfl ?_
  refine g_icmp_ge (tgt := 73) C dX5_gatherFalls_9 (by decide) rfl (fun hc1 => ?_) (fun hc1 => ?_)
  · replace h := h.1 hc1
    refine g_lps [0] rfl ?_
    exact wk_X5_gatherFalls_L73 V_l1 V_l2  C    _  h
  · replace h := h.2 hc1
    refine g_aload_n C rfl dX5_gatherFalls_12 rfl ?_
    refine fg_X5_129I (k := 37) (x := (f 37 5)) C rfl rfl rfl dX5_gatherFalls_13 rfl ?_
    refine g_if_lt (tgt := 73) C dX5_gatherFalls_16 (by decide) rfl (fun hc2 => ?_) (fun hc2 => ?_)
    · replace h := h.1 hc2
      refine g_lps [0] rfl ?_
      exact wk_X5_gatherFalls_L73 V_l1 V_l2  C    _  h
    · replace h := h.2 hc2
      refine g_aload_n C rfl dX5_gatherFalls_19 rfl ?_
      refine fg_X5_129I (k := 37) (x := (f 37 5)) C rfl rfl rfl dX5_gatherFalls_20 rfl ?_
      refine g_bipush C kb_60 dX5_gatherFalls_23 rfl ?_
      refine g_icmp_ge (tgt := 73) C dX5_gatherFalls_25 (by decide) rfl (fun hc3 => ?_) (fun hc3 => ?_)
      · replace h := h.1 hc3
        refine g_lps [0] rfl ?_
        exact wk_X5_gatherFalls_L73 V_l1 V_l2  C    _  h
      · replace h := h.2 hc3
        refine g_aload_n C rfl dX5_gatherFalls_28 rfl ?_
        refine g_aload_n C rfl dX5_gatherFalls_29 rfl ?_
        refine fg_X5_32R (k := 37) (p := 1) C rfl rfl dX5_gatherFalls_30 rfl ?_
        refine fg_X5_108I (k := 1) (x := (f 1 5)) C rfl rfl rfl dX5_gatherFalls_33 rfl ?_
        refine g_iload_n C rfl dX5_gatherFalls_36 rfl ?_
        refine g_iadd C dX5_gatherFalls_37 rfl ?_
        refine g_callVI C tw_560 tw_501 tw_502 tw_6 tw_503 hy_X5_isCaught (by decide) (by decide) rfl (Nat.le_of_ble_eq_true rfl) rfl rfl (ct_X5_isCaught V_l1 V_l2   f ((f 1 5) + x2) ) dX5_gatherFalls_38 rfl rfl (fun r4 f5 hp6 => ?_)
        replace h := h r4 f5 hp6
        refine g_if_ne (tgt := 67) C dX5_gatherFalls_41 (by decide) rfl (fun hc7 => ?_) (fun hc7 => ?_)
        · replace h := h.1 hc7
          exact wk_X5_gatherFalls_L67 V_l1 V_l2  C   hK7 _ _ _ h
        · replace h := h.2 hc7
          refine g_aload_n C rfl dX5_gatherFalls_44 rfl ?_
          refine fg_X5_28R (k := 37) (p := 41) C rfl rfl dX5_gatherFalls_45 rfl ?_
          refine g_aload_n C rfl dX5_gatherFalls_48 rfl ?_
          refine fg_X5_129I (k := 37) (x := (f5 37 5)) C rfl rfl rfl dX5_gatherFalls_49 rfl ?_
          refine g_aload_n C rfl dX5_gatherFalls_52 rfl ?_
          refine fg_X5_80I (k := 37) (x := (f5 37 8)) C rfl rfl rfl dX5_gatherFalls_53 rfl ?_
          have hs8 := h.1
          replace h := h.2
          refine g_iastx (k := 41) (j := (f5 37 5).toNatClampNeg) C rfl hs8 rfl dX5_gatherFalls_56 rfl ?_
          refine g_aload_n C rfl dX5_gatherFalls_57 rfl ?_
          refine g_dup C rfl dX5_gatherFalls_58 rfl ?_
          refine fg_X5_129I (k := 37) (x := (f5 37 5)) C rfl rfl (by simp [up2, upd]) dX5_gatherFalls_59 rfl ?_
          refine g_iconst C ki_1 dX5_gatherFalls_62 rfl ?_
          refine g_iadd C dX5_gatherFalls_63 rfl ?_
          refine fp_X5_129 (k := 37) C rfl rfl (Nat.le_of_ble_eq_true rfl) dX5_gatherFalls_64 rfl ?_
          exact wk_X5_gatherFalls_L67 V_l1 V_l2  C   hK7 _ _ _ h
set_option maxHeartbeats 4000000 in
set_option maxRecDepth 100000 in
theorem wk_X5_gatherFalls_L7 (V_l1 : VC_l1) (V_l2 : VC_l2) {Z : Zt}  (C : CX Z layC RX5 cX5_gatherFalls 3 (some .int) 4)     (f : Fn) (x1 : Int32) (x2 : Int32) (h : wp_X5_gatherFalls_L7   f x1 x2 (zp Z)) : GG Z f [(0, .ref (zad Z 37)), (1, .int x1), (2, .int x2)] 7 [] := by
  obtain ⟨I, μ, h0, hs⟩ := h
  suffices H : ∀ (N : Nat) (f : Fn) (x1 : Int32) (x2 : Int32), μ f x1 x2 < N → I f x1 x2 → GG Z f [(0, .ref (zad Z 37)), (1, .int x1), (2, .int x2)] 7 [] from H _ f x1 x2 (Nat.lt_succ_self _) h0
  clear h0
  intro N
  induction N with
  | zero => intro f x1 x2 hm; exact absurd hm (Nat.not_lt_zero _)
  | succ N ih =>
    intro f x1 x2 hm hi
    exact wkb_X5_gatherFalls_L7 V_l1 V_l2  C    (fun f9 x19 x29 hk => ih f9 x19 x29 (Nat.lt_of_lt_of_le hk.2 (Nat.le_of_lt_succ hm)) hk.1) f x1 x2 (hs f x1 x2 hi)
set_option maxHeartbeats 4000000 in
set_option maxRecDepth 100000 in
theorem wk_X5_gatherFalls (V_l1 : VC_l1) (V_l2 : VC_l2) {Z : Zt}  (C : CX Z layC RX5 cX5_gatherFalls 3 (some .int) 4)     (f : Fn) (a1 : Int32) (h : wp_X5_gatherFalls  f a1 (zp Z)) : GG Z f [(0, .ref (zad Z 37)), (1, .int a1)] 0 [] := by
  refine g_aload_n C rfl dX5_gatherFalls_0 rfl ?_
  refine g_iconst C ki_0 dX5_gatherFalls_1 rfl ?_
  refine fp_X5_129 (k := 37) C rfl rfl (Nat.le_of_ble_eq_true rfl) dX5_gatherFalls_2 rfl ?_
  refine g_iconst C ki_0 dX5_gatherFalls_5 rfl ?_
  refine g_istore_n (lv' := [(2, .int (0 : Int32)), (0, .ref (zad Z 37)), (1, .int a1)]) C dX5_gatherFalls_6 (by decide) rfl rfl ?_
  refine g_lps [0, 1, 2] rfl ?_
  exact wk_X5_gatherFalls_L7 V_l1 V_l2  C    _ _ _ h
set_option maxRecDepth 100000 in
theorem ct_X5_gatherFalls (V_l1 : VC_l1) (V_l2 : VC_l2) {l : Launch} {E : Ev}   (f : Fn) (a1 : Int32) (hpre : Pre_X5_gatherFalls f a1) : CT l E layC yX5_gatherFalls cX5_gatherFalls 3 (some .int) 4 [.ref (E.2.1 37), .int a1] f (pI (Post_X5_gatherFalls f a1)) := by
  refine CT.of (by decide +kernel) (Nat.le_of_ble_eq_true rfl) (fun Z hl9 hE9 hp9 C => ?_)
  subst hl9
  subst hE9
  exact wk_X5_gatherFalls V_l1 V_l2 C   f a1 (by rw [hp9]; exact V_l2.2.2.2.2.2.2.2.2.2.2.2.2.2.2.2.2.2.2.2.1  f a1  hpre)
set_option maxHeartbeats 4000000 in
set_option maxRecDepth 100000 in
theorem wkb_X5_harmTogether_L4 (V_l1 : VC_l1) (V_l2 : VC_l2) {Z : Zt}  (C : CX Z layC RX5 cX5_harmTogether 4 (some .int) 1)   {K4 : Fn → Int32 → Int32 → Int32 → Prop} (hK4 : ∀ (f : Fn) (x1 : Int32) (x2 : Int32) (x3 : Int32), K4 f x1 x2 x3 → GG Z f [(0, .ref (zad Z 37)), (1, .int x1), (2, .int x2), (3, .int x3)] 4 []) (f : Fn) (x1 : Int32) (x2 : Int32) (x3 : Int32) (h : wpb_X5_harmTogether_L4   K4 f x1 x2 x3 (zp Z)) : GG Z f [(0, .ref (zad Z 37)), (1, .int x1), (2, .int x2), (3, .int x3)] 4 [] := by
  refine g_iload_n C rfl dX5_harmTogether_4 rfl ?_
  refine g_aload_n C rfl dX5_harmTogether_5 rfl ?_
  refine fg_X5_129I (k := 37) (x := (f 37 5)) C rfl rfl rfl dX5_harmTogether_6 rfl ?_
  refine g_icmp_ge (tgt := 45) C dX5_harmTogether_9 (by decide) rfl (fun hc1 => ?_) (fun hc1 => ?_)
  · replace h := h.1 hc1
    refine g_iload_n C rfl dX5_harmTogether_45 rfl ?_
    exact g_iret C dX5_harmTogether_46 h
  · replace h := h.2 hc1
    refine g_iload_n C rfl dX5_harmTogether_12 rfl ?_
    refine g_bipush C kb_60 dX5_harmTogether_13 rfl ?_
    refine g_icmp_ge (tgt := 45) C dX5_harmTogether_15 (by decide) rfl (fun hc2 => ?_) (fun hc2 => ?_)
    · replace h := h.1 hc2
      refine g_iload_n C rfl dX5_harmTogether_45 rfl ?_
      exact g_iret C dX5_harmTogether_46 h
    · replace h := h.2 hc2
      refine g_iload_n C rfl dX5_harmTogether_18 rfl ?_
      refine g_aload_n C rfl dX5_harmTogether_19 rfl ?_
      refine fg_X5_24R (k := 37) (p := 40) C rfl rfl dX5_harmTogether_20 rfl ?_
      refine g_aload_n C rfl dX5_harmTogether_23 rfl ?_
      refine fg_X5_28R (k := 37) (p := 41) C rfl rfl dX5_harmTogether_24 rfl ?_
      refine g_iload_n C rfl dX5_harmTogether_27 rfl ?_
      have hs3 := h.1
      replace h := h.2
      refine g_ialdx (k := 41) (j := x3.toNatClampNeg) (x := (f 41 x3.toNatClampNeg)) C rfl hs3 rfl rfl dX5_harmTogether_28 rfl ?_
      refine g_iload_n C rfl dX5_harmTogether_29 rfl ?_
      refine g_isub C dX5_harmTogether_30 rfl ?_
      refine g_callSD C tw_518 tw_349 tw_11 tw_350 hy_J9_abs_0f7a4 (by decide) (by decide) rfl (Nat.le_of_ble_eq_true rfl) (ct_J9_abs_0f7a4 V_l1   f ((f 41 x3.toNatClampNeg) - x1) ) dX5_harmTogether_31 rfl rfl ?_
      refine g_callVD C tw_632 tw_388 tw_389 tw_5 tw_390 hy_X0_harm (by decide) (by decide) rfl (Nat.le_of_ble_eq_true rfl) rfl rfl (ct_X0_harm V_l1 40 rfl f (Val_J9_abs_0f7a4 f ((f 41 x3.toNatClampNeg) - x1)) ) dX5_harmTogether_34 rfl rfl ?_
      refine g_iadd C dX5_harmTogether_37 rfl ?_
      refine g_istore_n (lv' := [(2, .int (x2 + (Val_X0_harm 40 f (Val_J9_abs_0f7a4 f ((f 41 x3.toNatClampNeg) - x1))))), (0, .ref (zad Z 37)), (1, .int x1), (3, .int x3)]) C dX5_harmTogether_38 (by decide) rfl rfl ?_
      refine g_iinc (lv' := [(3, .int (x3 + (1 : Int32))), (2, .int (x2 + (Val_X0_harm 40 f (Val_J9_abs_0f7a4 f ((f 41 x3.toNatClampNeg) - x1))))), (0, .ref (zad Z 37)), (1, .int x1)]) C dX5_harmTogether_39 rfl (inc_1 _) (by decide) rfl rfl ?_
      refine g_goto (q := 4) C dX5_harmTogether_42 (by decide) ?_
      refine g_lps [0, 1, 2, 3] rfl ?_
      exact hK4 _ _ _ _ h
set_option maxHeartbeats 4000000 in
set_option maxRecDepth 100000 in
theorem wk_X5_harmTogether_L4 (V_l1 : VC_l1) (V_l2 : VC_l2) {Z : Zt}  (C : CX Z layC RX5 cX5_harmTogether 4 (some .int) 1)     (f : Fn) (x1 : Int32) (x2 : Int32) (x3 : Int32) (h : wp_X5_harmTogether_L4   f x1 x2 x3 (zp Z)) : GG Z f [(0, .ref (zad Z 37)), (1, .int x1), (2, .int x2), (3, .int x3)] 4 [] := by
  obtain ⟨I, μ, h0, hs⟩ := h
  suffices H : ∀ (N : Nat) (f : Fn) (x1 : Int32) (x2 : Int32) (x3 : Int32), μ f x1 x2 x3 < N → I f x1 x2 x3 → GG Z f [(0, .ref (zad Z 37)), (1, .int x1), (2, .int x2), (3, .int x3)] 4 [] from H _ f x1 x2 x3 (Nat.lt_succ_self _) h0
  clear h0
  intro N
  induction N with
  | zero => intro f x1 x2 x3 hm; exact absurd hm (Nat.not_lt_zero _)
  | succ N ih =>
    intro f x1 x2 x3 hm hi
    exact wkb_X5_harmTogether_L4 V_l1 V_l2  C    (fun f9 x19 x29 x39 hk => ih f9 x19 x29 x39 (Nat.lt_of_lt_of_le hk.2 (Nat.le_of_lt_succ hm)) hk.1) f x1 x2 x3 (hs f x1 x2 x3 hi)
set_option maxHeartbeats 4000000 in
set_option maxRecDepth 100000 in
theorem wk_X5_harmTogether (V_l1 : VC_l1) (V_l2 : VC_l2) {Z : Zt}  (C : CX Z layC RX5 cX5_harmTogether 4 (some .int) 1)     (f : Fn) (a1 : Int32) (h : wp_X5_harmTogether  f a1 (zp Z)) : GG Z f [(0, .ref (zad Z 37)), (1, .int a1)] 0 [] := by
  refine g_iconst C ki_0 dX5_harmTogether_0 rfl ?_
  refine g_istore_n (lv' := [(2, .int (0 : Int32)), (0, .ref (zad Z 37)), (1, .int a1)]) C dX5_harmTogether_1 (by decide) rfl rfl ?_
  refine g_iconst C ki_0 dX5_harmTogether_2 rfl ?_
  refine g_istore_n (lv' := [(3, .int (0 : Int32)), (2, .int (0 : Int32)), (0, .ref (zad Z 37)), (1, .int a1)]) C dX5_harmTogether_3 (by decide) rfl rfl ?_
  refine g_lps [0, 1, 2, 3] rfl ?_
  exact wk_X5_harmTogether_L4 V_l1 V_l2  C    _ _ _ _ h
set_option maxRecDepth 100000 in
theorem ct_X5_harmTogether (V_l1 : VC_l1) (V_l2 : VC_l2) {l : Launch} {E : Ev}   (f : Fn) (a1 : Int32) (hpre : Pre_X5_harmTogether f a1) : CT l E layC yX5_harmTogether cX5_harmTogether 4 (some .int) 1 [.ref (E.2.1 37), .int a1] f (pI (fun r9 f9 => r9 = Val_X5_harmTogether f a1 ∧ f9 = f)) := by
  refine CT.of (by decide +kernel) (Nat.le_of_ble_eq_true rfl) (fun Z hl9 hE9 hp9 C => ?_)
  subst hl9
  subst hE9
  exact wk_X5_harmTogether V_l1 V_l2 C   f a1 (by rw [hp9]; exact V_l2.2.2.2.2.2.2.2.2.2.2.2.2.2.2.2.2.2.2.2.2.1  f a1  hpre)
set_option maxHeartbeats 4000000 in
set_option maxRecDepth 100000 in
theorem wk_X5_leastHarmPlace_L37 (V_l1 : VC_l1) (V_l2 : VC_l2) {Z : Zt}  (C : CX Z layC RX5 cX5_leastHarmPlace 5 (some .int) 2)   {K12 : Fn → Int32 → Int32 → Int32 → Prop} (hK12 : ∀ (f : Fn) (x1 : Int32) (x2 : Int32) (x3 : Int32), K12 f x1 x2 x3 → GG Z f [(0, .ref (zad Z 37)), (1, .int x1), (2, .int x2), (3, .int x3)] 12 []) (f : Fn) (x1 : Int32) (x2 : Int32) (x3 : Int32) (h : wp_X5_leastHarmPlace_L37  K12 f x1 x2 x3 (zp Z)) : GG Z f [(0, .ref (zad Z 37)), (1, .int x1), (2, .int x2), (3, .int x3)] 37 [] := by
  refine g_iinc (lv' := [(3, .int (x3 + (1 : Int32))), (0, .ref (zad Z 37)), (1, .int x1), (2, .int x2)]) C dX5_leastHarmPlace_37 rfl (inc_1 _) (by decide) rfl rfl ?_
  refine g_goto (q := 12) C dX5_leastHarmPlace_40 (by decide) ?_
  refine g_lps [0, 1, 2, 3] rfl ?_
  exact hK12 _ _ _ _ h
set_option maxHeartbeats 4000000 in
set_option maxRecDepth 100000 in
theorem wkb_X5_leastHarmPlace_L12 (V_l1 : VC_l1) (V_l2 : VC_l2) {Z : Zt}  (C : CX Z layC RX5 cX5_leastHarmPlace 5 (some .int) 2)   {K12 : Fn → Int32 → Int32 → Int32 → Prop} (hK12 : ∀ (f : Fn) (x1 : Int32) (x2 : Int32) (x3 : Int32), K12 f x1 x2 x3 → GG Z f [(0, .ref (zad Z 37)), (1, .int x1), (2, .int x2), (3, .int x3)] 12 []) (f : Fn) (x1 : Int32) (x2 : Int32) (x3 : Int32) (h : wpb_X5_leastHarmPlace_L12   K12 f x1 x2 x3 (zp Z)) : GG Z f [(0, .ref (zad Z 37)), (1, .int x1), (2, .int x2), (3, .int x3)] 12 [] := by
  refine g_iload_n C rfl dX5_leastHarmPlace_12 rfl ?_
  refine g_sipush C ks_299 dX5_leastHarmPlace_13 rfl ?_
  refine g_icmp_gt (tgt := 43) C dX5_leastHarmPlace_16 (by decide) rfl (fun hc2 => ?_) (fun hc2 => ?_)
  · replace h := h.1 hc2
    refine g_iload_n C rfl dX5_leastHarmPlace_43 rfl ?_
    exact g_iret C dX5_leastHarmPlace_44 h
  · replace h := h.2 hc2
    refine g_aload_n C rfl dX5_leastHarmPlace_19 rfl ?_
    refine g_iload_n C rfl dX5_leastHarmPlace_20 rfl ?_
    have hs3 := h.1
    replace h := h.2
    refine g_callVD C tw_628 tw_629 tw_630 tw_6 tw_631 hy_X5_harmTogether (by decide) (by decide) rfl (Nat.le_of_ble_eq_true rfl) rfl rfl (ct_X5_harmTogether V_l1 V_l2   f x3 hs3) dX5_leastHarmPlace_21 rfl rfl ?_
    refine g_istore (lv' := [(4, .int (Val_X5_harmTogether f x3)), (0, .ref (zad Z 37)), (1, .int x1), (2, .int x2), (3, .int x3)]) C dX5_leastHarmPlace_24 (by decide) rfl rfl ?_
    refine g_iload C rfl dX5_leastHarmPlace_26 rfl ?_
    refine g_iload_n C rfl dX5_leastHarmPlace_28 rfl ?_
    refine g_icmp_ge (tgt := 37) C dX5_leastHarmPlace_29 (by decide) rfl (fun hc4 => ?_) (fun hc4 => ?_)
    · replace h := h.1 hc4
      refine g_lps [0, 1, 2, 3] rfl ?_
      exact wk_X5_leastHarmPlace_L37 V_l1 V_l2  C   hK12 _ _ _ _ h
    · replace h := h.2 hc4
      refine g_iload C rfl dX5_leastHarmPlace_32 rfl ?_
      refine g_istore_n (lv' := [(2, .int (Val_X5_harmTogether f x3)), (4, .int (Val_X5_harmTogether f x3)), (0, .ref (zad Z 37)), (1, .int x1), (3, .int x3)]) C dX5_leastHarmPlace_34 (by decide) rfl rfl ?_
      refine g_iload_n C rfl dX5_leastHarmPlace_35 rfl ?_
      refine g_istore_n (lv' := [(1, .int x3), (2, .int (Val_X5_harmTogether f x3)), (4, .int (Val_X5_harmTogether f x3)), (0, .ref (zad Z 37)), (3, .int x3)]) C dX5_leastHarmPlace_36 (by decide) rfl rfl ?_
      refine g_lps [0, 1, 2, 3] rfl ?_
      exact wk_X5_leastHarmPlace_L37 V_l1 V_l2  C   hK12 _ _ _ _ h
set_option maxHeartbeats 4000000 in
set_option maxRecDepth 100000 in
theorem wk_X5_leastHarmPlace_L12 (V_l1 : VC_l1) (V_l2 : VC_l2) {Z : Zt}  (C : CX Z layC RX5 cX5_leastHarmPlace 5 (some .int) 2)     (f : Fn) (x1 : Int32) (x2 : Int32) (x3 : Int32) (h : wp_X5_leastHarmPlace_L12   f x1 x2 x3 (zp Z)) : GG Z f [(0, .ref (zad Z 37)), (1, .int x1), (2, .int x2), (3, .int x3)] 12 [] := by
  obtain ⟨I, μ, h0, hs⟩ := h
  suffices H : ∀ (N : Nat) (f : Fn) (x1 : Int32) (x2 : Int32) (x3 : Int32), μ f x1 x2 x3 < N → I f x1 x2 x3 → GG Z f [(0, .ref (zad Z 37)), (1, .int x1), (2, .int x2), (3, .int x3)] 12 [] from H _ f x1 x2 x3 (Nat.lt_succ_self _) h0
  clear h0
  intro N
  induction N with
  | zero => intro f x1 x2 x3 hm; exact absurd hm (Nat.not_lt_zero _)
  | succ N ih =>
    intro f x1 x2 x3 hm hi
    exact wkb_X5_leastHarmPlace_L12 V_l1 V_l2  C    (fun f9 x19 x29 x39 hk => ih f9 x19 x29 x39 (Nat.lt_of_lt_of_le hk.2 (Nat.le_of_lt_succ hm)) hk.1) f x1 x2 x3 (hs f x1 x2 x3 hi)
set_option maxHeartbeats 4000000 in
set_option maxRecDepth 100000 in
theorem wk_X5_leastHarmPlace (V_l1 : VC_l1) (V_l2 : VC_l2) {Z : Zt}  (C : CX Z layC RX5 cX5_leastHarmPlace 5 (some .int) 2)     (f : Fn)  (h : wp_X5_leastHarmPlace  f  (zp Z)) : GG Z f [(0, .ref (zad Z 37))] 0 [] := by
  refine g_bipush C kb_m99 dX5_leastHarmPlace_0 rfl ?_
  refine g_istore_n (lv' := [(1, .int (-99 : Int32)), (0, .ref (zad Z 37))]) C dX5_leastHarmPlace_2 (by decide) rfl rfl ?_
  refine g_aload_n C rfl dX5_leastHarmPlace_3 rfl ?_
  refine g_iload_n C rfl dX5_leastHarmPlace_4 rfl ?_
  have hs1 := h.1
  replace h := h.2
  refine g_callVD C tw_628 tw_629 tw_630 tw_6 tw_631 hy_X5_harmTogether (by decide) (by decide) rfl (Nat.le_of_ble_eq_true rfl) rfl rfl (ct_X5_harmTogether V_l1 V_l2   f (-99 : Int32) hs1) dX5_leastHarmPlace_5 rfl rfl ?_
  refine g_istore_n (lv' := [(2, .int (Val_X5_harmTogether f (-99 : Int32))), (1, .int (-99 : Int32)), (0, .ref (zad Z 37))]) C dX5_leastHarmPlace_8 (by decide) rfl rfl ?_
  refine g_bipush C kb_m98 dX5_leastHarmPlace_9 rfl ?_
  refine g_istore_n (lv' := [(3, .int (-98 : Int32)), (2, .int (Val_X5_harmTogether f (-99 : Int32))), (1, .int (-99 : Int32)), (0, .ref (zad Z 37))]) C dX5_leastHarmPlace_11 (by decide) rfl rfl ?_
  refine g_lps [0, 1, 2, 3] rfl ?_
  exact wk_X5_leastHarmPlace_L12 V_l1 V_l2  C    _ _ _ _ h
set_option maxRecDepth 100000 in
theorem ct_X5_leastHarmPlace (V_l1 : VC_l1) (V_l2 : VC_l2) {l : Launch} {E : Ev}   (f : Fn)  (hpre : Pre_X5_leastHarmPlace f) : CT l E layC yX5_leastHarmPlace cX5_leastHarmPlace 5 (some .int) 2 [.ref (E.2.1 37)] f (pI (fun r9 f9 => r9 = Val_X5_leastHarmPlace f ∧ f9 = f)) := by
  refine CT.of (by decide +kernel) (Nat.le_of_ble_eq_true rfl) (fun Z hl9 hE9 hp9 C => ?_)
  subst hl9
  subst hE9
  exact wk_X5_leastHarmPlace V_l1 V_l2 C   f  (by rw [hp9]; exact V_l2.2.2.2.2.2.2.2.2.2.2.2.2.2.2.2.2.2.2.2.2.2.1  f   hpre)
set_option maxHeartbeats 4000000 in
set_option maxRecDepth 100000 in
theorem wkb_X5_isAsTold_L2 (V_l1 : VC_l1) (V_l2 : VC_l2) {Z : Zt}  (C : CX Z layC RX5 cX5_isAsTold 3 (some .boolean) 3) (o : Nat) (ho : isSh o) {K2 : Fn → Int32 → Prop} (hK2 : ∀ (f : Fn) (x2 : Int32), K2 f x2 → GG Z f [(0, .ref (zad Z 37)), (1, .ref (zad Z o)), (2, .int x2)] 2 []) (f : Fn) (x2 : Int32) (h : wpb_X5_isAsTold_L2 o  K2 f x2 (zp Z)) : GG Z f [(0, .ref (zad Z 37)), (1, .ref (zad Z o)), (2, .int x2)] 2 [] := by
  refine g_iload_n C rfl dX5_isAsTold_2 rfl ?_
  refine g_aload_n C rfl dX5_isAsTold_3 rfl ?_
  refine fg_X5_138I (k := o) (x := (f o 2)) C ho.1 rfl rfl dX5_isAsTold_4 rfl ?_
  refine g_icmp_ge (tgt := 45) C dX5_isAsTold_7 (by decide) rfl (fun hc1 => ?_) (fun hc1 => ?_)
  · replace h := h.1 hc1
    refine g_iconst C ki_1 dX5_isAsTold_45 rfl ?_
    exact g_zret C (Or.inr rfl) dX5_isAsTold_46 h
  · replace h := h.2 hc1
    refine g_aload_n C rfl dX5_isAsTold_10 rfl ?_
    refine g_aload_n C rfl dX5_isAsTold_11 rfl ?_
    refine fg_X5_32R (k := 37) (p := 1) C rfl rfl dX5_isAsTold_12 rfl ?_
    refine fg_X5_108I (k := 1) (x := (f 1 5)) C rfl rfl rfl dX5_isAsTold_15 rfl ?_
    refine g_iload_n C rfl dX5_isAsTold_18 rfl ?_
    refine g_iadd C dX5_isAsTold_19 rfl ?_
    refine g_iconst C ki_0 dX5_isAsTold_20 rfl ?_
    refine g_callVV C tw_504 tw_505 tw_506 tw_6 tw_507 hy_X5_fly (by decide) (by decide) rfl (Nat.le_of_ble_eq_true rfl) rfl rfl (ct_X5_fly V_l1 V_l2   f ((f 1 5) + x2) (0 : Int32) ) dX5_isAsTold_21 rfl rfl (fun f2 hp3 => ?_)
    replace h := h f2 hp3
    refine g_aload_n C rfl dX5_isAsTold_24 rfl ?_
    refine g_iconst C ki_0 dX5_isAsTold_25 rfl ?_
    refine g_callVD C tw_510 tw_511 tw_512 tw_6 tw_513 hy_X5_off (by decide) (by decide) rfl (Nat.le_of_ble_eq_true rfl) rfl rfl (ct_X5_off V_l1 V_l2   f2 (0 : Int32) ) dX5_isAsTold_26 rfl rfl ?_
    refine g_aload_n C rfl dX5_isAsTold_29 rfl ?_
    refine g_iload_n C rfl dX5_isAsTold_30 rfl ?_
    have hs4 := h.1
    replace h := h.2
    refine g_callVD C tw_654 tw_655 tw_656 tw_9 tw_657 hy_X3_read (by decide) (by decide) rfl (Nat.le_of_ble_eq_true rfl) ho.1 rfl (ct_X3_read V_l1 o ho f2 x2 hs4) dX5_isAsTold_31 rfl rfl ?_
    refine g_icmp_eq (tgt := 39) C dX5_isAsTold_34 (by decide) rfl (fun hc5 => ?_) (fun hc5 => ?_)
    · replace h := h.1 hc5
      refine g_iinc (lv' := [(2, .int (x2 + (1 : Int32))), (0, .ref (zad Z 37)), (1, .ref (zad Z o))]) C dX5_isAsTold_39 rfl (inc_1 _) (by decide) rfl rfl ?_
      refine g_goto (q := 2) C dX5_isAsTold_42 (by decide) ?_
      refine g_lps [0, 1, 2] rfl ?_
      exact hK2 _ _ h
    · replace h := h.2 hc5
      refine g_iconst C ki_0 dX5_isAsTold_37 rfl ?_
      exact g_zret C (Or.inl rfl) dX5_isAsTold_38 h
set_option maxHeartbeats 4000000 in
set_option maxRecDepth 100000 in
theorem wk_X5_isAsTold_L2 (V_l1 : VC_l1) (V_l2 : VC_l2) {Z : Zt}  (C : CX Z layC RX5 cX5_isAsTold 3 (some .boolean) 3) (o : Nat) (ho : isSh o)   (f : Fn) (x2 : Int32) (h : wp_X5_isAsTold_L2 o  f x2 (zp Z)) : GG Z f [(0, .ref (zad Z 37)), (1, .ref (zad Z o)), (2, .int x2)] 2 [] := by
  obtain ⟨I, μ, h0, hs⟩ := h
  suffices H : ∀ (N : Nat) (f : Fn) (x2 : Int32), μ f x2 < N → I f x2 → GG Z f [(0, .ref (zad Z 37)), (1, .ref (zad Z o)), (2, .int x2)] 2 [] from H _ f x2 (Nat.lt_succ_self _) h0
  clear h0
  intro N
  induction N with
  | zero => intro f x2 hm; exact absurd hm (Nat.not_lt_zero _)
  | succ N ih =>
    intro f x2 hm hi
    exact wkb_X5_isAsTold_L2 V_l1 V_l2  C o ho  (fun f9 x29 hk => ih f9 x29 (Nat.lt_of_lt_of_le hk.2 (Nat.le_of_lt_succ hm)) hk.1) f x2 (hs f x2 hi)
set_option maxHeartbeats 4000000 in
set_option maxRecDepth 100000 in
theorem wk_X5_isAsTold (V_l1 : VC_l1) (V_l2 : VC_l2) {Z : Zt}  (C : CX Z layC RX5 cX5_isAsTold 3 (some .boolean) 3) (o : Nat) (ho : isSh o)   (f : Fn)  (h : wp_X5_isAsTold o f  (zp Z)) : GG Z f [(0, .ref (zad Z 37)), (1, .ref (zad Z o))] 0 [] := by
  refine g_iconst C ki_0 dX5_isAsTold_0 rfl ?_
  refine g_istore_n (lv' := [(2, .int (0 : Int32)), (0, .ref (zad Z 37)), (1, .ref (zad Z o))]) C dX5_isAsTold_1 (by decide) rfl rfl ?_
  refine g_lps [0, 1, 2] rfl ?_
  exact wk_X5_isAsTold_L2 V_l1 V_l2  C o ho  _ _ h
set_option maxRecDepth 100000 in
theorem ct_X5_isAsTold (V_l1 : VC_l1) (V_l2 : VC_l2) {l : Launch} {E : Ev} (o : Nat) (ho : isSh o) (f : Fn)  (hpre : Pre_X5_isAsTold o f) : CT l E layC yX5_isAsTold cX5_isAsTold 3 (some .boolean) 3 [.ref (E.2.1 37), .ref (E.2.1 o)] f (pI (Post_X5_isAsTold o f)) := by
  refine CT.of (by decide +kernel) (Nat.le_of_ble_eq_true rfl) (fun Z hl9 hE9 hp9 C => ?_)
  subst hl9
  subst hE9
  exact wk_X5_isAsTold V_l1 V_l2 C o ho f  (by rw [hp9]; exact V_l2.2.2.2.2.2.2.2.2.2.2.2.2.2.2.2.2.2.2.2.2.2.2.1 o f  ho hpre)
set_option maxHeartbeats 4000000 in
set_option maxRecDepth 100000 in
theorem wkb_X5_firstPhase_L2 (V_l1 : VC_l1) (V_l2 : VC_l2) {Z : Zt}  (C : CX Z layC RX5 cX5_firstPhase 4 (some .int) 4) (o : Nat) (ho : isSh o) {K2 : Fn → Int32 → Prop} (hK2 : ∀ (f : Fn) (x3 : Int32), K2 f x3 → GG Z f [(0, .ref (zad Z 37)), (1, .ref (zad Z o)), (3, .int x3)] 2 []) (f : Fn) (x3 : Int32) (h : wpb_X5_firstPhase_L2 o  K2 f x3 (zp Z)) : GG Z f [(0, .ref (zad Z 37)), (1, .ref (zad Z o)), (3, .int x3)] 2 [] := by
  refine g_iload_n C rfl dX5_firstPhase_2 rfl ?_
  refine g_aload_n C rfl dX5_firstPhase_3 rfl ?_
  refine fg_X5_18R (k := 37) (p := 39) C rfl rfl dX5_firstPhase_4 rfl ?_
  refine fg_X5_126I (k := 39) (x := (f 39 0)) C rfl rfl rfl dX5_firstPhase_7 rfl ?_
  refine g_icmp_ge (tgt := 37) C dX5_firstPhase_10 (by decide) rfl (fun hc1 => ?_) (fun hc1 => ?_)
  · replace h := h.1 hc1
    refine g_iconst C ki_m1 dX5_firstPhase_37 rfl ?_
    exact g_iret C dX5_firstPhase_38 h
  · replace h := h.2 hc1
    refine g_aload_n C rfl dX5_firstPhase_13 rfl ?_
    refine fg_X5_18R (k := 37) (p := 39) C rfl rfl dX5_firstPhase_14 rfl ?_
    refine g_iload_n C rfl dX5_firstPhase_17 rfl ?_
    refine fp_X5_123 (k := 39) C rfl rfl (Nat.le_of_ble_eq_true rfl) dX5_firstPhase_18 rfl ?_
    refine g_aload_n C rfl dX5_firstPhase_21 rfl ?_
    refine g_aload_n C rfl dX5_firstPhase_22 rfl ?_
    have hs2 := h.1
    replace h := h.2
    refine g_callVI C tw_650 tw_652 tp_11 tw_6 tw_653 hy_X5_isAsTold (by decide) (by decide) rfl (Nat.le_of_ble_eq_true rfl) rfl rfl (ct_X5_isAsTold V_l1 V_l2 o ho (up2 f 39 2 x3) hs2) dX5_firstPhase_23 rfl rfl (fun r3 f4 hp5 => ?_)
    replace h := h r3 f4 hp5
    refine g_if_eq (tgt := 31) C dX5_firstPhase_26 (by decide) rfl (fun hc6 => ?_) (fun hc6 => ?_)
    · replace h := h.1 hc6
      refine g_iinc (lv' := [(3, .int (x3 + (1 : Int32))), (0, .ref (zad Z 37)), (1, .ref (zad Z o))]) C dX5_firstPhase_31 rfl (inc_1 _) (by decide) rfl rfl ?_
      refine g_goto (q := 2) C dX5_firstPhase_34 (by decide) ?_
      refine g_lps [0, 1, 3] rfl ?_
      exact hK2 _ _ h
    · replace h := h.2 hc6
      refine g_iload_n C rfl dX5_firstPhase_29 rfl ?_
      exact g_iret C dX5_firstPhase_30 h
set_option maxHeartbeats 4000000 in
set_option maxRecDepth 100000 in
theorem wk_X5_firstPhase_L2 (V_l1 : VC_l1) (V_l2 : VC_l2) {Z : Zt}  (C : CX Z layC RX5 cX5_firstPhase 4 (some .int) 4) (o : Nat) (ho : isSh o)   (f : Fn) (x3 : Int32) (h : wp_X5_firstPhase_L2 o  f x3 (zp Z)) : GG Z f [(0, .ref (zad Z 37)), (1, .ref (zad Z o)), (3, .int x3)] 2 [] := by
  obtain ⟨I, μ, h0, hs⟩ := h
  suffices H : ∀ (N : Nat) (f : Fn) (x3 : Int32), μ f x3 < N → I f x3 → GG Z f [(0, .ref (zad Z 37)), (1, .ref (zad Z o)), (3, .int x3)] 2 [] from H _ f x3 (Nat.lt_succ_self _) h0
  clear h0
  intro N
  induction N with
  | zero => intro f x3 hm; exact absurd hm (Nat.not_lt_zero _)
  | succ N ih =>
    intro f x3 hm hi
    exact wkb_X5_firstPhase_L2 V_l1 V_l2  C o ho  (fun f9 x39 hk => ih f9 x39 (Nat.lt_of_lt_of_le hk.2 (Nat.le_of_lt_succ hm)) hk.1) f x3 (hs f x3 hi)
set_option maxHeartbeats 4000000 in
set_option maxRecDepth 100000 in
theorem wk_X5_firstPhase (V_l1 : VC_l1) (V_l2 : VC_l2) {Z : Zt}  (C : CX Z layC RX5 cX5_firstPhase 4 (some .int) 4) (o : Nat) (ho : isSh o)   (f : Fn) (a2 : Int32) (h : wp_X5_firstPhase o f a2 (zp Z)) : GG Z f [(0, .ref (zad Z 37)), (1, .ref (zad Z o)), (2, .int a2)] 0 [] := by
  refine g_iload_n C rfl dX5_firstPhase_0 rfl ?_
  refine g_istore_n (lv' := [(3, .int a2), (0, .ref (zad Z 37)), (1, .ref (zad Z o)), (2, .int a2)]) C dX5_firstPhase_1 (by decide) rfl rfl ?_
  refine g_lps [0, 1, 3] rfl ?_
  exact wk_X5_firstPhase_L2 V_l1 V_l2  C o ho  _ _ h
set_option maxRecDepth 100000 in
theorem ct_X5_firstPhase (V_l1 : VC_l1) (V_l2 : VC_l2) {l : Launch} {E : Ev} (o : Nat) (ho : isSh o) (f : Fn) (a2 : Int32) (hpre : Pre_X5_firstPhase o f a2) : CT l E layC yX5_firstPhase cX5_firstPhase 4 (some .int) 4 [.ref (E.2.1 37), .ref (E.2.1 o), .int a2] f (pI (Post_X5_firstPhase o f a2)) := by
  refine CT.of (by decide +kernel) (Nat.le_of_ble_eq_true rfl) (fun Z hl9 hE9 hp9 C => ?_)
  subst hl9
  subst hE9
  exact wk_X5_firstPhase V_l1 V_l2 C o ho f a2 (by rw [hp9]; exact V_l2.2.2.2.2.2.2.2.2.2.2.2.2.2.2.2.2.2.2.2.2.2.2.2.1 o f a2 ho hpre)
set_option maxHeartbeats 4000000 in
set_option maxRecDepth 100000 in
theorem wkb_X5_howManyPhases_L12 (V_l1 : VC_l1) (V_l2 : VC_l2) {Z : Zt}  (C : CX Z layC RX5 cX5_howManyPhases 5 (some .int) 5) (o : Nat) (ho : isSh o) {K12 : Fn → Int32 → Int32 → Int32 → Prop} (hK12 : ∀ (f : Fn) (x2 : Int32) (x3 : Int32) (x4 : Int32), K12 f x2 x3 x4 → GG Z f [(0, .ref (zad Z 37)), (1, .ref (zad Z o)), (2, .int x2), (3, .int x3), (4, .int x4)] 12 []) (f : Fn) (x2 : Int32) (x3 : Int32) (x4 : Int32) (h : wpb_X5_howManyPhases_L12 o  K12 f x2 x3 x4 (zp Z)) : GG Z f [(0, .ref (zad Z 37)), (1, .ref (zad Z o)), (2, .int x2), (3, .int x3), (4, .int x4)] 12 [] := by
  refine g_iload C rfl dX5_howManyPhases_12 rfl ?_
  refine g_bipush C kb_40 dX5_howManyPhases_14 rfl ?_
  refine g_icmp_ge (tgt := 41) C dX5_howManyPhases_16 (by decide) rfl (fun hc5 => ?_) (fun hc5 => ?_)
  · replace h := h.1 hc5
    refine g_iload_n C rfl dX5_howManyPhases_41 rfl ?_
    exact g_iret C dX5_howManyPhases_42 h
  · replace h := h.2 hc5
    refine g_iload_n C rfl dX5_howManyPhases_19 rfl ?_
    refine g_if_lt (tgt := 41) C dX5_howManyPhases_20 (by decide) rfl (fun hc6 => ?_) (fun hc6 => ?_)
    · replace h := h.1 hc6
      refine g_iload_n C rfl dX5_howManyPhases_41 rfl ?_
      exact g_iret C dX5_howManyPhases_42 h
    · replace h := h.2 hc6
      refine g_iinc (lv' := [(2, .int (x2 + (1 : Int32))), (0, .ref (zad Z 37)), (1, .ref (zad Z o)), (3, .int x3), (4, .int x4)]) C dX5_howManyPhases_23 rfl (inc_1 _) (by decide) rfl rfl ?_
      refine g_aload_n C rfl dX5_howManyPhases_26 rfl ?_
      refine g_aload_n C rfl dX5_howManyPhases_27 rfl ?_
      refine g_iload_n C rfl dX5_howManyPhases_28 rfl ?_
      refine g_iconst C ki_1 dX5_howManyPhases_29 rfl ?_
      refine g_iadd C dX5_howManyPhases_30 rfl ?_
      have hs7 := h.1
      replace h := h.2
      refine g_callVI C tw_662 tw_647 tw_648 tw_6 tw_649 hy_X5_firstPhase (by decide) (by decide) rfl (Nat.le_of_ble_eq_true rfl) rfl rfl (ct_X5_firstPhase V_l1 V_l2 o ho f (x3 + (1 : Int32)) hs7) dX5_howManyPhases_31 rfl rfl (fun r8 f9 hp10 => ?_)
      replace h := h r8 f9 hp10
      refine g_istore_n (lv' := [(3, .int r8), (2, .int (x2 + (1 : Int32))), (0, .ref (zad Z 37)), (1, .ref (zad Z o)), (4, .int x4)]) C dX5_howManyPhases_34 (by decide) rfl rfl ?_
      refine g_iinc (lv' := [(4, .int (x4 + (1 : Int32))), (3, .int r8), (2, .int (x2 + (1 : Int32))), (0, .ref (zad Z 37)), (1, .ref (zad Z o))]) C dX5_howManyPhases_35 rfl (inc_1 _) (by decide) rfl rfl ?_
      refine g_goto (q := 12) C dX5_howManyPhases_38 (by decide) ?_
      refine g_lps [0, 1, 2, 3, 4] rfl ?_
      exact hK12 _ _ _ _ h
set_option maxHeartbeats 4000000 in
set_option maxRecDepth 100000 in
theorem wk_X5_howManyPhases_L12 (V_l1 : VC_l1) (V_l2 : VC_l2) {Z : Zt}  (C : CX Z layC RX5 cX5_howManyPhases 5 (some .int) 5) (o : Nat) (ho : isSh o)   (f : Fn) (x2 : Int32) (x3 : Int32) (x4 : Int32) (h : wp_X5_howManyPhases_L12 o  f x2 x3 x4 (zp Z)) : GG Z f [(0, .ref (zad Z 37)), (1, .ref (zad Z o)), (2, .int x2), (3, .int x3), (4, .int x4)] 12 [] := by
  obtain ⟨I, μ, h0, hs⟩ := h
  suffices H : ∀ (N : Nat) (f : Fn) (x2 : Int32) (x3 : Int32) (x4 : Int32), μ f x2 x3 x4 < N → I f x2 x3 x4 → GG Z f [(0, .ref (zad Z 37)), (1, .ref (zad Z o)), (2, .int x2), (3, .int x3), (4, .int x4)] 12 [] from H _ f x2 x3 x4 (Nat.lt_succ_self _) h0
  clear h0
  intro N
  induction N with
  | zero => intro f x2 x3 x4 hm; exact absurd hm (Nat.not_lt_zero _)
  | succ N ih =>
    intro f x2 x3 x4 hm hi
    exact wkb_X5_howManyPhases_L12 V_l1 V_l2  C o ho  (fun f9 x29 x39 x49 hk => ih f9 x29 x39 x49 (Nat.lt_of_lt_of_le hk.2 (Nat.le_of_lt_succ hm)) hk.1) f x2 x3 x4 (hs f x2 x3 x4 hi)
set_option maxHeartbeats 4000000 in
set_option maxRecDepth 100000 in
theorem wk_X5_howManyPhases (V_l1 : VC_l1) (V_l2 : VC_l2) {Z : Zt}  (C : CX Z layC RX5 cX5_howManyPhases 5 (some .int) 5) (o : Nat) (ho : isSh o)   (f : Fn)  (h : wp_X5_howManyPhases o f  (zp Z)) : GG Z f [(0, .ref (zad Z 37)), (1, .ref (zad Z o))] 0 [] := by
  refine g_iconst C ki_0 dX5_howManyPhases_0 rfl ?_
  refine g_istore_n (lv' := [(2, .int (0 : Int32)), (0, .ref (zad Z 37)), (1, .ref (zad Z o))]) C dX5_howManyPhases_1 (by decide) rfl rfl ?_
  refine g_aload_n C rfl dX5_howManyPhases_2 rfl ?_
  refine g_aload_n C rfl dX5_howManyPhases_3 rfl ?_
  refine g_iconst C ki_0 dX5_howManyPhases_4 rfl ?_
  have hs1 := h.1
  replace h := h.2
  refine g_callVI C tw_662 tw_647 tw_648 tw_6 tw_649 hy_X5_firstPhase (by decide) (by decide) rfl (Nat.le_of_ble_eq_true rfl) rfl rfl (ct_X5_firstPhase V_l1 V_l2 o ho f (0 : Int32) hs1) dX5_howManyPhases_5 rfl rfl (fun r2 f3 hp4 => ?_)
  replace h := h r2 f3 hp4
  refine g_istore_n (lv' := [(3, .int r2), (2, .int (0 : Int32)), (0, .ref (zad Z 37)), (1, .ref (zad Z o))]) C dX5_howManyPhases_8 (by decide) rfl rfl ?_
  refine g_iconst C ki_0 dX5_howManyPhases_9 rfl ?_
  refine g_istore (lv' := [(4, .int (0 : Int32)), (3, .int r2), (2, .int (0 : Int32)), (0, .ref (zad Z 37)), (1, .ref (zad Z o))]) C dX5_howManyPhases_10 (by decide) rfl rfl ?_
  refine g_lps [0, 1, 2, 3, 4] rfl ?_
  exact wk_X5_howManyPhases_L12 V_l1 V_l2  C o ho  _ _ _ _ h
set_option maxRecDepth 100000 in
theorem ct_X5_howManyPhases (V_l1 : VC_l1) (V_l2 : VC_l2) {l : Launch} {E : Ev} (o : Nat) (ho : isSh o) (f : Fn)  (hpre : Pre_X5_howManyPhases o f) : CT l E layC yX5_howManyPhases cX5_howManyPhases 5 (some .int) 5 [.ref (E.2.1 37), .ref (E.2.1 o)] f (pI (Post_X5_howManyPhases o f)) := by
  refine CT.of (by decide +kernel) (Nat.le_of_ble_eq_true rfl) (fun Z hl9 hE9 hp9 C => ?_)
  subst hl9
  subst hE9
  exact wk_X5_howManyPhases V_l1 V_l2 C o ho f  (by rw [hp9]; exact V_l2.2.2.2.2.2.2.2.2.2.2.2.2.2.2.2.2.2.2.2.2.2.2.2.2.1 o f  ho hpre)
set_option maxHeartbeats 4000000 in
set_option maxRecDepth 100000 in
theorem wkb_X5_leastLag_L2 (V_l1 : VC_l1) (V_l2 : VC_l2) {Z : Zt}  (C : CX Z layC RX5 cX5_leastLag 3 (some .int) 4) (o : Nat) (ho : isSh o) {K2 : Fn → Int32 → Prop} (hK2 : ∀ (f : Fn) (x2 : Int32), K2 f x2 → GG Z f [(0, .ref (zad Z 37)), (1, .ref (zad Z o)), (2, .int x2)] 2 []) (f : Fn) (x2 : Int32) (h : wpb_X5_leastLag_L2 o  K2 f x2 (zp Z)) : GG Z f [(0, .ref (zad Z 37)), (1, .ref (zad Z o)), (2, .int x2)] 2 [] := by
  refine g_iload_n C rfl dX5_leastLag_2 rfl ?_
  refine g_bipush C kb_9 dX5_leastLag_3 rfl ?_
  refine g_icmp_gt (tgt := 29) C dX5_leastLag_5 (by decide) rfl (fun hc1 => ?_) (fun hc1 => ?_)
  · replace h := h.1 hc1
    refine g_iconst C ki_m1 dX5_leastLag_29 rfl ?_
    exact g_iret C dX5_leastLag_30 h
  · replace h := h.2 hc1
    refine g_aload_n C rfl dX5_leastLag_8 rfl ?_
    refine g_iload_n C rfl dX5_leastLag_9 rfl ?_
    refine fp_X5_51 (k := 37) C rfl rfl (Nat.le_of_ble_eq_true rfl) dX5_leastLag_10 rfl ?_
    refine g_aload_n C rfl dX5_leastLag_13 rfl ?_
    refine g_aload_n C rfl dX5_leastLag_14 rfl ?_
    have hs2 := h.1
    replace h := h.2
    refine g_callVI C tw_650 tw_652 tp_11 tw_6 tw_653 hy_X5_isAsTold (by decide) (by decide) rfl (Nat.le_of_ble_eq_true rfl) rfl rfl (ct_X5_isAsTold V_l1 V_l2 o ho (up2 f 37 6 x2) hs2) dX5_leastLag_15 rfl rfl (fun r3 f4 hp5 => ?_)
    replace h := h r3 f4 hp5
    refine g_if_eq (tgt := 23) C dX5_leastLag_18 (by decide) rfl (fun hc6 => ?_) (fun hc6 => ?_)
    · replace h := h.1 hc6
      refine g_iinc (lv' := [(2, .int (x2 + (1 : Int32))), (0, .ref (zad Z 37)), (1, .ref (zad Z o))]) C dX5_leastLag_23 rfl (inc_1 _) (by decide) rfl rfl ?_
      refine g_goto (q := 2) C dX5_leastLag_26 (by decide) ?_
      refine g_lps [0, 1, 2] rfl ?_
      exact hK2 _ _ h
    · replace h := h.2 hc6
      refine g_iload_n C rfl dX5_leastLag_21 rfl ?_
      exact g_iret C dX5_leastLag_22 h
set_option maxHeartbeats 4000000 in
set_option maxRecDepth 100000 in
theorem wk_X5_leastLag_L2 (V_l1 : VC_l1) (V_l2 : VC_l2) {Z : Zt}  (C : CX Z layC RX5 cX5_leastLag 3 (some .int) 4) (o : Nat) (ho : isSh o)   (f : Fn) (x2 : Int32) (h : wp_X5_leastLag_L2 o  f x2 (zp Z)) : GG Z f [(0, .ref (zad Z 37)), (1, .ref (zad Z o)), (2, .int x2)] 2 [] := by
  obtain ⟨I, μ, h0, hs⟩ := h
  suffices H : ∀ (N : Nat) (f : Fn) (x2 : Int32), μ f x2 < N → I f x2 → GG Z f [(0, .ref (zad Z 37)), (1, .ref (zad Z o)), (2, .int x2)] 2 [] from H _ f x2 (Nat.lt_succ_self _) h0
  clear h0
  intro N
  induction N with
  | zero => intro f x2 hm; exact absurd hm (Nat.not_lt_zero _)
  | succ N ih =>
    intro f x2 hm hi
    exact wkb_X5_leastLag_L2 V_l1 V_l2  C o ho  (fun f9 x29 hk => ih f9 x29 (Nat.lt_of_lt_of_le hk.2 (Nat.le_of_lt_succ hm)) hk.1) f x2 (hs f x2 hi)
set_option maxHeartbeats 4000000 in
set_option maxRecDepth 100000 in
theorem wk_X5_leastLag (V_l1 : VC_l1) (V_l2 : VC_l2) {Z : Zt}  (C : CX Z layC RX5 cX5_leastLag 3 (some .int) 4) (o : Nat) (ho : isSh o)   (f : Fn)  (h : wp_X5_leastLag o f  (zp Z)) : GG Z f [(0, .ref (zad Z 37)), (1, .ref (zad Z o))] 0 [] := by
  refine g_iconst C ki_0 dX5_leastLag_0 rfl ?_
  refine g_istore_n (lv' := [(2, .int (0 : Int32)), (0, .ref (zad Z 37)), (1, .ref (zad Z o))]) C dX5_leastLag_1 (by decide) rfl rfl ?_
  refine g_lps [0, 1, 2] rfl ?_
  exact wk_X5_leastLag_L2 V_l1 V_l2  C o ho  _ _ h
set_option maxRecDepth 100000 in
theorem ct_X5_leastLag (V_l1 : VC_l1) (V_l2 : VC_l2) {l : Launch} {E : Ev} (o : Nat) (ho : isSh o) (f : Fn)  (hpre : Pre_X5_leastLag o f) : CT l E layC yX5_leastLag cX5_leastLag 3 (some .int) 4 [.ref (E.2.1 37), .ref (E.2.1 o)] f (pI (Post_X5_leastLag o f)) := by
  refine CT.of (by decide +kernel) (Nat.le_of_ble_eq_true rfl) (fun Z hl9 hE9 hp9 C => ?_)
  subst hl9
  subst hE9
  exact wk_X5_leastLag V_l1 V_l2 C o ho f  (by rw [hp9]; exact V_l2.2.2.2.2.2.2.2.2.2.2.2.2.2.2.2.2.2.2.2.2.2.2.2.2.2.1 o f  ho hpre)
set_option maxHeartbeats 4000000 in
set_option maxRecDepth 100000 in
theorem wk_X2_next (V_l1 : VC_l1) (V_l2 : VC_l2) {Z : Zt}  (C : CX Z layC RX2 cX2_next 1 (some .int) 0)     (f : Fn)  (h : wp_X2_next  f  (zp Z)) : GG Z f [(0, .ref (zad Z 42))] 0 [] := by
  refine g_aload_n C rfl dX2_next_0 rfl ?_
  refine fg_X2_23I (k := 42) (x := (f 42 3)) C rfl rfl rfl dX2_next_1 rfl ?_
  refine g_if_lt (tgt := 45) C dX2_next_4 (by decide) rfl (fun hc1 => ?_) (fun hc1 => ?_)
  · replace h := h.1 hc1
    refine g_iconst C ki_m1 dX2_next_45 rfl ?_
    exact g_iret C dX2_next_46 h
  · replace h := h.2 hc1
    refine g_aload_n C rfl dX2_next_7 rfl ?_
    refine fg_X2_23I (k := 42) (x := (f 42 3)) C rfl rfl rfl dX2_next_8 rfl ?_
    refine g_bipush C kb_50 dX2_next_11 rfl ?_
    refine g_icmp_ge (tgt := 45) C dX2_next_13 (by decide) rfl (fun hc2 => ?_) (fun hc2 => ?_)
    · replace h := h.1 hc2
      refine g_iconst C ki_m1 dX2_next_45 rfl ?_
      exact g_iret C dX2_next_46 h
    · replace h := h.2 hc2
      refine g_aload_n C rfl dX2_next_16 rfl ?_
      refine fg_X2_23I (k := 42) (x := (f 42 3)) C rfl rfl rfl dX2_next_17 rfl ?_
      refine g_aload_n C rfl dX2_next_20 rfl ?_
      refine fg_X2_15R (k := 42) (p := 1) C rfl rfl dX2_next_21 rfl ?_
      refine fg_X2_38I (k := 1) (x := (f 1 9)) C rfl rfl rfl dX2_next_24 rfl ?_
      refine g_icmp_ge (tgt := 45) C dX2_next_27 (by decide) rfl (fun hc3 => ?_) (fun hc3 => ?_)
      · replace h := h.1 hc3
        refine g_iconst C ki_m1 dX2_next_45 rfl ?_
        exact g_iret C dX2_next_46 h
      · replace h := h.2 hc3
        refine g_aload_n C rfl dX2_next_30 rfl ?_
        refine fg_X2_15R (k := 42) (p := 1) C rfl rfl dX2_next_31 rfl ?_
        refine fg_X2_43R (k := 1) (p := 11) C rfl rfl dX2_next_34 rfl ?_
        refine g_aload_n C rfl dX2_next_37 rfl ?_
        refine fg_X2_23I (k := 42) (x := (f 42 3)) C rfl rfl rfl dX2_next_38 rfl ?_
        have hs4 := h.1
        replace h := h.2
        refine g_ialdx (k := 11) (j := (f 42 3).toNatClampNeg) (x := (f 11 (f 42 3).toNatClampNeg)) C rfl hs4 rfl rfl dX2_next_41 rfl ?_
        refine g_goto (q := 46) C dX2_next_42 (by decide) ?_
        exact g_iret C dX2_next_46 h
set_option maxRecDepth 100000 in
theorem ct_X2_next (V_l1 : VC_l1) (V_l2 : VC_l2) {l : Launch} {E : Ev}   (f : Fn)   : CT l E layC yX2_next cX2_next 1 (some .int) 0 [.ref (E.2.1 42)] f (pI (fun r9 f9 => r9 = Val_X2_next f ∧ f9 = f)) := by
  refine CT.of (by decide +kernel) (Nat.le_of_ble_eq_true rfl) (fun Z hl9 hE9 hp9 C => ?_)
  subst hl9
  subst hE9
  exact wk_X2_next V_l1 V_l2 C   f  (by rw [hp9]; exact V_l2.2.2.2.2.2.2.2.2.2.2.2.2.2.2.2.2.2.2.2.2.2.2.2.2.2.2.1  f   )
set_option maxHeartbeats 4000000 in
set_option maxRecDepth 100000 in
theorem wk_X2_addStep (V_l1 : VC_l1) (V_l2 : VC_l2) {Z : Zt}  (C : CX Z layC RX2 cX2_addStep 2 none 0)     (f : Fn) (a1 : Int32) (h : wp_X2_addStep  f a1 (zp Z)) : GG Z f [(0, .ref (zad Z 42)), (1, .int a1)] 0 [] := by
  refine g_aload_n C rfl dX2_addStep_0 rfl ?_
  refine fg_X2_19I (k := 42) (x := (f 42 2)) C rfl rfl rfl dX2_addStep_1 rfl ?_
  refine g_if_lt (tgt := 36) C dX2_addStep_4 (by decide) rfl (fun hc1 => ?_) (fun hc1 => ?_)
  · replace h := h.1 hc1
    exact g_vret C dX2_addStep_36 h
  · replace h := h.2 hc1
    refine g_aload_n C rfl dX2_addStep_7 rfl ?_
    refine fg_X2_19I (k := 42) (x := (f 42 2)) C rfl rfl rfl dX2_addStep_8 rfl ?_
    refine g_bipush C kb_50 dX2_addStep_11 rfl ?_
    refine g_icmp_ge (tgt := 36) C dX2_addStep_13 (by decide) rfl (fun hc2 => ?_) (fun hc2 => ?_)
    · replace h := h.1 hc2
      exact g_vret C dX2_addStep_36 h
    · replace h := h.2 hc2
      refine g_aload_n C rfl dX2_addStep_16 rfl ?_
      refine fg_X2_9R (k := 42) (p := 43) C rfl rfl dX2_addStep_17 rfl ?_
      refine g_aload_n C rfl dX2_addStep_20 rfl ?_
      refine fg_X2_19I (k := 42) (x := (f 42 2)) C rfl rfl rfl dX2_addStep_21 rfl ?_
      refine g_iload_n C rfl dX2_addStep_24 rfl ?_
      have hs3 := h.1
      replace h := h.2
      refine g_iastx (k := 43) (j := (f 42 2).toNatClampNeg) C rfl hs3 rfl dX2_addStep_25 rfl ?_
      refine g_aload_n C rfl dX2_addStep_26 rfl ?_
      refine g_dup C rfl dX2_addStep_27 rfl ?_
      refine fg_X2_19I (k := 42) (x := (f 42 2)) C rfl rfl (by simp [up2, upd]) dX2_addStep_28 rfl ?_
      refine g_iconst C ki_1 dX2_addStep_31 rfl ?_
      refine g_iadd C dX2_addStep_32 rfl ?_
      refine fp_X2_19 (k := 42) C rfl rfl (Nat.le_of_ble_eq_true rfl) dX2_addStep_33 rfl ?_
      exact g_vret C dX2_addStep_36 h
set_option maxRecDepth 100000 in
theorem ct_X2_addStep (V_l1 : VC_l1) (V_l2 : VC_l2) {l : Launch} {E : Ev}   (f : Fn) (a1 : Int32) (hpre : Pre_X2_addStep f a1) : CT l E layC yX2_addStep cX2_addStep 2 none 0 [.ref (E.2.1 42), .int a1] f (pV (Post_X2_addStep f a1)) := by
  refine CT.of (by decide +kernel) (Nat.le_of_ble_eq_true rfl) (fun Z hl9 hE9 hp9 C => ?_)
  subst hl9
  subst hE9
  exact wk_X2_addStep V_l1 V_l2 C   f a1 (by rw [hp9]; exact V_l2.2.2.2.2.2.2.2.2.2.2.2.2.2.2.2.2.2.2.2.2.2.2.2.2.2.2.2.1  f a1  hpre)
set_option maxHeartbeats 4000000 in
set_option maxRecDepth 100000 in
theorem wk_X2_levelOf (V_l1 : VC_l1) (V_l2 : VC_l2) {Z : Zt}  (C : CX Z layC RX2 cX2_levelOf 1 (some .int) 0)     (f : Fn) (a1 : Int32) (h : wp_X2_levelOf  f a1 (zp Z)) : GG Z f [(0, .int a1)] 0 [] := by
  refine g_iload_n C rfl dX2_levelOf_0 rfl ?_
  by_cases hk1_0 : a1 = (37 : Int32)
  · replace h := h.1 hk1_0
    refine g_lookup (q := 100) (off := (99)) C dX2_levelOf_1 (by decide +kernel) (sw_lo hk1_0 (by decide +kernel)) (by decide) ?_
    refine g_iconst C ki_4 dX2_levelOf_100 rfl ?_
    exact g_iret C dX2_levelOf_101 h
  by_cases hk1_1 : a1 = (38 : Int32)
  · replace h := h.2.1 hk1_1
    refine g_lookup (q := 94) (off := (93)) C dX2_levelOf_1 (by decide +kernel) (sw_lo hk1_1 (by decide +kernel)) (by decide) ?_
    refine g_iconst C ki_1 dX2_levelOf_94 rfl ?_
    exact g_iret C dX2_levelOf_95 h
  by_cases hk1_2 : a1 = (42 : Int32)
  · replace h := h.2.2.1 hk1_2
    refine g_lookup (q := 100) (off := (99)) C dX2_levelOf_1 (by decide +kernel) (sw_lo hk1_2 (by decide +kernel)) (by decide) ?_
    refine g_iconst C ki_4 dX2_levelOf_100 rfl ?_
    exact g_iret C dX2_levelOf_101 h
  by_cases hk1_3 : a1 = (43 : Int32)
  · replace h := h.2.2.2.1 hk1_3
    refine g_lookup (q := 98) (off := (97)) C dX2_levelOf_1 (by decide +kernel) (sw_lo hk1_3 (by decide +kernel)) (by decide) ?_
    refine g_iconst C ki_3 dX2_levelOf_98 rfl ?_
    exact g_iret C dX2_levelOf_99 h
  by_cases hk1_4 : a1 = (45 : Int32)
  · replace h := h.2.2.2.2.1 hk1_4
    refine g_lookup (q := 98) (off := (97)) C dX2_levelOf_1 (by decide +kernel) (sw_lo hk1_4 (by decide +kernel)) (by decide) ?_
    refine g_iconst C ki_3 dX2_levelOf_98 rfl ?_
    exact g_iret C dX2_levelOf_99 h
  by_cases hk1_5 : a1 = (47 : Int32)
  · replace h := h.2.2.2.2.2.1 hk1_5
    refine g_lookup (q := 100) (off := (99)) C dX2_levelOf_1 (by decide +kernel) (sw_lo hk1_5 (by decide +kernel)) (by decide) ?_
    refine g_iconst C ki_4 dX2_levelOf_100 rfl ?_
    exact g_iret C dX2_levelOf_101 h
  by_cases hk1_6 : a1 = (60 : Int32)
  · replace h := h.2.2.2.2.2.2.1 hk1_6
    refine g_lookup (q := 96) (off := (95)) C dX2_levelOf_1 (by decide +kernel) (sw_lo hk1_6 (by decide +kernel)) (by decide) ?_
    refine g_iconst C ki_2 dX2_levelOf_96 rfl ?_
    exact g_iret C dX2_levelOf_97 h
  by_cases hk1_7 : a1 = (61 : Int32)
  · replace h := h.2.2.2.2.2.2.2.1 hk1_7
    refine g_lookup (q := 96) (off := (95)) C dX2_levelOf_1 (by decide +kernel) (sw_lo hk1_7 (by decide +kernel)) (by decide) ?_
    refine g_iconst C ki_2 dX2_levelOf_96 rfl ?_
    exact g_iret C dX2_levelOf_97 h
  by_cases hk1_8 : a1 = (62 : Int32)
  · replace h := h.2.2.2.2.2.2.2.2.1 hk1_8
    refine g_lookup (q := 96) (off := (95)) C dX2_levelOf_1 (by decide +kernel) (sw_lo hk1_8 (by decide +kernel)) (by decide) ?_
    refine g_iconst C ki_2 dX2_levelOf_96 rfl ?_
    exact g_iret C dX2_levelOf_97 h
  by_cases hk1_9 : a1 = (124 : Int32)
  · replace h := h.2.2.2.2.2.2.2.2.2.1 hk1_9
    refine g_lookup (q := 92) (off := (91)) C dX2_levelOf_1 (by decide +kernel) (sw_lo hk1_9 (by decide +kernel)) (by decide) ?_
    refine g_iconst C ki_0 dX2_levelOf_92 rfl ?_
    exact g_iret C dX2_levelOf_93 h
  replace h := h.2.2.2.2.2.2.2.2.2.2 ⟨hk1_0, hk1_1, hk1_2, hk1_3, hk1_4, hk1_5, hk1_6, hk1_7, hk1_8, hk1_9⟩
  refine g_lookup (q := 102) (off := (101)) C dX2_levelOf_1 (by decide +kernel) (sw_ld _ [(37 : Int32), (38 : Int32), (42 : Int32), (43 : Int32), (45 : Int32), (47 : Int32), (60 : Int32), (61 : Int32), (62 : Int32), (124 : Int32)] (by decide +kernel) (fun k9 hk9 => by simp only [List.mem_cons, List.not_mem_nil, or_false] at hk9; rcases hk9 with rfl | rfl | rfl | rfl | rfl | rfl | rfl | rfl | rfl | rfl <;> assumption)) (by decide) ?_
  refine g_iconst C ki_m1 dX2_levelOf_102 rfl ?_
  exact g_iret C dX2_levelOf_103 h
set_option maxRecDepth 100000 in
theorem ct_X2_levelOf (V_l1 : VC_l1) (V_l2 : VC_l2) {l : Launch} {E : Ev}   (f : Fn) (a1 : Int32)  : CT l E layC yX2_levelOf cX2_levelOf 1 (some .int) 0 [.int a1] f (pI (fun r9 f9 => r9 = Val_X2_levelOf f a1 ∧ f9 = f)) := by
  refine CT.of (by decide +kernel) (Nat.le_of_ble_eq_true rfl) (fun Z hl9 hE9 hp9 C => ?_)
  subst hl9
  subst hE9
  exact wk_X2_levelOf V_l1 V_l2 C   f a1 (by rw [hp9]; exact V_l2.2.2.2.2.2.2.2.2.2.2.2.2.2.2.2.2.2.2.2.2.2.2.2.2.2.2.2.2.1  f a1  )
set_option maxHeartbeats 4000000 in
set_option maxRecDepth 100000 in
theorem wk_X2_isDigit (V_l1 : VC_l1) (V_l2 : VC_l2) {Z : Zt}  (C : CX Z layC RX2 cX2_isDigit 1 (some .boolean) 0)     (f : Fn) (a1 : Int32) (h : wp_X2_isDigit  f a1 (zp Z)) : GG Z f [(0, .int a1)] 0 [] := by
  refine g_iload_n C rfl dX2_isDigit_0 rfl ?_
  refine g_bipush C kb_48 dX2_isDigit_1 rfl ?_
  refine g_icmp_lt (tgt := 16) C dX2_isDigit_3 (by decide) rfl (fun hc1 => ?_) (fun hc1 => ?_)
  · replace h := h.1 hc1
    refine g_iconst C ki_0 dX2_isDigit_16 rfl ?_
    exact g_zret C (Or.inl rfl) dX2_isDigit_17 h
  · replace h := h.2 hc1
    refine g_iload_n C rfl dX2_isDigit_6 rfl ?_
    refine g_bipush C kb_57 dX2_isDigit_7 rfl ?_
    refine g_icmp_gt (tgt := 16) C dX2_isDigit_9 (by decide) rfl (fun hc2 => ?_) (fun hc2 => ?_)
    · replace h := h.1 hc2
      refine g_iconst C ki_0 dX2_isDigit_16 rfl ?_
      exact g_zret C (Or.inl rfl) dX2_isDigit_17 h
    · replace h := h.2 hc2
      refine g_iconst C ki_1 dX2_isDigit_12 rfl ?_
      refine g_goto (q := 17) C dX2_isDigit_13 (by decide) ?_
      exact g_zret C (Or.inr rfl) dX2_isDigit_17 h
set_option maxRecDepth 100000 in
theorem ct_X2_isDigit (V_l1 : VC_l1) (V_l2 : VC_l2) {l : Launch} {E : Ev}   (f : Fn) (a1 : Int32)  : CT l E layC yX2_isDigit cX2_isDigit 1 (some .boolean) 0 [.int a1] f (pI (fun r9 f9 => r9 = Val_X2_isDigit f a1 ∧ f9 = f)) := by
  refine CT.of (by decide +kernel) (Nat.le_of_ble_eq_true rfl) (fun Z hl9 hE9 hp9 C => ?_)
  subst hl9
  subst hE9
  exact wk_X2_isDigit V_l1 V_l2 C   f a1 (by rw [hp9]; exact V_l2.2.2.2.2.2.2.2.2.2.2.2.2.2.2.2.2.2.2.2.2.2.2.2.2.2.2.2.2.2.1  f a1  )
set_option maxHeartbeats 4000000 in
set_option maxRecDepth 100000 in
theorem wk_X2_readNumber_L48 (V_l1 : VC_l1) (V_l2 : VC_l2) {Z : Zt}  (C : CX Z layC RX2 cX2_readNumber 3 none 1)     (f : Fn) (x1 : Int32) (h : wp_X2_readNumber_L48   f x1 (zp Z)) : GG Z f [(0, .ref (zad Z 42)), (1, .int x1)] 48 [] := by
  refine g_aload_n C rfl dX2_readNumber_48 rfl ?_
  refine g_iload_n C rfl dX2_readNumber_49 rfl ?_
  have hs2 := h.1
  replace h := h.2
  refine g_callVV C tw_450 tw_452 tp_5 tw_7 tw_453 hy_X2_addStep (by decide) (by decide) rfl (Nat.le_of_ble_eq_true rfl) rfl rfl (ct_X2_addStep V_l1 V_l2   f x1 hs2) dX2_readNumber_50 rfl rfl (fun f3 hp4 => ?_)
  replace h := h f3 hp4
  exact g_vret C dX2_readNumber_53 h
set_option maxHeartbeats 4000000 in
set_option maxRecDepth 100000 in
theorem wkb_X2_readNumber_L4 (V_l1 : VC_l1) (V_l2 : VC_l2) {Z : Zt}  (C : CX Z layC RX2 cX2_readNumber 3 none 1)   {K4 : Fn → Int32 → Int32 → Prop} (hK4 : ∀ (f : Fn) (x1 : Int32) (x2 : Int32), K4 f x1 x2 → GG Z f [(0, .ref (zad Z 42)), (1, .int x1), (2, .int x2)] 4 []) (f : Fn) (x1 : Int32) (x2 : Int32) (h : wpb_X2_readNumber_L4   K4 f x1 x2 (zp Z)) : GG Z f [(0, .ref (zad Z 42)), (1, .int x1), (2, .int x2)] 4 [] := by
  refine g_iload_n C rfl dX2_readNumber_4 rfl ?_
  refine g_iconst C ki_4 dX2_readNumber_5 rfl ?_
  refine g_icmp_ge (tgt := 48) C dX2_readNumber_6 (by decide) rfl (fun hc1 => ?_) (fun hc1 => ?_)
  · replace h := h.1 hc1
    refine g_lps [0, 1] rfl ?_
    exact wk_X2_readNumber_L48 V_l1 V_l2  C    _ _ h
  · replace h := h.2 hc1
    refine g_aload_n C rfl dX2_readNumber_9 rfl ?_
    refine g_callVD C tw_439 tw_441 tp_3 tw_7 tw_442 hy_X2_next (by decide) (by decide) rfl (Nat.le_of_ble_eq_true rfl) rfl rfl (ct_X2_next V_l1 V_l2   f ) dX2_readNumber_10 rfl rfl ?_
    refine g_callSD C tw_443 tw_444 tw_7 tw_445 hy_X2_isDigit (by decide) (by decide) rfl (Nat.le_of_ble_eq_true rfl) (ct_X2_isDigit V_l1 V_l2   f (Val_X2_next f) ) dX2_readNumber_13 rfl rfl ?_
    refine g_if_eq (tgt := 48) C dX2_readNumber_16 (by decide) rfl (fun hc5 => ?_) (fun hc5 => ?_)
    · replace h := h.1 hc5
      refine g_lps [0, 1] rfl ?_
      exact wk_X2_readNumber_L48 V_l1 V_l2  C    _ _ h
    · replace h := h.2 hc5
      refine g_iload_n C rfl dX2_readNumber_19 rfl ?_
      refine g_bipush C kb_10 dX2_readNumber_20 rfl ?_
      refine g_imul C dX2_readNumber_22 rfl ?_
      refine g_aload_n C rfl dX2_readNumber_23 rfl ?_
      refine g_callVD C tw_439 tw_441 tp_3 tw_7 tw_442 hy_X2_next (by decide) (by decide) rfl (Nat.le_of_ble_eq_true rfl) rfl rfl (ct_X2_next V_l1 V_l2   f ) dX2_readNumber_24 rfl rfl ?_
      refine g_iadd C dX2_readNumber_27 rfl ?_
      refine g_bipush C kb_48 dX2_readNumber_28 rfl ?_
      refine g_isub C dX2_readNumber_30 rfl ?_
      refine g_istore_n (lv' := [(1, .int (((x1 * (10 : Int32)) + (Val_X2_next f)) - (48 : Int32))), (0, .ref (zad Z 42)), (2, .int x2)]) C dX2_readNumber_31 (by decide) rfl rfl ?_
      refine g_aload_n C rfl dX2_readNumber_32 rfl ?_
      refine g_dup C rfl dX2_readNumber_33 rfl ?_
      refine fg_X2_23I (k := 42) (x := (f 42 3)) C rfl rfl rfl dX2_readNumber_34 rfl ?_
      refine g_iconst C ki_1 dX2_readNumber_37 rfl ?_
      refine g_iadd C dX2_readNumber_38 rfl ?_
      refine fp_X2_23 (k := 42) C rfl rfl (Nat.le_of_ble_eq_true rfl) dX2_readNumber_39 rfl ?_
      refine g_iinc (lv' := [(2, .int (x2 + (1 : Int32))), (1, .int (((x1 * (10 : Int32)) + (Val_X2_next f)) - (48 : Int32))), (0, .ref (zad Z 42))]) C dX2_readNumber_42 rfl (inc_1 _) (by decide) rfl rfl ?_
      refine g_goto (q := 4) C dX2_readNumber_45 (by decide) ?_
      refine g_lps [0, 1, 2] rfl ?_
      exact hK4 _ _ _ h
set_option maxHeartbeats 4000000 in
set_option maxRecDepth 100000 in
theorem wk_X2_readNumber_L4 (V_l1 : VC_l1) (V_l2 : VC_l2) {Z : Zt}  (C : CX Z layC RX2 cX2_readNumber 3 none 1)     (f : Fn) (x1 : Int32) (x2 : Int32) (h : wp_X2_readNumber_L4   f x1 x2 (zp Z)) : GG Z f [(0, .ref (zad Z 42)), (1, .int x1), (2, .int x2)] 4 [] := by
  obtain ⟨I, μ, h0, hs⟩ := h
  suffices H : ∀ (N : Nat) (f : Fn) (x1 : Int32) (x2 : Int32), μ f x1 x2 < N → I f x1 x2 → GG Z f [(0, .ref (zad Z 42)), (1, .int x1), (2, .int x2)] 4 [] from H _ f x1 x2 (Nat.lt_succ_self _) h0
  clear h0
  intro N
  induction N with
  | zero => intro f x1 x2 hm; exact absurd hm (Nat.not_lt_zero _)
  | succ N ih =>
    intro f x1 x2 hm hi
    exact wkb_X2_readNumber_L4 V_l1 V_l2  C    (fun f9 x19 x29 hk => ih f9 x19 x29 (Nat.lt_of_lt_of_le hk.2 (Nat.le_of_lt_succ hm)) hk.1) f x1 x2 (hs f x1 x2 hi)
set_option maxHeartbeats 4000000 in
set_option maxRecDepth 100000 in
theorem wk_X2_readNumber (V_l1 : VC_l1) (V_l2 : VC_l2) {Z : Zt}  (C : CX Z layC RX2 cX2_readNumber 3 none 1)     (f : Fn)  (h : wp_X2_readNumber  f  (zp Z)) : GG Z f [(0, .ref (zad Z 42))] 0 [] := by
  refine g_iconst C ki_0 dX2_readNumber_0 rfl ?_
  refine g_istore_n (lv' := [(1, .int (0 : Int32)), (0, .ref (zad Z 42))]) C dX2_readNumber_1 (by decide) rfl rfl ?_
  refine g_iconst C ki_0 dX2_readNumber_2 rfl ?_
  refine g_istore_n (lv' := [(2, .int (0 : Int32)), (1, .int (0 : Int32)), (0, .ref (zad Z 42))]) C dX2_readNumber_3 (by decide) rfl rfl ?_
  refine g_lps [0, 1, 2] rfl ?_
  exact wk_X2_readNumber_L4 V_l1 V_l2  C    _ _ _ h
set_option maxRecDepth 100000 in
theorem ct_X2_readNumber (V_l1 : VC_l1) (V_l2 : VC_l2) {l : Launch} {E : Ev}   (f : Fn)  (hpre : Pre_X2_readNumber f) : CT l E layC yX2_readNumber cX2_readNumber 3 none 1 [.ref (E.2.1 42)] f (pV (Post_X2_readNumber f)) := by
  refine CT.of (by decide +kernel) (Nat.le_of_ble_eq_true rfl) (fun Z hl9 hE9 hp9 C => ?_)
  subst hl9
  subst hE9
  exact wk_X2_readNumber V_l1 V_l2 C   f  (by rw [hp9]; exact V_l2.2.2.2.2.2.2.2.2.2.2.2.2.2.2.2.2.2.2.2.2.2.2.2.2.2.2.2.2.2.2.1  f   hpre)
set_option maxHeartbeats 4000000 in
set_option maxRecDepth 100000 in
theorem wk_X2_readLevel_L10 (V_l1 : VC_l1) (V_l2 : VC_l2) {Z : Zt} {m0 dd de : Nat} (hde : de + 1 ≤ dd) (hd1 : 3 ≤ dd) (hr_X2_readLevel : ∀ (f : Fn) (b1 : Int32) (b2 : Int32), Pre_X2_readLevel f b1 b2 → mu_X2_readLevel f b1 b2 < m0 → CT (zl Z) (zE Z) layC yX2_readLevel cX2_readLevel 6 none de [.ref (zad Z 42), .int b1, .int b2] f (pV (Post_X2_readLevel f b1 b2))) (hr_X2_readPart : ∀ (f : Fn) (b1 : Int32), Pre_X2_readPart f b1 → mu_X2_readPart f b1 < m0 → CT (zl Z) (zE Z) layC yX2_readPart cX2_readPart 3 none de [.ref (zad Z 42), .int b1] f (pV (Post_X2_readPart f b1))) (C : CX Z layC RX2 cX2_readLevel 6 none dd)     (f : Fn) (x2 : Int32) (h : wp_X2_readLevel_L10 m0   f x2 (zp Z)) : GG Z f [(0, .ref (zad Z 42)), (2, .int x2)] 10 [] := by
  refine g_aload_n C rfl dX2_readLevel_10 rfl ?_
  refine g_iload_n C rfl dX2_readLevel_11 rfl ?_
  have hs2 := h.1
  replace h := h.2
  have hs3 := h.1
  replace h := h.2
  refine g_callVV C tw_435 tw_437 tp_2 tw_7 tw_438 hy_X2_readPart (by decide) hde rfl (Nat.le_of_ble_eq_true rfl) rfl rfl (hr_X2_readPart f x2 hs2 hs3) dX2_readLevel_12 rfl rfl (fun f4 hp5 => ?_)
  replace h := h f4 hp5
  exact g_vret C dX2_readLevel_15 h
set_option maxHeartbeats 4000000 in
set_option maxRecDepth 100000 in
theorem wkb_X2_readLevel_L39 (V_l1 : VC_l1) (V_l2 : VC_l2) {Z : Zt} {m0 dd de : Nat} (hde : de + 1 ≤ dd) (hd1 : 3 ≤ dd) (hr_X2_readLevel : ∀ (f : Fn) (b1 : Int32) (b2 : Int32), Pre_X2_readLevel f b1 b2 → mu_X2_readLevel f b1 b2 < m0 → CT (zl Z) (zE Z) layC yX2_readLevel cX2_readLevel 6 none de [.ref (zad Z 42), .int b1, .int b2] f (pV (Post_X2_readLevel f b1 b2))) (hr_X2_readPart : ∀ (f : Fn) (b1 : Int32), Pre_X2_readPart f b1 → mu_X2_readPart f b1 < m0 → CT (zl Z) (zE Z) layC yX2_readPart cX2_readPart 3 none de [.ref (zad Z 42), .int b1] f (pV (Post_X2_readPart f b1))) (C : CX Z layC RX2 cX2_readLevel 6 none dd)   {K39 : Fn → Int32 → Int32 → Int32 → Int32 → Prop} (hK39 : ∀ (f : Fn) (x1 : Int32) (x2 : Int32) (x3 : Int32) (x4 : Int32), K39 f x1 x2 x3 x4 → GG Z f [(0, .ref (zad Z 42)), (1, .int x1), (2, .int x2), (3, .int x3), (4, .int x4)] 39 []) (f : Fn) (x1 : Int32) (x2 : Int32) (x3 : Int32) (x4 : Int32) (h : wpb_X2_readLevel_L39 m0   K39 f x1 x2 x3 x4 (zp Z)) : GG Z f [(0, .ref (zad Z 42)), (1, .int x1), (2, .int x2), (3, .int x3), (4, .int x4)] 39 [] := by
  refine g_iload C rfl dX2_readLevel_39 rfl ?_
  refine g_iload_n C rfl dX2_readLevel_41 rfl ?_
  refine g_icmp_ge (tgt := 100) C dX2_readLevel_42 (by decide) rfl (fun hc12 => ?_) (fun hc12 => ?_)
  · replace h := h.1 hc12
    exact g_vret C dX2_readLevel_100 h
  · replace h := h.2 hc12
    refine g_aload_n C rfl dX2_readLevel_45 rfl ?_
    refine fg_X2_26I (k := 42) (x := (f 42 4)) C rfl rfl rfl dX2_readLevel_46 rfl ?_
    refine g_if_ne (tgt := 100) C dX2_readLevel_49 (by decide) rfl (fun hc13 => ?_) (fun hc13 => ?_)
    · replace h := h.1 hc13
      exact g_vret C dX2_readLevel_100 h
    · replace h := h.2 hc13
      refine g_aload_n C rfl dX2_readLevel_52 rfl ?_
      refine g_callVD C tw_439 tw_441 tp_3 tw_7 tw_442 hy_X2_next (by decide) (by omega) rfl (Nat.le_of_ble_eq_true rfl) rfl rfl (ct_X2_next V_l1 V_l2   f ) dX2_readLevel_53 rfl rfl ?_
      refine g_callSD C tw_454 tw_455 tw_7 tw_456 hy_X2_levelOf (by decide) (by omega) rfl (Nat.le_of_ble_eq_true rfl) (ct_X2_levelOf V_l1 V_l2   f (Val_X2_next f) ) dX2_readLevel_56 rfl rfl ?_
      refine g_iload_n C rfl dX2_readLevel_59 rfl ?_
      refine g_icmp_ne (tgt := 100) C dX2_readLevel_60 (by decide) rfl (fun hc14 => ?_) (fun hc14 => ?_)
      · replace h := h.1 hc14
        exact g_vret C dX2_readLevel_100 h
      · replace h := h.2 hc14
        refine g_aload_n C rfl dX2_readLevel_63 rfl ?_
        refine g_callVD C tw_439 tw_441 tp_3 tw_7 tw_442 hy_X2_next (by decide) (by omega) rfl (Nat.le_of_ble_eq_true rfl) rfl rfl (ct_X2_next V_l1 V_l2   f ) dX2_readLevel_64 rfl rfl ?_
        refine g_istore (lv' := [(5, .int (Val_X2_next f)), (0, .ref (zad Z 42)), (1, .int x1), (2, .int x2), (3, .int x3), (4, .int x4)]) C dX2_readLevel_67 (by decide) rfl rfl ?_
        refine g_aload_n C rfl dX2_readLevel_69 rfl ?_
        refine g_dup C rfl dX2_readLevel_70 rfl ?_
        refine fg_X2_23I (k := 42) (x := (f 42 3)) C rfl rfl rfl dX2_readLevel_71 rfl ?_
        refine g_iconst C ki_1 dX2_readLevel_74 rfl ?_
        refine g_iadd C dX2_readLevel_75 rfl ?_
        refine fp_X2_23 (k := 42) C rfl rfl (Nat.le_of_ble_eq_true rfl) dX2_readLevel_76 rfl ?_
        refine g_aload_n C rfl dX2_readLevel_79 rfl ?_
        refine g_iload_n C rfl dX2_readLevel_80 rfl ?_
        refine g_iconst C ki_1 dX2_readLevel_81 rfl ?_
        refine g_iadd C dX2_readLevel_82 rfl ?_
        refine g_iload_n C rfl dX2_readLevel_83 rfl ?_
        have hs15 := h.1
        replace h := h.2
        have hs16 := h.1
        replace h := h.2
        refine g_callVV C tw_431 tw_433 tp_1 tw_7 tw_434 hy_X2_readLevel (by decide) hde rfl (Nat.le_of_ble_eq_true rfl) rfl rfl (hr_X2_readLevel (up2 f 42 3 ((f 42 3) + (1 : Int32))) (x1 + (1 : Int32)) x2 hs15 hs16) dX2_readLevel_84 rfl rfl (fun f17 hp18 => ?_)
        replace h := h f17 hp18
        refine g_aload_n C rfl dX2_readLevel_87 rfl ?_
        refine g_iload C rfl dX2_readLevel_88 rfl ?_
        refine g_ineg C dX2_readLevel_90 rfl ?_
        have hs19 := h.1
        replace h := h.2
        refine g_callVV C tw_450 tw_452 tp_5 tw_7 tw_453 hy_X2_addStep (by decide) (by omega) rfl (Nat.le_of_ble_eq_true rfl) rfl rfl (ct_X2_addStep V_l1 V_l2   f17 (-(Val_X2_next f)) hs19) dX2_readLevel_91 rfl rfl (fun f20 hp21 => ?_)
        replace h := h f20 hp21
        refine g_iinc (lv' := [(4, .int (x4 + (1 : Int32))), (5, .int (Val_X2_next f)), (0, .ref (zad Z 42)), (1, .int x1), (2, .int x2), (3, .int x3)]) C dX2_readLevel_94 rfl (inc_1 _) (by decide) rfl rfl ?_
        refine g_goto (q := 39) C dX2_readLevel_97 (by decide) ?_
        refine g_lps [0, 1, 2, 3, 4] rfl ?_
        exact hK39 _ _ _ _ _ h
set_option maxHeartbeats 4000000 in
set_option maxRecDepth 100000 in
theorem wk_X2_readLevel_L39 (V_l1 : VC_l1) (V_l2 : VC_l2) {Z : Zt} {m0 dd de : Nat} (hde : de + 1 ≤ dd) (hd1 : 3 ≤ dd) (hr_X2_readLevel : ∀ (f : Fn) (b1 : Int32) (b2 : Int32), Pre_X2_readLevel f b1 b2 → mu_X2_readLevel f b1 b2 < m0 → CT (zl Z) (zE Z) layC yX2_readLevel cX2_readLevel 6 none de [.ref (zad Z 42), .int b1, .int b2] f (pV (Post_X2_readLevel f b1 b2))) (hr_X2_readPart : ∀ (f : Fn) (b1 : Int32), Pre_X2_readPart f b1 → mu_X2_readPart f b1 < m0 → CT (zl Z) (zE Z) layC yX2_readPart cX2_readPart 3 none de [.ref (zad Z 42), .int b1] f (pV (Post_X2_readPart f b1))) (C : CX Z layC RX2 cX2_readLevel 6 none dd)     (f : Fn) (x1 : Int32) (x2 : Int32) (x3 : Int32) (x4 : Int32) (h : wp_X2_readLevel_L39 m0   f x1 x2 x3 x4 (zp Z)) : GG Z f [(0, .ref (zad Z 42)), (1, .int x1), (2, .int x2), (3, .int x3), (4, .int x4)] 39 [] := by
  obtain ⟨I, μ, h0, hs⟩ := h
  suffices H : ∀ (N : Nat) (f : Fn) (x1 : Int32) (x2 : Int32) (x3 : Int32) (x4 : Int32), μ f x1 x2 x3 x4 < N → I f x1 x2 x3 x4 → GG Z f [(0, .ref (zad Z 42)), (1, .int x1), (2, .int x2), (3, .int x3), (4, .int x4)] 39 [] from H _ f x1 x2 x3 x4 (Nat.lt_succ_self _) h0
  clear h0
  intro N
  induction N with
  | zero => intro f x1 x2 x3 x4 hm; exact absurd hm (Nat.not_lt_zero _)
  | succ N ih =>
    intro f x1 x2 x3 x4 hm hi
    exact wkb_X2_readLevel_L39 V_l1 V_l2 hde hd1 hr_X2_readLevel hr_X2_readPart C    (fun f9 x19 x29 x39 x49 hk => ih f9 x19 x29 x39 x49 (Nat.lt_of_lt_of_le hk.2 (Nat.le_of_lt_succ hm)) hk.1) f x1 x2 x3 x4 (hs f x1 x2 x3 x4 hi)
set_option maxHeartbeats 4000000 in
set_option maxRecDepth 100000 in
theorem wk_X2_readLevel_L35 (V_l1 : VC_l1) (V_l2 : VC_l2) {Z : Zt} {m0 dd de : Nat} (hde : de + 1 ≤ dd) (hd1 : 3 ≤ dd) (hr_X2_readLevel : ∀ (f : Fn) (b1 : Int32) (b2 : Int32), Pre_X2_readLevel f b1 b2 → mu_X2_readLevel f b1 b2 < m0 → CT (zl Z) (zE Z) layC yX2_readLevel cX2_readLevel 6 none de [.ref (zad Z 42), .int b1, .int b2] f (pV (Post_X2_readLevel f b1 b2))) (hr_X2_readPart : ∀ (f : Fn) (b1 : Int32), Pre_X2_readPart f b1 → mu_X2_readPart f b1 < m0 → CT (zl Z) (zE Z) layC yX2_readPart cX2_readPart 3 none de [.ref (zad Z 42), .int b1] f (pV (Post_X2_readPart f b1))) (C : CX Z layC RX2 cX2_readLevel 6 none dd)     (f : Fn) (x1 : Int32) (x2 : Int32) (s0 : Int32) (h : wp_X2_readLevel_L35 m0   f x1 x2 s0 (zp Z)) : GG Z f [(0, .ref (zad Z 42)), (1, .int x1), (2, .int x2)] 35 [.int s0] := by
  refine g_istore_n (lv' := [(3, .int s0), (0, .ref (zad Z 42)), (1, .int x1), (2, .int x2)]) C dX2_readLevel_35 (by decide) rfl rfl ?_
  refine g_iconst C ki_0 dX2_readLevel_36 rfl ?_
  refine g_istore (lv' := [(4, .int (0 : Int32)), (3, .int s0), (0, .ref (zad Z 42)), (1, .int x1), (2, .int x2)]) C dX2_readLevel_37 (by decide) rfl rfl ?_
  refine g_lps [0, 1, 2, 3, 4] rfl ?_
  exact wk_X2_readLevel_L39 V_l1 V_l2 hde hd1 hr_X2_readLevel hr_X2_readPart C    _ _ _ _ _ h
set_option maxHeartbeats 4000000 in
set_option maxRecDepth 100000 in
theorem wk_X2_readLevel (V_l1 : VC_l1) (V_l2 : VC_l2) {Z : Zt} {m0 dd de : Nat} (hde : de + 1 ≤ dd) (hd1 : 3 ≤ dd) (hr_X2_readLevel : ∀ (f : Fn) (b1 : Int32) (b2 : Int32), Pre_X2_readLevel f b1 b2 → mu_X2_readLevel f b1 b2 < m0 → CT (zl Z) (zE Z) layC yX2_readLevel cX2_readLevel 6 none de [.ref (zad Z 42), .int b1, .int b2] f (pV (Post_X2_readLevel f b1 b2))) (hr_X2_readPart : ∀ (f : Fn) (b1 : Int32), Pre_X2_readPart f b1 → mu_X2_readPart f b1 < m0 → CT (zl Z) (zE Z) layC yX2_readPart cX2_readPart 3 none de [.ref (zad Z 42), .int b1] f (pV (Post_X2_readPart f b1))) (C : CX Z layC RX2 cX2_readLevel 6 none dd)     (f : Fn) (a1 : Int32) (a2 : Int32) (h : wp_X2_readLevel m0  f a1 a2 (zp Z)) : GG Z f [(0, .ref (zad Z 42)), (1, .int a1), (2, .int a2)] 0 [] := by
  refine g_iload_n C rfl dX2_readLevel_0 rfl ?_
  refine g_iconst C ki_4 dX2_readLevel_1 rfl ?_
  refine g_icmp_gt (tgt := 10) C dX2_readLevel_2 (by decide) rfl (fun hc1 => ?_) (fun hc1 => ?_)
  · replace h := h.1 hc1
    refine g_lps [0, 2] rfl ?_
    exact wk_X2_readLevel_L10 V_l1 V_l2 hde hd1 hr_X2_readLevel hr_X2_readPart C    _ _ h
  · replace h := h.2 hc1
    refine g_iload_n C rfl dX2_readLevel_5 rfl ?_
    refine g_iconst C ki_5 dX2_readLevel_6 rfl ?_
    refine g_icmp_le (tgt := 16) C dX2_readLevel_7 (by decide) rfl (fun hc6 => ?_) (fun hc6 => ?_)
    · replace h := h.1 hc6
      refine g_aload_n C rfl dX2_readLevel_16 rfl ?_
      refine g_iload_n C rfl dX2_readLevel_17 rfl ?_
      refine g_iconst C ki_1 dX2_readLevel_18 rfl ?_
      refine g_iadd C dX2_readLevel_19 rfl ?_
      refine g_iload_n C rfl dX2_readLevel_20 rfl ?_
      have hs7 := h.1
      replace h := h.2
      have hs8 := h.1
      replace h := h.2
      refine g_callVV C tw_431 tw_433 tp_1 tw_7 tw_434 hy_X2_readLevel (by decide) hde rfl (Nat.le_of_ble_eq_true rfl) rfl rfl (hr_X2_readLevel f (a1 + (1 : Int32)) a2 hs7 hs8) dX2_readLevel_21 rfl rfl (fun f9 hp10 => ?_)
      replace h := h f9 hp10
      refine g_iload_n C rfl dX2_readLevel_24 rfl ?_
      refine g_iconst C ki_2 dX2_readLevel_25 rfl ?_
      refine g_icmp_ne (tgt := 33) C dX2_readLevel_26 (by decide) rfl (fun hc11 => ?_) (fun hc11 => ?_)
      · replace h := h.1 hc11
        refine g_bipush C kb_50 dX2_readLevel_33 rfl ?_
        exact wk_X2_readLevel_L35 V_l1 V_l2 hde hd1 hr_X2_readLevel hr_X2_readPart C    _ _ _ _ h
      · replace h := h.2 hc11
        refine g_iconst C ki_1 dX2_readLevel_29 rfl ?_
        refine g_goto (q := 35) C dX2_readLevel_30 (by decide) ?_
        exact wk_X2_readLevel_L35 V_l1 V_l2 hde hd1 hr_X2_readLevel hr_X2_readPart C    _ _ _ _ h
    · replace h := h.2 hc6
      refine g_lps [0, 2] rfl ?_
      exact wk_X2_readLevel_L10 V_l1 V_l2 hde hd1 hr_X2_readLevel hr_X2_readPart C    _ _ h
set_option maxHeartbeats 4000000 in
set_option maxRecDepth 100000 in
theorem wk_X2_readPart_L37 (V_l1 : VC_l1) (V_l2 : VC_l2) {Z : Zt} {m0 dd de : Nat} (hde : de + 1 ≤ dd) (hd1 : 3 ≤ dd) (hr_X2_readLevel : ∀ (f : Fn) (b1 : Int32) (b2 : Int32), Pre_X2_readLevel f b1 b2 → mu_X2_readLevel f b1 b2 < m0 → CT (zl Z) (zE Z) layC yX2_readLevel cX2_readLevel 6 none de [.ref (zad Z 42), .int b1, .int b2] f (pV (Post_X2_readLevel f b1 b2))) (hr_X2_readPart : ∀ (f : Fn) (b1 : Int32), Pre_X2_readPart f b1 → mu_X2_readPart f b1 < m0 → CT (zl Z) (zE Z) layC yX2_readPart cX2_readPart 3 none de [.ref (zad Z 42), .int b1] f (pV (Post_X2_readPart f b1))) (C : CX Z layC RX2 cX2_readPart 3 none dd)     (f : Fn) (x2 : Int32) (h : wp_X2_readPart_L37 m0   f x2 (zp Z)) : GG Z f [(0, .ref (zad Z 42)), (2, .int x2)] 37 [] := by
  refine g_aload_n C rfl dX2_readPart_37 rfl ?_
  refine g_dup C rfl dX2_readPart_38 rfl ?_
  refine fg_X2_23I (k := 42) (x := (f 42 3)) C rfl rfl rfl dX2_readPart_39 rfl ?_
  refine g_iconst C ki_1 dX2_readPart_42 rfl ?_
  refine g_iadd C dX2_readPart_43 rfl ?_
  refine fp_X2_23 (k := 42) C rfl rfl (Nat.le_of_ble_eq_true rfl) dX2_readPart_44 rfl ?_
  refine g_aload_n C rfl dX2_readPart_47 rfl ?_
  refine g_iload_n C rfl dX2_readPart_48 rfl ?_
  refine g_ineg C dX2_readPart_49 rfl ?_
  have hs3 := h.1
  replace h := h.2
  refine g_callVV C tw_450 tw_452 tp_5 tw_7 tw_453 hy_X2_addStep (by decide) (by omega) rfl (Nat.le_of_ble_eq_true rfl) rfl rfl (ct_X2_addStep V_l1 V_l2   (up2 f 42 3 ((f 42 3) + (1 : Int32))) (-x2) hs3) dX2_readPart_50 rfl rfl (fun f4 hp5 => ?_)
  replace h := h f4 hp5
  refine g_goto (q := 176) C dX2_readPart_53 (by decide) ?_
  exact g_vret C dX2_readPart_176 h
set_option maxHeartbeats 4000000 in
set_option maxRecDepth 100000 in
theorem wk_X2_readPart_L171 (V_l1 : VC_l1) (V_l2 : VC_l2) {Z : Zt} {m0 dd de : Nat} (hde : de + 1 ≤ dd) (hd1 : 3 ≤ dd) (hr_X2_readLevel : ∀ (f : Fn) (b1 : Int32) (b2 : Int32), Pre_X2_readLevel f b1 b2 → mu_X2_readLevel f b1 b2 < m0 → CT (zl Z) (zE Z) layC yX2_readLevel cX2_readLevel 6 none de [.ref (zad Z 42), .int b1, .int b2] f (pV (Post_X2_readLevel f b1 b2))) (hr_X2_readPart : ∀ (f : Fn) (b1 : Int32), Pre_X2_readPart f b1 → mu_X2_readPart f b1 < m0 → CT (zl Z) (zE Z) layC yX2_readPart cX2_readPart 3 none de [.ref (zad Z 42), .int b1] f (pV (Post_X2_readPart f b1))) (C : CX Z layC RX2 cX2_readPart 3 none dd)     (f : Fn)  (h : wp_X2_readPart_L171 m0   f  (zp Z)) : GG Z f [(0, .ref (zad Z 42))] 171 [] := by
  refine g_aload_n C rfl dX2_readPart_171 rfl ?_
  refine g_iconst C ki_1 dX2_readPart_172 rfl ?_
  refine fp_X2_26 (k := 42) C (Or.inr rfl) rfl rfl (Nat.le_of_ble_eq_true rfl) dX2_readPart_173 rfl ?_
  exact g_vret C dX2_readPart_176 h
set_option maxHeartbeats 4000000 in
set_option maxRecDepth 100000 in
theorem wk_X2_readPart_L164 (V_l1 : VC_l1) (V_l2 : VC_l2) {Z : Zt} {m0 dd de : Nat} (hde : de + 1 ≤ dd) (hd1 : 3 ≤ dd) (hr_X2_readLevel : ∀ (f : Fn) (b1 : Int32) (b2 : Int32), Pre_X2_readLevel f b1 b2 → mu_X2_readLevel f b1 b2 < m0 → CT (zl Z) (zE Z) layC yX2_readLevel cX2_readLevel 6 none de [.ref (zad Z 42), .int b1, .int b2] f (pV (Post_X2_readLevel f b1 b2))) (hr_X2_readPart : ∀ (f : Fn) (b1 : Int32), Pre_X2_readPart f b1 → mu_X2_readPart f b1 < m0 → CT (zl Z) (zE Z) layC yX2_readPart cX2_readPart 3 none de [.ref (zad Z 42), .int b1] f (pV (Post_X2_readPart f b1))) (C : CX Z layC RX2 cX2_readPart 3 none dd)     (f : Fn) (s0 : Int32) (s1 : Int32) (h : wp_X2_readPart_L164 m0   f s0 s1 (zp Z)) : GG Z f [] 164 [.int s0, .int s1, .ref (zad Z 42)] := by
  refine g_iadd C dX2_readPart_164 rfl ?_
  refine fp_X2_23 (k := 42) C rfl rfl (Nat.le_of_ble_eq_true rfl) dX2_readPart_165 rfl ?_
  refine g_goto (q := 176) C dX2_readPart_168 (by decide) ?_
  exact g_vret C dX2_readPart_176 h
set_option maxHeartbeats 4000000 in
set_option maxRecDepth 100000 in
theorem wk_X2_readPart_L144 (V_l1 : VC_l1) (V_l2 : VC_l2) {Z : Zt} {m0 dd de : Nat} (hde : de + 1 ≤ dd) (hd1 : 3 ≤ dd) (hr_X2_readLevel : ∀ (f : Fn) (b1 : Int32) (b2 : Int32), Pre_X2_readLevel f b1 b2 → mu_X2_readLevel f b1 b2 < m0 → CT (zl Z) (zE Z) layC yX2_readLevel cX2_readLevel 6 none de [.ref (zad Z 42), .int b1, .int b2] f (pV (Post_X2_readLevel f b1 b2))) (hr_X2_readPart : ∀ (f : Fn) (b1 : Int32), Pre_X2_readPart f b1 → mu_X2_readPart f b1 < m0 → CT (zl Z) (zE Z) layC yX2_readPart cX2_readPart 3 none de [.ref (zad Z 42), .int b1] f (pV (Post_X2_readPart f b1))) (C : CX Z layC RX2 cX2_readPart 3 none dd)     (f : Fn) (s0 : Int32) (h : wp_X2_readPart_L144 m0   f s0 (zp Z)) : GG Z f [(0, .ref (zad Z 42))] 144 [.int s0, .ref (zad Z 42)] := by
  have hs16 := h.1
  replace h := h.2
  refine fp_X2_26 (k := 42) C hs16 rfl rfl (Nat.le_of_ble_eq_true rfl) dX2_readPart_144 rfl ?_
  refine g_aload_n C rfl dX2_readPart_147 rfl ?_
  refine g_dup C rfl dX2_readPart_148 rfl ?_
  refine fg_X2_23I (k := 42) (x := (f 42 3)) C rfl rfl (by simp [up2, upd]) dX2_readPart_149 rfl ?_
  refine g_aload_n C rfl dX2_readPart_152 rfl ?_
  refine fg_X2_26I (k := 42) (x := s0) C rfl rfl (by simp [up2, upd]) dX2_readPart_153 rfl ?_
  refine g_if_eq (tgt := 163) C dX2_readPart_156 (by decide) rfl (fun hc17 => ?_) (fun hc17 => ?_)
  · replace h := h.1 hc17
    refine g_iconst C ki_1 dX2_readPart_163 rfl ?_
    refine g_lps [] rfl ?_
    exact wk_X2_readPart_L164 V_l1 V_l2 hde hd1 hr_X2_readLevel hr_X2_readPart C    _ _ _ h
  · replace h := h.2 hc17
    refine g_iconst C ki_0 dX2_readPart_159 rfl ?_
    refine g_goto (q := 164) C dX2_readPart_160 (by decide) ?_
    refine g_lps [] rfl ?_
    exact wk_X2_readPart_L164 V_l1 V_l2 hde hd1 hr_X2_readLevel hr_X2_readPart C    _ _ _ h
set_option maxHeartbeats 4000000 in
set_option maxRecDepth 100000 in
theorem wk_X2_readPart_L139 (V_l1 : VC_l1) (V_l2 : VC_l2) {Z : Zt} {m0 dd de : Nat} (hde : de + 1 ≤ dd) (hd1 : 3 ≤ dd) (hr_X2_readLevel : ∀ (f : Fn) (b1 : Int32) (b2 : Int32), Pre_X2_readLevel f b1 b2 → mu_X2_readLevel f b1 b2 < m0 → CT (zl Z) (zE Z) layC yX2_readLevel cX2_readLevel 6 none de [.ref (zad Z 42), .int b1, .int b2] f (pV (Post_X2_readLevel f b1 b2))) (hr_X2_readPart : ∀ (f : Fn) (b1 : Int32), Pre_X2_readPart f b1 → mu_X2_readPart f b1 < m0 → CT (zl Z) (zE Z) layC yX2_readPart cX2_readPart 3 none de [.ref (zad Z 42), .int b1] f (pV (Post_X2_readPart f b1))) (C : CX Z layC RX2 cX2_readPart 3 none dd)     (f : Fn)  (h : wp_X2_readPart_L139 m0   f  (zp Z)) : GG Z f [(0, .ref (zad Z 42))] 139 [.ref (zad Z 42)] := by
  refine g_iconst C ki_1 dX2_readPart_139 rfl ?_
  refine g_goto (q := 144) C dX2_readPart_140 (by decide) ?_
  exact wk_X2_readPart_L144 V_l1 V_l2 hde hd1 hr_X2_readLevel hr_X2_readPart C    _ _ h
set_option maxHeartbeats 4000000 in
set_option maxRecDepth 100000 in
theorem wk_X2_readPart_L93 (V_l1 : VC_l1) (V_l2 : VC_l2) {Z : Zt} {m0 dd de : Nat} (hde : de + 1 ≤ dd) (hd1 : 3 ≤ dd) (hr_X2_readLevel : ∀ (f : Fn) (b1 : Int32) (b2 : Int32), Pre_X2_readLevel f b1 b2 → mu_X2_readLevel f b1 b2 < m0 → CT (zl Z) (zE Z) layC yX2_readLevel cX2_readLevel 6 none de [.ref (zad Z 42), .int b1, .int b2] f (pV (Post_X2_readLevel f b1 b2))) (hr_X2_readPart : ∀ (f : Fn) (b1 : Int32), Pre_X2_readPart f b1 → mu_X2_readPart f b1 < m0 → CT (zl Z) (zE Z) layC yX2_readPart cX2_readPart 3 none de [.ref (zad Z 42), .int b1] f (pV (Post_X2_readPart f b1))) (C : CX Z layC RX2 cX2_readPart 3 none dd)     (f : Fn) (x1 : Int32) (x2 : Int32) (h : wp_X2_readPart_L93 m0   f x1 x2 (zp Z)) : GG Z f [(0, .ref (zad Z 42)), (1, .int x1), (2, .int x2)] 93 [] := by
  refine g_iload_n C rfl dX2_readPart_93 rfl ?_
  refine g_bipush C kb_40 dX2_readPart_94 rfl ?_
  refine g_icmp_ne (tgt := 171) C dX2_readPart_96 (by decide) rfl (fun hc9 => ?_) (fun hc9 => ?_)
  · replace h := h.1 hc9
    refine g_lps [0] rfl ?_
    exact wk_X2_readPart_L171 V_l1 V_l2 hde hd1 hr_X2_readLevel hr_X2_readPart C    _  h
  · replace h := h.2 hc9
    refine g_iload_n C rfl dX2_readPart_99 rfl ?_
    refine g_iconst C ki_5 dX2_readPart_100 rfl ?_
    refine g_icmp_ge (tgt := 171) C dX2_readPart_101 (by decide) rfl (fun hc10 => ?_) (fun hc10 => ?_)
    · replace h := h.1 hc10
      refine g_lps [0] rfl ?_
      exact wk_X2_readPart_L171 V_l1 V_l2 hde hd1 hr_X2_readLevel hr_X2_readPart C    _  h
    · replace h := h.2 hc10
      refine g_aload_n C rfl dX2_readPart_104 rfl ?_
      refine g_dup C rfl dX2_readPart_105 rfl ?_
      refine fg_X2_23I (k := 42) (x := (f 42 3)) C rfl rfl rfl dX2_readPart_106 rfl ?_
      refine g_iconst C ki_1 dX2_readPart_109 rfl ?_
      refine g_iadd C dX2_readPart_110 rfl ?_
      refine fp_X2_23 (k := 42) C rfl rfl (Nat.le_of_ble_eq_true rfl) dX2_readPart_111 rfl ?_
      refine g_aload_n C rfl dX2_readPart_114 rfl ?_
      refine g_iconst C ki_0 dX2_readPart_115 rfl ?_
      refine g_iload_n C rfl dX2_readPart_116 rfl ?_
      refine g_iconst C ki_1 dX2_readPart_117 rfl ?_
      refine g_iadd C dX2_readPart_118 rfl ?_
      have hs11 := h.1
      replace h := h.2
      have hs12 := h.1
      replace h := h.2
      refine g_callVV C tw_431 tw_433 tp_1 tw_7 tw_434 hy_X2_readLevel (by decide) hde rfl (Nat.le_of_ble_eq_true rfl) rfl rfl (hr_X2_readLevel (up2 f 42 3 ((f 42 3) + (1 : Int32))) (0 : Int32) (x1 + (1 : Int32)) hs11 hs12) dX2_readPart_119 rfl rfl (fun f13 hp14 => ?_)
      replace h := h f13 hp14
      refine g_aload_n C rfl dX2_readPart_122 rfl ?_
      refine g_aload_n C rfl dX2_readPart_123 rfl ?_
      refine fg_X2_26I (k := 42) (x := (f13 42 4)) C rfl rfl rfl dX2_readPart_124 rfl ?_
      refine g_if_ne (tgt := 139) C dX2_readPart_127 (by decide) rfl (fun hc15 => ?_) (fun hc15 => ?_)
      · replace h := h.1 hc15
        refine g_lps [0] rfl ?_
        exact wk_X2_readPart_L139 V_l1 V_l2 hde hd1 hr_X2_readLevel hr_X2_readPart C    _  h
      · replace h := h.2 hc15
        refine g_aload_n C rfl dX2_readPart_130 rfl ?_
        refine g_callVD C tw_439 tw_441 tp_3 tw_7 tw_442 hy_X2_next (by decide) (by omega) rfl (Nat.le_of_ble_eq_true rfl) rfl rfl (ct_X2_next V_l1 V_l2   f13 ) dX2_readPart_131 rfl rfl ?_
        refine g_bipush C kb_41 dX2_readPart_134 rfl ?_
        refine g_icmp_eq (tgt := 143) C dX2_readPart_136 (by decide) rfl (fun hc18 => ?_) (fun hc18 => ?_)
        · replace h := h.1 hc18
          refine g_iconst C ki_0 dX2_readPart_143 rfl ?_
          refine g_lps [0] rfl ?_
          exact wk_X2_readPart_L144 V_l1 V_l2 hde hd1 hr_X2_readLevel hr_X2_readPart C    _ _ h
        · replace h := h.2 hc18
          refine g_lps [0] rfl ?_
          exact wk_X2_readPart_L139 V_l1 V_l2 hde hd1 hr_X2_readLevel hr_X2_readPart C    _  h
set_option maxHeartbeats 4000000 in
set_option maxRecDepth 100000 in
theorem wk_X2_readPart (V_l1 : VC_l1) (V_l2 : VC_l2) {Z : Zt} {m0 dd de : Nat} (hde : de + 1 ≤ dd) (hd1 : 3 ≤ dd) (hr_X2_readLevel : ∀ (f : Fn) (b1 : Int32) (b2 : Int32), Pre_X2_readLevel f b1 b2 → mu_X2_readLevel f b1 b2 < m0 → CT (zl Z) (zE Z) layC yX2_readLevel cX2_readLevel 6 none de [.ref (zad Z 42), .int b1, .int b2] f (pV (Post_X2_readLevel f b1 b2))) (hr_X2_readPart : ∀ (f : Fn) (b1 : Int32), Pre_X2_readPart f b1 → mu_X2_readPart f b1 < m0 → CT (zl Z) (zE Z) layC yX2_readPart cX2_readPart 3 none de [.ref (zad Z 42), .int b1] f (pV (Post_X2_readPart f b1))) (C : CX Z layC RX2 cX2_readPart 3 none dd)     (f : Fn) (a1 : Int32) (h : wp_X2_readPart m0  f a1 (zp Z)) : GG Z f [(0, .ref (zad Z 42)), (1, .int a1)] 0 [] := by
  refine g_aload_n C rfl dX2_readPart_0 rfl ?_
  refine g_callVD C tw_439 tw_441 tp_3 tw_7 tw_442 hy_X2_next (by decide) (by omega) rfl (Nat.le_of_ble_eq_true rfl) rfl rfl (ct_X2_next V_l1 V_l2   f ) dX2_readPart_1 rfl rfl ?_
  refine g_istore_n (lv' := [(2, .int (Val_X2_next f)), (0, .ref (zad Z 42)), (1, .int a1)]) C dX2_readPart_4 (by decide) rfl rfl ?_
  refine g_iload_n C rfl dX2_readPart_5 rfl ?_
  refine g_callSD C tw_443 tw_444 tw_7 tw_445 hy_X2_isDigit (by decide) (by omega) rfl (Nat.le_of_ble_eq_true rfl) (ct_X2_isDigit V_l1 V_l2   f (Val_X2_next f) ) dX2_readPart_6 rfl rfl ?_
  refine g_if_eq (tgt := 19) C dX2_readPart_9 (by decide) rfl (fun hc1 => ?_) (fun hc1 => ?_)
  · replace h := h.1 hc1
    refine g_iload_n C rfl dX2_readPart_19 rfl ?_
    refine g_bipush C kb_107 dX2_readPart_20 rfl ?_
    refine g_icmp_eq (tgt := 37) C dX2_readPart_22 (by decide) rfl (fun hc2 => ?_) (fun hc2 => ?_)
    · replace h := h.1 hc2
      refine g_lps [0, 2] rfl ?_
      exact wk_X2_readPart_L37 V_l1 V_l2 hde hd1 hr_X2_readLevel hr_X2_readPart C    _ _ h
    · replace h := h.2 hc2
      refine g_iload_n C rfl dX2_readPart_25 rfl ?_
      refine g_bipush C kb_118 dX2_readPart_26 rfl ?_
      refine g_icmp_eq (tgt := 37) C dX2_readPart_28 (by decide) rfl (fun hc6 => ?_) (fun hc6 => ?_)
      · replace h := h.1 hc6
        refine g_lps [0, 2] rfl ?_
        exact wk_X2_readPart_L37 V_l1 V_l2 hde hd1 hr_X2_readLevel hr_X2_readPart C    _ _ h
      · replace h := h.2 hc6
        refine g_iload_n C rfl dX2_readPart_31 rfl ?_
        refine g_bipush C kb_109 dX2_readPart_32 rfl ?_
        refine g_icmp_ne (tgt := 56) C dX2_readPart_34 (by decide) rfl (fun hc7 => ?_) (fun hc7 => ?_)
        · replace h := h.1 hc7
          refine g_iload_n C rfl dX2_readPart_56 rfl ?_
          refine g_bipush C kb_33 dX2_readPart_57 rfl ?_
          refine g_icmp_ne (tgt := 93) C dX2_readPart_59 (by decide) rfl (fun hc8 => ?_) (fun hc8 => ?_)
          · replace h := h.1 hc8
            refine g_lps [0, 1, 2] rfl ?_
            exact wk_X2_readPart_L93 V_l1 V_l2 hde hd1 hr_X2_readLevel hr_X2_readPart C    _ _ _ h
          · replace h := h.2 hc8
            refine g_iload_n C rfl dX2_readPart_62 rfl ?_
            refine g_iconst C ki_5 dX2_readPart_63 rfl ?_
            refine g_icmp_ge (tgt := 93) C dX2_readPart_64 (by decide) rfl (fun hc19 => ?_) (fun hc19 => ?_)
            · replace h := h.1 hc19
              refine g_lps [0, 1, 2] rfl ?_
              exact wk_X2_readPart_L93 V_l1 V_l2 hde hd1 hr_X2_readLevel hr_X2_readPart C    _ _ _ h
            · replace h := h.2 hc19
              refine g_aload_n C rfl dX2_readPart_67 rfl ?_
              refine g_dup C rfl dX2_readPart_68 rfl ?_
              refine fg_X2_23I (k := 42) (x := (f 42 3)) C rfl rfl rfl dX2_readPart_69 rfl ?_
              refine g_iconst C ki_1 dX2_readPart_72 rfl ?_
              refine g_iadd C dX2_readPart_73 rfl ?_
              refine fp_X2_23 (k := 42) C rfl rfl (Nat.le_of_ble_eq_true rfl) dX2_readPart_74 rfl ?_
              refine g_aload_n C rfl dX2_readPart_77 rfl ?_
              refine g_iload_n C rfl dX2_readPart_78 rfl ?_
              refine g_iconst C ki_1 dX2_readPart_79 rfl ?_
              refine g_iadd C dX2_readPart_80 rfl ?_
              have hs20 := h.1
              replace h := h.2
              have hs21 := h.1
              replace h := h.2
              refine g_callVV C tw_435 tw_437 tp_2 tw_7 tw_438 hy_X2_readPart (by decide) hde rfl (Nat.le_of_ble_eq_true rfl) rfl rfl (hr_X2_readPart (up2 f 42 3 ((f 42 3) + (1 : Int32))) (a1 + (1 : Int32)) hs20 hs21) dX2_readPart_81 rfl rfl (fun f22 hp23 => ?_)
              replace h := h f22 hp23
              refine g_aload_n C rfl dX2_readPart_84 rfl ?_
              refine g_iload_n C rfl dX2_readPart_85 rfl ?_
              refine g_ineg C dX2_readPart_86 rfl ?_
              have hs24 := h.1
              replace h := h.2
              refine g_callVV C tw_450 tw_452 tp_5 tw_7 tw_453 hy_X2_addStep (by decide) (by omega) rfl (Nat.le_of_ble_eq_true rfl) rfl rfl (ct_X2_addStep V_l1 V_l2   f22 (-(Val_X2_next f)) hs24) dX2_readPart_87 rfl rfl (fun f25 hp26 => ?_)
              replace h := h f25 hp26
              refine g_goto (q := 176) C dX2_readPart_90 (by decide) ?_
              exact g_vret C dX2_readPart_176 h
        · replace h := h.2 hc7
          refine g_lps [0, 2] rfl ?_
          exact wk_X2_readPart_L37 V_l1 V_l2 hde hd1 hr_X2_readLevel hr_X2_readPart C    _ _ h
  · replace h := h.2 hc1
    refine g_aload_n C rfl dX2_readPart_12 rfl ?_
    have hs27 := h.1
    replace h := h.2
    refine g_callVV C tw_446 tw_448 tp_4 tw_7 tw_449 hy_X2_readNumber (by decide) (by omega) rfl (Nat.le_of_ble_eq_true rfl) rfl rfl (ct_X2_readNumber V_l1 V_l2   f hs27) dX2_readPart_13 rfl rfl (fun f28 hp29 => ?_)
    replace h := h f28 hp29
    refine g_goto (q := 176) C dX2_readPart_16 (by decide) ?_
    exact g_vret C dX2_readPart_176 h
set_option maxRecDepth 100000 in
theorem ctN_rd (V_l1 : VC_l1) (V_l2 : VC_l2) {l : Launch} {E : Ev} : ∀ N : Nat, (∀ (f : Fn) (a1 : Int32) (a2 : Int32), Pre_X2_readLevel f a1 a2 → mu_X2_readLevel f a1 a2 < N → CT l E layC yX2_readLevel cX2_readLevel 6 none (3 + N) [.ref (E.2.1 42), .int a1, .int a2] f (pV (Post_X2_readLevel f a1 a2))) ∧ (∀ (f : Fn) (a1 : Int32), Pre_X2_readPart f a1 → mu_X2_readPart f a1 < N → CT l E layC yX2_readPart cX2_readPart 3 none (3 + N) [.ref (E.2.1 42), .int a1] f (pV (Post_X2_readPart f a1))) ∧ True := by
  intro N
  induction N with
  | zero => exact ⟨fun f a1 a2 _ h => absurd h (Nat.not_lt_zero _), fun f a1 _ h => absurd h (Nat.not_lt_zero _), trivial⟩
  | succ N ih =>
    obtain ⟨i_X2_readLevel, i_X2_readPart, -⟩ := ih
    refine ⟨?_, ?_, trivial⟩
    · intro f a1 a2 hpre hmu
      refine CT.of (by decide +kernel) (Nat.le_of_ble_eq_true rfl) (fun Z hl9 hE9 hp9 C => ?_)
      subst hl9
      subst hE9
      exact wk_X2_readLevel V_l1 V_l2 (m0 := mu_X2_readLevel f a1 a2) (dd := 3 + (N + 1)) (de := 3 + N) (Nat.le_refl _) (by omega) (fun f9 a19 a29 h1 h2 => i_X2_readLevel f9 a19 a29 h1 (by omega)) (fun f9 a19 h1 h2 => i_X2_readPart f9 a19 h1 (by omega)) C f a1 a2 (by rw [hp9]; exact (V_l2.2.2.2.2.2.2.2.2.2.2.2.2.2.2.2.2.2.2.2.2.2.2.2.2.2.2.2.2.2.2.2.1 f a1 a2 hpre).2)
    · intro f a1 hpre hmu
      refine CT.of (by decide +kernel) (Nat.le_of_ble_eq_true rfl) (fun Z hl9 hE9 hp9 C => ?_)
      subst hl9
      subst hE9
      exact wk_X2_readPart V_l1 V_l2 (m0 := mu_X2_readPart f a1) (dd := 3 + (N + 1)) (de := 3 + N) (Nat.le_refl _) (by omega) (fun f9 a19 a29 h1 h2 => i_X2_readLevel f9 a19 a29 h1 (by omega)) (fun f9 a19 h1 h2 => i_X2_readPart f9 a19 h1 (by omega)) C f a1 (by rw [hp9]; exact (V_l2.2.2.2.2.2.2.2.2.2.2.2.2.2.2.2.2.2.2.2.2.2.2.2.2.2.2.2.2.2.2.2.2.1 f a1 hpre).2)
theorem ct_X2_readLevel (V_l1 : VC_l1) (V_l2 : VC_l2) {l : Launch} {E : Ev} (f : Fn) (a1 : Int32) (a2 : Int32) (hpre : Pre_X2_readLevel f a1 a2) : CT l E layC yX2_readLevel cX2_readLevel 6 none 51 [.ref (E.2.1 42), .int a1, .int a2] f (pV (Post_X2_readLevel f a1 a2)) := (ctN_rd V_l1 V_l2 48).1 f a1 a2 hpre (V_l2.2.2.2.2.2.2.2.2.2.2.2.2.2.2.2.2.2.2.2.2.2.2.2.2.2.2.2.2.2.2.2.1 f a1 a2 hpre).1
theorem ct_X2_readPart (V_l1 : VC_l1) (V_l2 : VC_l2) {l : Launch} {E : Ev} (f : Fn) (a1 : Int32) (hpre : Pre_X2_readPart f a1) : CT l E layC yX2_readPart cX2_readPart 3 none 51 [.ref (E.2.1 42), .int a1] f (pV (Post_X2_readPart f a1)) := (ctN_rd V_l1 V_l2 48).2.1 f a1 hpre (V_l2.2.2.2.2.2.2.2.2.2.2.2.2.2.2.2.2.2.2.2.2.2.2.2.2.2.2.2.2.2.2.2.2.1 f a1 hpre).1
set_option maxHeartbeats 4000000 in
set_option maxRecDepth 100000 in
theorem wk_X2_readTape_L36 (V_l1 : VC_l1) (V_l2 : VC_l2) {Z : Zt}  (C : CX Z layC RX2 cX2_readTape 1 (some .int) 52)     (f : Fn)  (h : wp_X2_readTape_L36   f  (zp Z)) : GG Z f [(0, .ref (zad Z 42))] 36 [] := by
  refine g_aload_n C rfl dX2_readTape_36 rfl ?_
  refine fg_X2_23I (k := 42) (x := (f 42 3)) C rfl rfl rfl dX2_readTape_37 rfl ?_
  refine g_goto (q := 44) C dX2_readTape_40 (by decide) ?_
  exact g_iret C dX2_readTape_44 h
set_option maxHeartbeats 4000000 in
set_option maxRecDepth 100000 in
theorem wk_X2_readTape (V_l1 : VC_l1) (V_l2 : VC_l2) {Z : Zt}  (C : CX Z layC RX2 cX2_readTape 1 (some .int) 52)     (f : Fn)  (h : wp_X2_readTape  f  (zp Z)) : GG Z f [(0, .ref (zad Z 42))] 0 [] := by
  refine g_aload_n C rfl dX2_readTape_0 rfl ?_
  refine g_iconst C ki_0 dX2_readTape_1 rfl ?_
  refine fp_X2_19 (k := 42) C rfl rfl (Nat.le_of_ble_eq_true rfl) dX2_readTape_2 rfl ?_
  refine g_aload_n C rfl dX2_readTape_5 rfl ?_
  refine g_iconst C ki_0 dX2_readTape_6 rfl ?_
  refine fp_X2_23 (k := 42) C rfl rfl (Nat.le_of_ble_eq_true rfl) dX2_readTape_7 rfl ?_
  refine g_aload_n C rfl dX2_readTape_10 rfl ?_
  refine g_iconst C ki_0 dX2_readTape_11 rfl ?_
  refine fp_X2_26 (k := 42) C (Or.inl rfl) rfl rfl (Nat.le_of_ble_eq_true rfl) dX2_readTape_12 rfl ?_
  refine g_aload_n C rfl dX2_readTape_15 rfl ?_
  refine g_iconst C ki_0 dX2_readTape_16 rfl ?_
  refine g_iconst C ki_0 dX2_readTape_17 rfl ?_
  have hs1 := h.1
  replace h := h.2
  refine g_callVV C tw_431 tw_433 tp_1 tw_7 tw_434 hy_X2_readLevel (by decide) (by decide) rfl (Nat.le_of_ble_eq_true rfl) rfl rfl (ct_X2_readLevel V_l1 V_l2   (up2 (up2 (up2 f 42 2 (0 : Int32)) 42 3 (0 : Int32)) 42 4 (0 : Int32)) (0 : Int32) (0 : Int32) hs1) dX2_readTape_18 rfl rfl (fun f2 hp3 => ?_)
  replace h := h f2 hp3
  refine g_aload_n C rfl dX2_readTape_21 rfl ?_
  refine fg_X2_26I (k := 42) (x := (f2 42 4)) C rfl rfl rfl dX2_readTape_22 rfl ?_
  refine g_if_ne (tgt := 36) C dX2_readTape_25 (by decide) rfl (fun hc4 => ?_) (fun hc4 => ?_)
  · replace h := h.1 hc4
    exact wk_X2_readTape_L36 V_l1 V_l2  C    _  h
  · replace h := h.2 hc4
    refine g_aload_n C rfl dX2_readTape_28 rfl ?_
    refine g_callVD C tw_439 tw_441 tp_3 tw_7 tw_442 hy_X2_next (by decide) (by decide) rfl (Nat.le_of_ble_eq_true rfl) rfl rfl (ct_X2_next V_l1 V_l2   f2 ) dX2_readTape_29 rfl rfl ?_
    refine g_iconst C ki_m1 dX2_readTape_32 rfl ?_
    refine g_icmp_eq (tgt := 43) C dX2_readTape_33 (by decide) rfl (fun hc5 => ?_) (fun hc5 => ?_)
    · replace h := h.1 hc5
      refine g_iconst C ki_m1 dX2_readTape_43 rfl ?_
      exact g_iret C dX2_readTape_44 h
    · replace h := h.2 hc5
      exact wk_X2_readTape_L36 V_l1 V_l2  C    _  h
set_option maxRecDepth 100000 in
theorem ct_X2_readTape (V_l1 : VC_l1) (V_l2 : VC_l2) {l : Launch} {E : Ev}   (f : Fn)  (hpre : Pre_X2_readTape f) : CT l E layC yX2_readTape cX2_readTape 1 (some .int) 52 [.ref (E.2.1 42)] f (pI (Post_X2_readTape f)) := by
  refine CT.of (by decide +kernel) (Nat.le_of_ble_eq_true rfl) (fun Z hl9 hE9 hp9 C => ?_)
  subst hl9
  subst hE9
  exact wk_X2_readTape V_l1 V_l2 C   f  (by rw [hp9]; exact V_l2.2.2.2.2.2.2.2.2.2.2.2.2.2.2.2.2.2.2.2.2.2.2.2.2.2.2.2.2.2.2.2.2.2.1  f   hpre)
set_option maxHeartbeats 4000000 in
set_option maxRecDepth 100000 in
theorem wk_X6_bodyAt (V_l1 : VC_l1) (V_l2 : VC_l2) {Z : Zt}  (C : CX Z layC RX6 cX6_bodyAt 2 (some .int) 0)     (f : Fn) (a1 : Int32) (h : wp_X6_bodyAt  f a1 (zp Z)) : GG Z f [(0, .ref (zad Z 44)), (1, .int a1)] 0 [] := by
  refine g_iload_n C rfl dX6_bodyAt_0 rfl ?_
  refine g_if_lt (tgt := 27) C dX6_bodyAt_1 (by decide) rfl (fun hc1 => ?_) (fun hc1 => ?_)
  · replace h := h.1 hc1
    refine g_iconst C ki_0 dX6_bodyAt_27 rfl ?_
    exact g_iret C dX6_bodyAt_28 h
  · replace h := h.2 hc1
    refine g_iload_n C rfl dX6_bodyAt_4 rfl ?_
    refine g_aload_n C rfl dX6_bodyAt_5 rfl ?_
    refine fg_X6_22I (k := 44) (x := (f 44 1)) C rfl rfl rfl dX6_bodyAt_6 rfl ?_
    refine g_icmp_ge (tgt := 27) C dX6_bodyAt_9 (by decide) rfl (fun hc2 => ?_) (fun hc2 => ?_)
    · replace h := h.1 hc2
      refine g_iconst C ki_0 dX6_bodyAt_27 rfl ?_
      exact g_iret C dX6_bodyAt_28 h
    · replace h := h.2 hc2
      refine g_iload_n C rfl dX6_bodyAt_12 rfl ?_
      refine g_bipush C kb_40 dX6_bodyAt_13 rfl ?_
      refine g_icmp_ge (tgt := 27) C dX6_bodyAt_15 (by decide) rfl (fun hc3 => ?_) (fun hc3 => ?_)
      · replace h := h.1 hc3
        refine g_iconst C ki_0 dX6_bodyAt_27 rfl ?_
        exact g_iret C dX6_bodyAt_28 h
      · replace h := h.2 hc3
        refine g_aload_n C rfl dX6_bodyAt_18 rfl ?_
        refine fg_X6_9R (k := 44) (p := 45) C rfl rfl dX6_bodyAt_19 rfl ?_
        refine g_iload_n C rfl dX6_bodyAt_22 rfl ?_
        have hs4 := h.1
        replace h := h.2
        refine g_ialdx (k := 45) (j := a1.toNatClampNeg) (x := (f 45 a1.toNatClampNeg)) C rfl hs4 rfl rfl dX6_bodyAt_23 rfl ?_
        refine g_goto (q := 28) C dX6_bodyAt_24 (by decide) ?_
        exact g_iret C dX6_bodyAt_28 h
set_option maxRecDepth 100000 in
theorem ct_X6_bodyAt (V_l1 : VC_l1) (V_l2 : VC_l2) {l : Launch} {E : Ev}   (f : Fn) (a1 : Int32)  : CT l E layC yX6_bodyAt cX6_bodyAt 2 (some .int) 0 [.ref (E.2.1 44), .int a1] f (pI (fun r9 f9 => r9 = Val_X6_bodyAt f a1 ∧ f9 = f)) := by
  refine CT.of (by decide +kernel) (Nat.le_of_ble_eq_true rfl) (fun Z hl9 hE9 hp9 C => ?_)
  subst hl9
  subst hE9
  exact wk_X6_bodyAt V_l1 V_l2 C   f a1 (by rw [hp9]; exact V_l2.2.2.2.2.2.2.2.2.2.2.2.2.2.2.2.2.2.2.2.2.2.2.2.2.2.2.2.2.2.2.2.2.2.2.1  f a1  )
set_option maxHeartbeats 4000000 in
set_option maxRecDepth 100000 in
theorem wk_X6_bodyFor_L52 (V_l1 : VC_l1) (V_l2 : VC_l2) {Z : Zt}  (C : CX Z layC RX6 cX6_bodyFor 5 (some .int) 1)   {K4 : Fn → Int32 → Int32 → Int32 → Prop} (hK4 : ∀ (f : Fn) (x0 : Int32) (x2 : Int32) (x3 : Int32), K4 f x0 x2 x3 → GG Z f [(0, .int x0), (2, .int x2), (3, .int x3)] 4 []) (f : Fn) (x0 : Int32) (x2 : Int32) (x3 : Int32) (h : wp_X6_bodyFor_L52  K4 f x0 x2 x3 (zp Z)) : GG Z f [(0, .int x0), (2, .int x2), (3, .int x3)] 52 [] := by
  refine g_iload_n C rfl dX6_bodyFor_52 rfl ?_
  refine g_callSD C tw_693 tw_405 tw_5 tw_406 hy_X0_kindAbove (by decide) (by decide) rfl (Nat.le_of_ble_eq_true rfl) (ct_X0_kindAbove V_l1   f x2 ) dX6_bodyFor_53 rfl rfl ?_
  refine g_istore_n (lv' := [(2, .int (Val_X0_kindAbove f x2)), (0, .int x0), (3, .int x3)]) C dX6_bodyFor_56 (by decide) rfl rfl ?_
  refine g_iinc (lv' := [(3, .int (x3 + (1 : Int32))), (2, .int (Val_X0_kindAbove f x2)), (0, .int x0)]) C dX6_bodyFor_57 rfl (inc_1 _) (by decide) rfl rfl ?_
  refine g_goto (q := 4) C dX6_bodyFor_60 (by decide) ?_
  refine g_lps [0, 2, 3] rfl ?_
  exact hK4 _ _ _ _ h
set_option maxHeartbeats 4000000 in
set_option maxRecDepth 100000 in
theorem wkb_X6_bodyFor_L4 (V_l1 : VC_l1) (V_l2 : VC_l2) {Z : Zt}  (C : CX Z layC RX6 cX6_bodyFor 5 (some .int) 1)   {K4 : Fn → Int32 → Int32 → Int32 → Prop} (hK4 : ∀ (f : Fn) (x0 : Int32) (x2 : Int32) (x3 : Int32), K4 f x0 x2 x3 → GG Z f [(0, .int x0), (2, .int x2), (3, .int x3)] 4 []) (f : Fn) (x0 : Int32) (x2 : Int32) (x3 : Int32) (h : wpb_X6_bodyFor_L4   K4 f x0 x2 x3 (zp Z)) : GG Z f [(0, .int x0), (2, .int x2), (3, .int x3)] 4 [] := by
  refine g_iload_n C rfl dX6_bodyFor_4 rfl ?_
  refine g_bipush C kb_7 dX6_bodyFor_5 rfl ?_
  refine g_icmp_ge (tgt := 63) C dX6_bodyFor_7 (by decide) rfl (fun hc1 => ?_) (fun hc1 => ?_)
  · replace h := h.1 hc1
    refine g_iconst C ki_0 dX6_bodyFor_63 rfl ?_
    exact g_iret C dX6_bodyFor_64 h
  · replace h := h.2 hc1
    refine g_iload_n C rfl dX6_bodyFor_10 rfl ?_
    refine g_if_lt (tgt := 63) C dX6_bodyFor_11 (by decide) rfl (fun hc2 => ?_) (fun hc2 => ?_)
    · replace h := h.1 hc2
      refine g_iconst C ki_0 dX6_bodyFor_63 rfl ?_
      exact g_iret C dX6_bodyFor_64 h
    · replace h := h.2 hc2
      refine g_iload_n C rfl dX6_bodyFor_14 rfl ?_
      refine g_bipush C kb_7 dX6_bodyFor_15 rfl ?_
      refine g_imul C dX6_bodyFor_17 rfl ?_
      refine g_iload_n C rfl dX6_bodyFor_18 rfl ?_
      refine g_iadd C dX6_bodyFor_19 rfl ?_
      refine g_istore (lv' := [(4, .int ((x0 * (7 : Int32)) + x2)), (0, .int x0), (2, .int x2), (3, .int x3)]) C dX6_bodyFor_20 (by decide) rfl rfl ?_
      refine g_iload C rfl dX6_bodyFor_22 rfl ?_
      refine g_if_lt (tgt := 52) C dX6_bodyFor_24 (by decide) rfl (fun hc3 => ?_) (fun hc3 => ?_)
      · replace h := h.1 hc3
        refine g_lps [0, 2, 3] rfl ?_
        exact wk_X6_bodyFor_L52 V_l1 V_l2  C   hK4 _ _ _ _ h
      · replace h := h.2 hc3
        refine g_iload C rfl dX6_bodyFor_27 rfl ?_
        refine g_bods C tw_691 dX6_bodyFor_29 rfl ?_
        refine g_bodl C dX6_bodyFor_32 rfl ?_
        refine g_icmp_ge (tgt := 52) C dX6_bodyFor_33 (by decide) rfl (fun hc4 => ?_) (fun hc4 => ?_)
        · replace h := h.1 hc4
          refine g_lps [0, 2, 3] rfl ?_
          exact wk_X6_bodyFor_L52 V_l1 V_l2  C   hK4 _ _ _ _ h
        · replace h := h.2 hc4
          refine g_bods C tw_691 dX6_bodyFor_36 rfl ?_
          refine g_iload C rfl dX6_bodyFor_39 rfl ?_
          have hs5 := h.1
          replace h := h.2
          refine g_bodi C hs5 dX6_bodyFor_41 rfl ?_
          refine g_if_eq (tgt := 52) C dX6_bodyFor_42 (by decide) rfl (fun hc6 => ?_) (fun hc6 => ?_)
          · replace h := h.1 hc6
            refine g_lps [0, 2, 3] rfl ?_
            exact wk_X6_bodyFor_L52 V_l1 V_l2  C   hK4 _ _ _ _ h
          · replace h := h.2 hc6
            refine g_bods C tw_691 dX6_bodyFor_45 rfl ?_
            refine g_iload C rfl dX6_bodyFor_48 rfl ?_
            have hs7 := h.1
            replace h := h.2
            refine g_bodi C hs7 dX6_bodyFor_50 rfl ?_
            exact g_iret C dX6_bodyFor_51 h
set_option maxHeartbeats 4000000 in
set_option maxRecDepth 100000 in
theorem wk_X6_bodyFor_L4 (V_l1 : VC_l1) (V_l2 : VC_l2) {Z : Zt}  (C : CX Z layC RX6 cX6_bodyFor 5 (some .int) 1)     (f : Fn) (x0 : Int32) (x2 : Int32) (x3 : Int32) (h : wp_X6_bodyFor_L4   f x0 x2 x3 (zp Z)) : GG Z f [(0, .int x0), (2, .int x2), (3, .int x3)] 4 [] := by
  obtain ⟨I, μ, h0, hs⟩ := h
  suffices H : ∀ (N : Nat) (f : Fn) (x0 : Int32) (x2 : Int32) (x3 : Int32), μ f x0 x2 x3 < N → I f x0 x2 x3 → GG Z f [(0, .int x0), (2, .int x2), (3, .int x3)] 4 [] from H _ f x0 x2 x3 (Nat.lt_succ_self _) h0
  clear h0
  intro N
  induction N with
  | zero => intro f x0 x2 x3 hm; exact absurd hm (Nat.not_lt_zero _)
  | succ N ih =>
    intro f x0 x2 x3 hm hi
    exact wkb_X6_bodyFor_L4 V_l1 V_l2  C    (fun f9 x09 x29 x39 hk => ih f9 x09 x29 x39 (Nat.lt_of_lt_of_le hk.2 (Nat.le_of_lt_succ hm)) hk.1) f x0 x2 x3 (hs f x0 x2 x3 hi)
set_option maxHeartbeats 4000000 in
set_option maxRecDepth 100000 in
theorem wk_X6_bodyFor (V_l1 : VC_l1) (V_l2 : VC_l2) {Z : Zt}  (C : CX Z layC RX6 cX6_bodyFor 5 (some .int) 1)     (f : Fn) (a1 : Int32) (a2 : Int32) (h : wp_X6_bodyFor  f a1 a2 (zp Z)) : GG Z f [(0, .int a1), (1, .int a2)] 0 [] := by
  refine g_iload_n C rfl dX6_bodyFor_0 rfl ?_
  refine g_istore_n (lv' := [(2, .int a2), (0, .int a1), (1, .int a2)]) C dX6_bodyFor_1 (by decide) rfl rfl ?_
  refine g_iconst C ki_0 dX6_bodyFor_2 rfl ?_
  refine g_istore_n (lv' := [(3, .int (0 : Int32)), (2, .int a2), (0, .int a1), (1, .int a2)]) C dX6_bodyFor_3 (by decide) rfl rfl ?_
  refine g_lps [0, 2, 3] rfl ?_
  exact wk_X6_bodyFor_L4 V_l1 V_l2  C    _ _ _ _ h
set_option maxRecDepth 100000 in
theorem ct_X6_bodyFor (V_l1 : VC_l1) (V_l2 : VC_l2) {l : Launch} {E : Ev}   (f : Fn) (a1 : Int32) (a2 : Int32) (hpre : Pre_X6_bodyFor f a1 a2) : CT l E layC yX6_bodyFor cX6_bodyFor 5 (some .int) 1 [.int a1, .int a2] f (pI (fun r9 f9 => r9 = Val_X6_bodyFor f a1 a2 ∧ f9 = f)) := by
  refine CT.of (by decide +kernel) (Nat.le_of_ble_eq_true rfl) (fun Z hl9 hE9 hp9 C => ?_)
  subst hl9
  subst hE9
  exact wk_X6_bodyFor V_l1 V_l2 C   f a1 a2 (by rw [hp9]; exact V_l2.2.2.2.2.2.2.2.2.2.2.2.2.2.2.2.2.2.2.2.2.2.2.2.2.2.2.2.2.2.2.2.2.2.2.2.1  f a1 a2  hpre)
set_option maxHeartbeats 4000000 in
set_option maxRecDepth 100000 in
theorem wk_X6_note (V_l1 : VC_l1) (V_l2 : VC_l2) {Z : Zt}  (C : CX Z layC RX6 cX6_note 2 none 0)     (f : Fn) (a1 : Int32) (h : wp_X6_note  f a1 (zp Z)) : GG Z f [(0, .ref (zad Z 44)), (1, .int a1)] 0 [] := by
  refine g_aload_n C rfl dX6_note_0 rfl ?_
  refine fg_X6_22I (k := 44) (x := (f 44 1)) C rfl rfl rfl dX6_note_1 rfl ?_
  refine g_if_lt (tgt := 36) C dX6_note_4 (by decide) rfl (fun hc1 => ?_) (fun hc1 => ?_)
  · replace h := h.1 hc1
    exact g_vret C dX6_note_36 h
  · replace h := h.2 hc1
    refine g_aload_n C rfl dX6_note_7 rfl ?_
    refine fg_X6_22I (k := 44) (x := (f 44 1)) C rfl rfl rfl dX6_note_8 rfl ?_
    refine g_bipush C kb_40 dX6_note_11 rfl ?_
    refine g_icmp_ge (tgt := 36) C dX6_note_13 (by decide) rfl (fun hc2 => ?_) (fun hc2 => ?_)
    · replace h := h.1 hc2
      exact g_vret C dX6_note_36 h
    · replace h := h.2 hc2
      refine g_aload_n C rfl dX6_note_16 rfl ?_
      refine fg_X6_9R (k := 44) (p := 45) C rfl rfl dX6_note_17 rfl ?_
      refine g_aload_n C rfl dX6_note_20 rfl ?_
      refine fg_X6_22I (k := 44) (x := (f 44 1)) C rfl rfl rfl dX6_note_21 rfl ?_
      refine g_iload_n C rfl dX6_note_24 rfl ?_
      have hs3 := h.1
      replace h := h.2
      refine g_iastx (k := 45) (j := (f 44 1).toNatClampNeg) C rfl hs3 rfl dX6_note_25 rfl ?_
      refine g_aload_n C rfl dX6_note_26 rfl ?_
      refine g_dup C rfl dX6_note_27 rfl ?_
      refine fg_X6_22I (k := 44) (x := (f 44 1)) C rfl rfl (by simp [up2, upd]) dX6_note_28 rfl ?_
      refine g_iconst C ki_1 dX6_note_31 rfl ?_
      refine g_iadd C dX6_note_32 rfl ?_
      refine fp_X6_22 (k := 44) C rfl rfl (Nat.le_of_ble_eq_true rfl) dX6_note_33 rfl ?_
      exact g_vret C dX6_note_36 h
set_option maxRecDepth 100000 in
theorem ct_X6_note (V_l1 : VC_l1) (V_l2 : VC_l2) {l : Launch} {E : Ev}   (f : Fn) (a1 : Int32)  : CT l E layC yX6_note cX6_note 2 none 0 [.ref (E.2.1 44), .int a1] f (pV (Post_X6_note f a1)) := by
  refine CT.of (by decide +kernel) (Nat.le_of_ble_eq_true rfl) (fun Z hl9 hE9 hp9 C => ?_)
  subst hl9
  subst hE9
  exact wk_X6_note V_l1 V_l2 C   f a1 (by rw [hp9]; exact V_l2.2.2.2.2.2.2.2.2.2.2.2.2.2.2.2.2.2.2.2.2.2.2.2.2.2.2.2.2.2.2.2.2.2.2.2.2.1  f a1  )
set_option maxHeartbeats 4000000 in
set_option maxRecDepth 100000 in
theorem wk_X6_say (V_l1 : VC_l1) (V_l2 : VC_l2) {Z : Zt} {m0 dd de : Nat} (hde : de + 1 ≤ dd) (hd1 : 3 ≤ dd) (hr_X6_say : ∀ (f : Fn) (b1 : Int32) (b2 : Int32) (b3 : Int32) (b4 : Int32), Pre_X6_say f b1 b2 b3 b4 → mu_X6_say f b1 b2 b3 b4 < m0 → CT (zl Z) (zE Z) layC yX6_say cX6_say 8 (some .int) de [.ref (zad Z 44), .int b1, .int b2, .int b3, .int b4] f (pI (Post_X6_say f b1 b2 b3 b4))) (hr_X6_own : ∀ (f : Fn) (b1 : Int32) (b2 : Int32) (b3 : Int32), Pre_X6_own f b1 b2 b3 → mu_X6_own f b1 b2 b3 < m0 → CT (zl Z) (zE Z) layC yX6_own cX6_own 4 (some .int) de [.ref (zad Z 44), .int b1, .int b2, .int b3] f (pI (Post_X6_own f b1 b2 b3))) (C : CX Z layC RX6 cX6_say 8 (some .int) dd)     (f : Fn) (a1 : Int32) (a2 : Int32) (a3 : Int32) (a4 : Int32) (h : wp_X6_say m0  f a1 a2 a3 a4 (zp Z)) : GG Z f [(0, .ref (zad Z 44)), (1, .int a1), (2, .int a2), (3, .int a3), (4, .int a4)] 0 [] := by
  refine g_iload C rfl dX6_say_0 rfl ?_
  refine g_bipush C kb_40 dX6_say_2 rfl ?_
  refine g_icmp_le (tgt := 9) C dX6_say_4 (by decide) rfl (fun hc1 => ?_) (fun hc1 => ?_)
  · replace h := h.1 hc1
    refine g_iload_n C rfl dX6_say_9 rfl ?_
    refine g_iload_n C rfl dX6_say_10 rfl ?_
    have hs2 := h.1
    replace h := h.2
    refine g_callSD C tw_688 tw_689 tw_8 tw_690 hy_X6_bodyFor (by decide) (by omega) rfl (Nat.le_of_ble_eq_true rfl) (ct_X6_bodyFor V_l1 V_l2   f a1 a2 hs2) dX6_say_11 rfl rfl ?_
    refine g_istore (lv' := [(5, .int (Val_X6_bodyFor f a1 a2)), (0, .ref (zad Z 44)), (1, .int a1), (2, .int a2), (3, .int a3), (4, .int a4)]) C dX6_say_14 (by decide) rfl rfl ?_
    refine g_iload C rfl dX6_say_16 rfl ?_
    refine g_bipush C kb_10 dX6_say_18 rfl ?_
    refine g_idiv C (by decide) dX6_say_20 rfl ?_
    refine g_iconst C ki_1 dX6_say_21 rfl ?_
    refine g_isub C dX6_say_22 rfl ?_
    refine g_callSD C tw_693 tw_405 tw_5 tw_406 hy_X0_kindAbove (by decide) (by omega) rfl (Nat.le_of_ble_eq_true rfl) (ct_X0_kindAbove V_l1   f (((Val_X6_bodyFor f a1 a2) / (10 : Int32)) - (1 : Int32)) ) dX6_say_23 rfl rfl ?_
    refine g_istore (lv' := [(6, .int (Val_X0_kindAbove f (((Val_X6_bodyFor f a1 a2) / (10 : Int32)) - (1 : Int32)))), (5, .int (Val_X6_bodyFor f a1 a2)), (0, .ref (zad Z 44)), (1, .int a1), (2, .int a2), (3, .int a3), (4, .int a4)]) C dX6_say_26 (by decide) rfl rfl ?_
    refine g_iload C rfl dX6_say_28 rfl ?_
    refine g_iconst C ki_1 dX6_say_30 rfl ?_
    refine g_iadd C dX6_say_31 rfl ?_
    refine g_istore (lv' := [(7, .int (a4 + (1 : Int32))), (6, .int (Val_X0_kindAbove f (((Val_X6_bodyFor f a1 a2) / (10 : Int32)) - (1 : Int32)))), (5, .int (Val_X6_bodyFor f a1 a2)), (0, .ref (zad Z 44)), (1, .int a1), (2, .int a2), (3, .int a3), (4, .int a4)]) C dX6_say_32 (by decide) rfl rfl ?_
    refine g_aload_n C rfl dX6_say_34 rfl ?_
    refine g_iload C rfl dX6_say_35 rfl ?_
    refine g_callVV C tw_694 tw_696 tp_13 tw_8 tw_697 hy_X6_note (by decide) (by omega) rfl (Nat.le_of_ble_eq_true rfl) rfl rfl (ct_X6_note V_l1 V_l2   f (Val_X6_bodyFor f a1 a2) ) dX6_say_37 rfl rfl (fun f3 hp4 => ?_)
    replace h := h f3 hp4
    refine g_iload C rfl dX6_say_40 rfl ?_
    by_cases hk5_0 : (Val_X6_bodyFor f a1 a2) = (10 : Int32)
    · replace h := h.1 hk5_0
      refine g_lookup (q := 132) (off := (90)) C dX6_say_42 (by decide +kernel) (sw_lo hk5_0 (by decide +kernel)) (by decide) ?_
      refine g_iload_n C rfl dX6_say_132 rfl ?_
      refine g_aload_n C rfl dX6_say_133 rfl ?_
      refine fg_X6_26I (k := 44) (x := (f3 44 2)) C rfl rfl rfl dX6_say_134 rfl ?_
      refine g_iadd C dX6_say_137 rfl ?_
      exact g_iret C dX6_say_138 h
    by_cases hk5_1 : (Val_X6_bodyFor f a1 a2) = (11 : Int32)
    · replace h := h.2.1 hk5_1
      refine g_lookup (q := 139) (off := (97)) C dX6_say_42 (by decide +kernel) (sw_lo hk5_1 (by decide +kernel)) (by decide) ?_
      refine g_aload_n C rfl dX6_say_139 rfl ?_
      refine g_iconst C ki_0 dX6_say_140 rfl ?_
      refine g_iload_n C rfl dX6_say_141 rfl ?_
      refine g_iload C rfl dX6_say_142 rfl ?_
      have hs6 := h.1
      replace h := h.2
      have hs7 := h.1
      replace h := h.2
      refine g_callVI C tw_698 tw_700 tp_14 tw_8 tw_701 hy_X6_own (by decide) hde rfl (Nat.le_of_ble_eq_true rfl) rfl rfl (hr_X6_own f3 (0 : Int32) a3 (a4 + (1 : Int32)) hs6 hs7) dX6_say_144 rfl rfl (fun r8 f9 hp10 => ?_)
      replace h := h r8 f9 hp10
      refine g_iconst C ki_2 dX6_say_147 rfl ?_
      refine g_imul C dX6_say_148 rfl ?_
      exact g_iret C dX6_say_149 h
    by_cases hk5_2 : (Val_X6_bodyFor f a1 a2) = (12 : Int32)
    · replace h := h.2.2.1 hk5_2
      refine g_lookup (q := 150) (off := (108)) C dX6_say_42 (by decide +kernel) (sw_lo hk5_2 (by decide +kernel)) (by decide) ?_
      refine g_iload_n C rfl dX6_say_150 rfl ?_
      refine g_aload_n C rfl dX6_say_151 rfl ?_
      refine fg_X6_18R (k := 44) (p := 46) C rfl rfl dX6_say_152 rfl ?_
      refine fg_X6_59I (k := 46) (x := (f3 46 1)) C rfl rfl rfl dX6_say_155 rfl ?_
      refine g_isub C dX6_say_158 rfl ?_
      exact g_iret C dX6_say_159 h
    by_cases hk5_3 : (Val_X6_bodyFor f a1 a2) = (13 : Int32)
    · replace h := h.2.2.2.1 hk5_3
      refine g_lookup (q := 160) (off := (118)) C dX6_say_42 (by decide +kernel) (sw_lo hk5_3 (by decide +kernel)) (by decide) ?_
      refine g_aload_n C rfl dX6_say_160 rfl ?_
      refine g_iconst C ki_1 dX6_say_161 rfl ?_
      refine g_iload_n C rfl dX6_say_162 rfl ?_
      refine g_iload C rfl dX6_say_163 rfl ?_
      have hs11 := h.1
      replace h := h.2
      have hs12 := h.1
      replace h := h.2
      refine g_callVI C tw_698 tw_700 tp_14 tw_8 tw_701 hy_X6_own (by decide) hde rfl (Nat.le_of_ble_eq_true rfl) rfl rfl (hr_X6_own f3 (1 : Int32) a3 (a4 + (1 : Int32)) hs11 hs12) dX6_say_165 rfl rfl (fun r13 f14 hp15 => ?_)
      replace h := h r13 f14 hp15
      refine g_aload_n C rfl dX6_say_168 rfl ?_
      refine g_iconst C ki_2 dX6_say_169 rfl ?_
      refine g_iload_n C rfl dX6_say_170 rfl ?_
      refine g_iload C rfl dX6_say_171 rfl ?_
      have hs16 := h.1
      replace h := h.2
      have hs17 := h.1
      replace h := h.2
      refine g_callVI C tw_698 tw_700 tp_14 tw_8 tw_701 hy_X6_own (by decide) hde rfl (Nat.le_of_ble_eq_true rfl) rfl rfl (hr_X6_own f14 (2 : Int32) a3 (a4 + (1 : Int32)) hs16 hs17) dX6_say_173 rfl rfl (fun r18 f19 hp20 => ?_)
      replace h := h r18 f19 hp20
      refine g_ixor C dX6_say_176 rfl ?_
      exact g_iret C dX6_say_177 h
    by_cases hk5_4 : (Val_X6_bodyFor f a1 a2) = (20 : Int32)
    · replace h := h.2.2.2.2.1 hk5_4
      refine g_lookup (q := 178) (off := (136)) C dX6_say_42 (by decide +kernel) (sw_lo hk5_4 (by decide +kernel)) (by decide) ?_
      refine g_aload_n C rfl dX6_say_178 rfl ?_
      refine g_iconst C ki_0 dX6_say_179 rfl ?_
      refine g_iload C rfl dX6_say_180 rfl ?_
      refine g_iload_n C rfl dX6_say_182 rfl ?_
      refine g_iload C rfl dX6_say_183 rfl ?_
      have hs21 := h.1
      replace h := h.2
      have hs22 := h.1
      replace h := h.2
      refine g_callVI C tw_684 tw_686 tp_12 tw_8 tw_687 hy_X6_say (by decide) hde rfl (Nat.le_of_ble_eq_true rfl) rfl rfl (hr_X6_say f3 (0 : Int32) (Val_X0_kindAbove f (((Val_X6_bodyFor f a1 a2) / (10 : Int32)) - (1 : Int32))) a3 (a4 + (1 : Int32)) hs21 hs22) dX6_say_185 rfl rfl (fun r23 f24 hp25 => ?_)
      replace h := h r23 f24 hp25
      refine g_iconst C ki_3 dX6_say_188 rfl ?_
      refine g_imul C dX6_say_189 rfl ?_
      exact g_iret C dX6_say_190 h
    by_cases hk5_5 : (Val_X6_bodyFor f a1 a2) = (30 : Int32)
    · replace h := h.2.2.2.2.2.1 hk5_5
      refine g_lookup (q := 191) (off := (149)) C dX6_say_42 (by decide +kernel) (sw_lo hk5_5 (by decide +kernel)) (by decide) ?_
      refine g_aload_n C rfl dX6_say_191 rfl ?_
      refine g_iconst C ki_1 dX6_say_192 rfl ?_
      refine g_iload C rfl dX6_say_193 rfl ?_
      refine g_iload_n C rfl dX6_say_195 rfl ?_
      refine g_iload C rfl dX6_say_196 rfl ?_
      have hs26 := h.1
      replace h := h.2
      have hs27 := h.1
      replace h := h.2
      refine g_callVI C tw_684 tw_686 tp_12 tw_8 tw_687 hy_X6_say (by decide) hde rfl (Nat.le_of_ble_eq_true rfl) rfl rfl (hr_X6_say f3 (1 : Int32) (Val_X0_kindAbove f (((Val_X6_bodyFor f a1 a2) / (10 : Int32)) - (1 : Int32))) a3 (a4 + (1 : Int32)) hs26 hs27) dX6_say_198 rfl rfl (fun r28 f29 hp30 => ?_)
      replace h := h r28 f29 hp30
      refine g_aload_n C rfl dX6_say_201 rfl ?_
      refine g_iconst C ki_2 dX6_say_202 rfl ?_
      refine g_iconst C ki_1 dX6_say_203 rfl ?_
      refine g_iload C rfl dX6_say_204 rfl ?_
      have hs31 := h.1
      replace h := h.2
      have hs32 := h.1
      replace h := h.2
      refine g_callVI C tw_698 tw_700 tp_14 tw_8 tw_701 hy_X6_own (by decide) hde rfl (Nat.le_of_ble_eq_true rfl) rfl rfl (hr_X6_own f29 (2 : Int32) (1 : Int32) (a4 + (1 : Int32)) hs31 hs32) dX6_say_206 rfl rfl (fun r33 f34 hp35 => ?_)
      replace h := h r33 f34 hp35
      refine g_isub C dX6_say_209 rfl ?_
      exact g_iret C dX6_say_210 h
    by_cases hk5_6 : (Val_X6_bodyFor f a1 a2) = (40 : Int32)
    · replace h := h.2.2.2.2.2.2.1 hk5_6
      refine g_lookup (q := 211) (off := (169)) C dX6_say_42 (by decide +kernel) (sw_lo hk5_6 (by decide +kernel)) (by decide) ?_
      refine g_aload_n C rfl dX6_say_211 rfl ?_
      refine g_iconst C ki_2 dX6_say_212 rfl ?_
      refine g_iload C rfl dX6_say_213 rfl ?_
      refine g_iload_n C rfl dX6_say_215 rfl ?_
      refine g_iload C rfl dX6_say_216 rfl ?_
      have hs36 := h.1
      replace h := h.2
      have hs37 := h.1
      replace h := h.2
      refine g_callVI C tw_684 tw_686 tp_12 tw_8 tw_687 hy_X6_say (by decide) hde rfl (Nat.le_of_ble_eq_true rfl) rfl rfl (hr_X6_say f3 (2 : Int32) (Val_X0_kindAbove f (((Val_X6_bodyFor f a1 a2) / (10 : Int32)) - (1 : Int32))) a3 (a4 + (1 : Int32)) hs36 hs37) dX6_say_218 rfl rfl (fun r38 f39 hp40 => ?_)
      replace h := h r38 f39 hp40
      refine g_ineg C dX6_say_221 rfl ?_
      exact g_iret C dX6_say_222 h
    by_cases hk5_7 : (Val_X6_bodyFor f a1 a2) = (50 : Int32)
    · replace h := h.2.2.2.2.2.2.2.1 hk5_7
      refine g_lookup (q := 223) (off := (181)) C dX6_say_42 (by decide +kernel) (sw_lo hk5_7 (by decide +kernel)) (by decide) ?_
      refine g_aload_n C rfl dX6_say_223 rfl ?_
      refine g_iconst C ki_3 dX6_say_224 rfl ?_
      refine g_iload C rfl dX6_say_225 rfl ?_
      refine g_iload_n C rfl dX6_say_227 rfl ?_
      refine g_iload C rfl dX6_say_228 rfl ?_
      have hs41 := h.1
      replace h := h.2
      have hs42 := h.1
      replace h := h.2
      refine g_callVI C tw_684 tw_686 tp_12 tw_8 tw_687 hy_X6_say (by decide) hde rfl (Nat.le_of_ble_eq_true rfl) rfl rfl (hr_X6_say f3 (3 : Int32) (Val_X0_kindAbove f (((Val_X6_bodyFor f a1 a2) / (10 : Int32)) - (1 : Int32))) a3 (a4 + (1 : Int32)) hs41 hs42) dX6_say_230 rfl rfl (fun r43 f44 hp45 => ?_)
      replace h := h r43 f44 hp45
      refine g_aload_n C rfl dX6_say_233 rfl ?_
      refine g_iconst C ki_0 dX6_say_234 rfl ?_
      refine g_iconst C ki_2 dX6_say_235 rfl ?_
      refine g_iload C rfl dX6_say_236 rfl ?_
      have hs46 := h.1
      replace h := h.2
      have hs47 := h.1
      replace h := h.2
      refine g_callVI C tw_698 tw_700 tp_14 tw_8 tw_701 hy_X6_own (by decide) hde rfl (Nat.le_of_ble_eq_true rfl) rfl rfl (hr_X6_own f44 (0 : Int32) (2 : Int32) (a4 + (1 : Int32)) hs46 hs47) dX6_say_238 rfl rfl (fun r48 f49 hp50 => ?_)
      replace h := h r48 f49 hp50
      refine g_isub C dX6_say_241 rfl ?_
      exact g_iret C dX6_say_242 h
    by_cases hk5_8 : (Val_X6_bodyFor f a1 a2) = (60 : Int32)
    · replace h := h.2.2.2.2.2.2.2.2.1 hk5_8
      refine g_lookup (q := 243) (off := (201)) C dX6_say_42 (by decide +kernel) (sw_lo hk5_8 (by decide +kernel)) (by decide) ?_
      refine g_aload_n C rfl dX6_say_243 rfl ?_
      refine g_iconst C ki_1 dX6_say_244 rfl ?_
      refine g_iload C rfl dX6_say_245 rfl ?_
      refine g_iload_n C rfl dX6_say_247 rfl ?_
      refine g_iconst C ki_1 dX6_say_248 rfl ?_
      refine g_iadd C dX6_say_249 rfl ?_
      refine g_iload C rfl dX6_say_250 rfl ?_
      have hs51 := h.1
      replace h := h.2
      have hs52 := h.1
      replace h := h.2
      refine g_callVI C tw_684 tw_686 tp_12 tw_8 tw_687 hy_X6_say (by decide) hde rfl (Nat.le_of_ble_eq_true rfl) rfl rfl (hr_X6_say f3 (1 : Int32) (Val_X0_kindAbove f (((Val_X6_bodyFor f a1 a2) / (10 : Int32)) - (1 : Int32))) (a3 + (1 : Int32)) (a4 + (1 : Int32)) hs51 hs52) dX6_say_252 rfl rfl (fun r53 f54 hp55 => ?_)
      replace h := h r53 f54 hp55
      exact g_iret C dX6_say_255 h
    by_cases hk5_9 : (Val_X6_bodyFor f a1 a2) = (70 : Int32)
    · replace h := h.2.2.2.2.2.2.2.2.2.1 hk5_9
      refine g_lookup (q := 256) (off := (214)) C dX6_say_42 (by decide +kernel) (sw_lo hk5_9 (by decide +kernel)) (by decide) ?_
      refine g_aload_n C rfl dX6_say_256 rfl ?_
      refine g_iconst C ki_2 dX6_say_257 rfl ?_
      refine g_iload C rfl dX6_say_258 rfl ?_
      refine g_iload_n C rfl dX6_say_260 rfl ?_
      refine g_iload C rfl dX6_say_261 rfl ?_
      have hs56 := h.1
      replace h := h.2
      have hs57 := h.1
      replace h := h.2
      refine g_callVI C tw_684 tw_686 tp_12 tw_8 tw_687 hy_X6_say (by decide) hde rfl (Nat.le_of_ble_eq_true rfl) rfl rfl (hr_X6_say f3 (2 : Int32) (Val_X0_kindAbove f (((Val_X6_bodyFor f a1 a2) / (10 : Int32)) - (1 : Int32))) a3 (a4 + (1 : Int32)) hs56 hs57) dX6_say_263 rfl rfl (fun r58 f59 hp60 => ?_)
      replace h := h r58 f59 hp60
      refine g_aload_n C rfl dX6_say_266 rfl ?_
      refine fg_X6_26I (k := 44) (x := (f59 44 2)) C rfl rfl rfl dX6_say_267 rfl ?_
      refine g_ixor C dX6_say_270 rfl ?_
      exact g_iret C dX6_say_271 h
    replace h := h.2.2.2.2.2.2.2.2.2.2 ⟨hk5_0, hk5_1, hk5_2, hk5_3, hk5_4, hk5_5, hk5_6, hk5_7, hk5_8, hk5_9⟩
    refine g_lookup (q := 272) (off := (230)) C dX6_say_42 (by decide +kernel) (sw_ld _ [(10 : Int32), (11 : Int32), (12 : Int32), (13 : Int32), (20 : Int32), (30 : Int32), (40 : Int32), (50 : Int32), (60 : Int32), (70 : Int32)] (by decide +kernel) (fun k9 hk9 => by simp only [List.mem_cons, List.not_mem_nil, or_false] at hk9; rcases hk9 with rfl | rfl | rfl | rfl | rfl | rfl | rfl | rfl | rfl | rfl <;> assumption)) (by decide) ?_
    refine g_aload_n C rfl dX6_say_272 rfl ?_
    refine g_iconst C ki_1 dX6_say_273 rfl ?_
    refine g_iload_n C rfl dX6_say_274 rfl ?_
    refine g_iload C rfl dX6_say_275 rfl ?_
    have hs61 := h.1
    replace h := h.2
    have hs62 := h.1
    replace h := h.2
    refine g_callVI C tw_698 tw_700 tp_14 tw_8 tw_701 hy_X6_own (by decide) hde rfl (Nat.le_of_ble_eq_true rfl) rfl rfl (hr_X6_own f3 (1 : Int32) a3 (a4 + (1 : Int32)) hs61 hs62) dX6_say_277 rfl rfl (fun r63 f64 hp65 => ?_)
    replace h := h r63 f64 hp65
    refine g_aload_n C rfl dX6_say_280 rfl ?_
    refine g_iconst C ki_3 dX6_say_281 rfl ?_
    refine g_iload C rfl dX6_say_282 rfl ?_
    refine g_iload_n C rfl dX6_say_284 rfl ?_
    refine g_iload C rfl dX6_say_285 rfl ?_
    have hs66 := h.1
    replace h := h.2
    have hs67 := h.1
    replace h := h.2
    refine g_callVI C tw_684 tw_686 tp_12 tw_8 tw_687 hy_X6_say (by decide) hde rfl (Nat.le_of_ble_eq_true rfl) rfl rfl (hr_X6_say f64 (3 : Int32) (Val_X0_kindAbove f (((Val_X6_bodyFor f a1 a2) / (10 : Int32)) - (1 : Int32))) a3 (a4 + (1 : Int32)) hs66 hs67) dX6_say_287 rfl rfl (fun r68 f69 hp70 => ?_)
    replace h := h r68 f69 hp70
    refine g_isub C dX6_say_290 rfl ?_
    exact g_iret C dX6_say_291 h
  · replace h := h.2 hc1
    refine g_iconst C ki_0 dX6_say_7 rfl ?_
    exact g_iret C dX6_say_8 h
set_option maxHeartbeats 4000000 in
set_option maxRecDepth 100000 in
theorem wk_X6_own (V_l1 : VC_l1) (V_l2 : VC_l2) {Z : Zt} {m0 dd de : Nat} (hde : de + 1 ≤ dd) (hd1 : 3 ≤ dd) (hr_X6_say : ∀ (f : Fn) (b1 : Int32) (b2 : Int32) (b3 : Int32) (b4 : Int32), Pre_X6_say f b1 b2 b3 b4 → mu_X6_say f b1 b2 b3 b4 < m0 → CT (zl Z) (zE Z) layC yX6_say cX6_say 8 (some .int) de [.ref (zad Z 44), .int b1, .int b2, .int b3, .int b4] f (pI (Post_X6_say f b1 b2 b3 b4))) (hr_X6_own : ∀ (f : Fn) (b1 : Int32) (b2 : Int32) (b3 : Int32), Pre_X6_own f b1 b2 b3 → mu_X6_own f b1 b2 b3 < m0 → CT (zl Z) (zE Z) layC yX6_own cX6_own 4 (some .int) de [.ref (zad Z 44), .int b1, .int b2, .int b3] f (pI (Post_X6_own f b1 b2 b3))) (C : CX Z layC RX6 cX6_own 4 (some .int) dd)     (f : Fn) (a1 : Int32) (a2 : Int32) (a3 : Int32) (h : wp_X6_own m0  f a1 a2 a3 (zp Z)) : GG Z f [(0, .ref (zad Z 44)), (1, .int a1), (2, .int a2), (3, .int a3)] 0 [] := by
  refine g_aload_n C rfl dX6_own_0 rfl ?_
  refine g_iload_n C rfl dX6_own_1 rfl ?_
  refine g_aload_n C rfl dX6_own_2 rfl ?_
  refine fg_X6_18R (k := 44) (p := 46) C rfl rfl dX6_own_3 rfl ?_
  refine fg_X6_33I (k := 46) (x := (f 46 0)) C rfl rfl rfl dX6_own_6 rfl ?_
  refine g_iload_n C rfl dX6_own_9 rfl ?_
  refine g_iload_n C rfl dX6_own_10 rfl ?_
  have hs1 := h.1
  replace h := h.2
  have hs2 := h.1
  replace h := h.2
  refine g_callVI C tw_684 tw_686 tp_12 tw_8 tw_687 hy_X6_say (by decide) hde rfl (Nat.le_of_ble_eq_true rfl) rfl rfl (hr_X6_say f a1 (f 46 0) a2 a3 hs1 hs2) dX6_own_11 rfl rfl (fun r3 f4 hp5 => ?_)
  replace h := h r3 f4 hp5
  exact g_iret C dX6_own_14 h
set_option maxRecDepth 100000 in
theorem ctN_vo (V_l1 : VC_l1) (V_l2 : VC_l2) {l : Launch} {E : Ev} : ∀ N : Nat, (∀ (f : Fn) (a1 : Int32) (a2 : Int32) (a3 : Int32) (a4 : Int32), Pre_X6_say f a1 a2 a3 a4 → mu_X6_say f a1 a2 a3 a4 < N → CT l E layC yX6_say cX6_say 8 (some .int) (3 + N) [.ref (E.2.1 44), .int a1, .int a2, .int a3, .int a4] f (pI (Post_X6_say f a1 a2 a3 a4))) ∧ (∀ (f : Fn) (a1 : Int32) (a2 : Int32) (a3 : Int32), Pre_X6_own f a1 a2 a3 → mu_X6_own f a1 a2 a3 < N → CT l E layC yX6_own cX6_own 4 (some .int) (3 + N) [.ref (E.2.1 44), .int a1, .int a2, .int a3] f (pI (Post_X6_own f a1 a2 a3))) ∧ True := by
  intro N
  induction N with
  | zero => exact ⟨fun f a1 a2 a3 a4 _ h => absurd h (Nat.not_lt_zero _), fun f a1 a2 a3 _ h => absurd h (Nat.not_lt_zero _), trivial⟩
  | succ N ih =>
    obtain ⟨i_X6_say, i_X6_own, -⟩ := ih
    refine ⟨?_, ?_, trivial⟩
    · intro f a1 a2 a3 a4 hpre hmu
      refine CT.of (by decide +kernel) (Nat.le_of_ble_eq_true rfl) (fun Z hl9 hE9 hp9 C => ?_)
      subst hl9
      subst hE9
      exact wk_X6_say V_l1 V_l2 (m0 := mu_X6_say f a1 a2 a3 a4) (dd := 3 + (N + 1)) (de := 3 + N) (Nat.le_refl _) (by omega) (fun f9 a19 a29 a39 a49 h1 h2 => i_X6_say f9 a19 a29 a39 a49 h1 (by omega)) (fun f9 a19 a29 a39 h1 h2 => i_X6_own f9 a19 a29 a39 h1 (by omega)) C f a1 a2 a3 a4 (by rw [hp9]; exact (V_l2.2.2.2.2.2.2.2.2.2.2.2.2.2.2.2.2.2.2.2.2.2.2.2.2.2.2.2.2.2.2.2.2.2.2.2.2.2.1 f a1 a2 a3 a4 hpre).2)
    · intro f a1 a2 a3 hpre hmu
      refine CT.of (by decide +kernel) (Nat.le_of_ble_eq_true rfl) (fun Z hl9 hE9 hp9 C => ?_)
      subst hl9
      subst hE9
      exact wk_X6_own V_l1 V_l2 (m0 := mu_X6_own f a1 a2 a3) (dd := 3 + (N + 1)) (de := 3 + N) (Nat.le_refl _) (by omega) (fun f9 a19 a29 a39 a49 h1 h2 => i_X6_say f9 a19 a29 a39 a49 h1 (by omega)) (fun f9 a19 a29 a39 h1 h2 => i_X6_own f9 a19 a29 a39 h1 (by omega)) C f a1 a2 a3 (by rw [hp9]; exact (V_l2.2.2.2.2.2.2.2.2.2.2.2.2.2.2.2.2.2.2.2.2.2.2.2.2.2.2.2.2.2.2.2.2.2.2.2.2.2.2.1 f a1 a2 a3 hpre).2)
theorem ct_X6_say (V_l1 : VC_l1) (V_l2 : VC_l2) {l : Launch} {E : Ev} (f : Fn) (a1 : Int32) (a2 : Int32) (a3 : Int32) (a4 : Int32) (hpre : Pre_X6_say f a1 a2 a3 a4) : CT l E layC yX6_say cX6_say 8 (some .int) 21 [.ref (E.2.1 44), .int a1, .int a2, .int a3, .int a4] f (pI (Post_X6_say f a1 a2 a3 a4)) := (ctN_vo V_l1 V_l2 18).1 f a1 a2 a3 a4 hpre (V_l2.2.2.2.2.2.2.2.2.2.2.2.2.2.2.2.2.2.2.2.2.2.2.2.2.2.2.2.2.2.2.2.2.2.2.2.2.2.1 f a1 a2 a3 a4 hpre).1
theorem ct_X6_own (V_l1 : VC_l1) (V_l2 : VC_l2) {l : Launch} {E : Ev} (f : Fn) (a1 : Int32) (a2 : Int32) (a3 : Int32) (hpre : Pre_X6_own f a1 a2 a3) : CT l E layC yX6_own cX6_own 4 (some .int) 21 [.ref (E.2.1 44), .int a1, .int a2, .int a3] f (pI (Post_X6_own f a1 a2 a3)) := (ctN_vo V_l1 V_l2 18).2.1 f a1 a2 a3 hpre (V_l2.2.2.2.2.2.2.2.2.2.2.2.2.2.2.2.2.2.2.2.2.2.2.2.2.2.2.2.2.2.2.2.2.2.2.2.2.2.2.1 f a1 a2 a3 hpre).1
set_option maxHeartbeats 4000000 in
set_option maxRecDepth 100000 in
theorem wk_X6_speak (V_l1 : VC_l1) (V_l2 : VC_l2) {Z : Zt}  (C : CX Z layC RX6 cX6_speak 5 (some .int) 22) (o : Nat) (ho : isFl o)   (f : Fn) (a1 : Int32) (a3 : Int32) (a4 : Int32) (h : wp_X6_speak o f a1 a3 a4 (zp Z)) : GG Z f [(0, .ref (zad Z 44)), (1, .int a1), (2, .ref (zad Z o)), (3, .int a3), (4, .int a4)] 0 [] := by
  refine g_aload_n C rfl dX6_speak_0 rfl ?_
  refine g_iconst C ki_0 dX6_speak_1 rfl ?_
  refine fp_X6_22 (k := 44) C rfl rfl (Nat.le_of_ble_eq_true rfl) dX6_speak_2 rfl ?_
  refine g_aload_n C rfl dX6_speak_5 rfl ?_
  refine g_iload_n C rfl dX6_speak_6 rfl ?_
  refine fp_X6_26 (k := 44) C rfl rfl (Nat.le_of_ble_eq_true rfl) dX6_speak_7 rfl ?_
  refine g_aload_n C rfl dX6_speak_10 rfl ?_
  refine fg_X6_18R (k := 44) (p := 46) C rfl rfl dX6_speak_11 rfl ?_
  refine g_aload_n C rfl dX6_speak_14 rfl ?_
  refine g_callVV C tw_683 tw_496 tw_497 tw_5 tw_498 hy_X0_copy (by decide) (by decide) rfl (Nat.le_of_ble_eq_true rfl) rfl rfl (ct_X0_copy V_l1 46 o rfl ho (up2 (up2 f 44 1 (0 : Int32)) 44 2 a1) ) dX6_speak_15 rfl rfl (fun f1 hp2 => ?_)
  replace h := h f1 hp2
  refine g_aload_n C rfl dX6_speak_18 rfl ?_
  refine g_iload_n C rfl dX6_speak_19 rfl ?_
  refine g_aload_n C rfl dX6_speak_20 rfl ?_
  refine fg_X6_18R (k := 44) (p := 46) C rfl rfl dX6_speak_21 rfl ?_
  refine fg_X6_33I (k := 46) (x := (f1 46 0)) C rfl rfl rfl dX6_speak_24 rfl ?_
  refine g_iload C rfl dX6_speak_27 rfl ?_
  refine g_iconst C ki_0 dX6_speak_29 rfl ?_
  have hs3 := h.1
  replace h := h.2
  refine g_callVI C tw_684 tw_686 tp_12 tw_8 tw_687 hy_X6_say (by decide) (by decide) rfl (Nat.le_of_ble_eq_true rfl) rfl rfl (ct_X6_say V_l1 V_l2   f1 a3 (f1 46 0) a4 (0 : Int32) hs3) dX6_speak_30 rfl rfl (fun r4 f5 hp6 => ?_)
  replace h := h r4 f5 hp6
  exact g_iret C dX6_speak_33 h
set_option maxRecDepth 100000 in
theorem ct_X6_speak (V_l1 : VC_l1) (V_l2 : VC_l2) {l : Launch} {E : Ev} (o : Nat) (ho : isFl o) (f : Fn) (a1 : Int32) (a3 : Int32) (a4 : Int32) (hpre : Pre_X6_speak o f a1 a3 a4) : CT l E layC yX6_speak cX6_speak 5 (some .int) 22 [.ref (E.2.1 44), .int a1, .ref (E.2.1 o), .int a3, .int a4] f (pI (Post_X6_speak o f a1 a3 a4)) := by
  refine CT.of (by decide +kernel) (Nat.le_of_ble_eq_true rfl) (fun Z hl9 hE9 hp9 C => ?_)
  subst hl9
  subst hE9
  exact wk_X6_speak V_l1 V_l2 C o ho f a1 a3 a4 (by rw [hp9]; exact V_l2.2.2.2.2.2.2.2.2.2.2.2.2.2.2.2.2.2.2.2.2.2.2.2.2.2.2.2.2.2.2.2.2.2.2.2.2.2.2.2.1 o f a1 a3 a4 ho hpre)
