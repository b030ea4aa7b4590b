
abbrev inP (v lo hi : Int32) : Prop := lo ≤ v ∧ v ≤ hi
abbrev isF (g : Fn) (a : Int32) : Prop := 0 ≤ a ∧ a ≤ g 1 0 - 1
abbrev ix (a : Int32) : Nat := a.toNatClampNeg
def heldI (v lo hi : Int32) : Int32 := if v < lo then lo else if hi < v then hi else v
def er (g : Fn) (k : Nat) : Int32 × Fn := (-1000000000 - nI k, up2 g 3 k (g 3 k + 1))
def lawLo (u : Nat) : Int32 := if u = 0 then 1 else -99
def lawHi (u : Nat) : Int32 := if u = 0 then 30 else 99
def txb (d : Nat → Int32) (u : Nat) : Nat → Int32 := fun j => d (112 + 50 * u + j)
/-- what a USE gives -/
def lawD (d : Nat → Int32) (u : Nat) (k v m : Int32) : Int32 :=
  heldI (if 0 < d (90 + u) then (match (rpn k v m (pT (txb d u) (d (90 + u)).toNatClampNeg).2.2).getLast? with | some w => w | none => 0) else if u = 0 then 3 + k * 2 else v * 3 + 30 - k * 2) (lawLo u) (lawHi u)
def txOK (d : Nat → Int32) (u : Nat) : Prop := d (90 + u) = 0 ∨ ∃ n : Nat, 0 < n ∧ n ≤ 50 ∧ d (90 + u) = nI n ∧ (pT (txb d u) n).2.1 = false ∧ (pT (txb d u) n).1 = n
def flq (d : Nat → Int32) (i : Nat) : Nat → Int32 := quad (d (18 + 4 * i)) (d (18 + 4 * i + 1)) (d (18 + 4 * i + 2)) (d (18 + 4 * i + 3))
def lagM (d : Nat → Int32) (i : Nat) : Int32 := lagI (d (18 + 4 * i)) (d (18 + 4 * i + 1)) (d (18 + 4 * i + 3))
def VM (d : Nat → Int32) (i : Nat) : Vw := (tri (d 12) (d 13) (d 14), tri (d 15) (d 16) (d 17), flq d i, quin (d 5) (d 6) (d 7) (d 1) (lagM d i), fun u k v m => lawD d (if u = 0 then 0 else 1) k v m)
/-- the view with a LAG that is tried -/
def VMt (g : Fn) (i : Nat) : Vw := if 0 ≤ g 0 10 then lagV (VM (g 1) i) (g 0 10) else VM (g 1) i
/-- what of the reference's memory lasts -/
def eqM (g g1 : Fn) : Prop := g1 1 = g 1 ∧ g1 2 = g 2 ∧ g1 3 = g 3 ∧ g1 6 = g 6 ∧ g1 7 = g 7 ∧ g1 8 = g 8 ∧ g1 9 = g 9 ∧ g1 0 2 = g 0 2 ∧ g1 0 10 = g 0 10 ∧ g1 0 20 = g 0 20
def swOK (d : Nat → Int32) (s : Nat) : Prop := ∃ p w h : Nat, 4 ≤ p ∧ p ≤ 40 ∧ 1 ≤ w ∧ w ≤ 60 ∧ h < p ∧ d (12 + 3 * s) = nI p ∧ d (12 + 3 * s + 1) = nI w ∧ d (12 + 3 * s + 2) = nI h
def flOK (d : Nat → Int32) (i : Nat) : Prop := ∃ k m t q : Nat, k ≤ 6 ∧ m ≤ 9 ∧ 1 ≤ t ∧ t ≤ 3 ∧ q ≤ 99 ∧ d (18 + 4 * i) = nI k ∧ d (18 + 4 * i + 1) = nI m ∧ d (18 + 4 * i + 2) = nI t ∧ d (18 + 4 * i + 3) = nI q
/-- a memory row as the calls keep it -/
def dOK (d : Nat → Int32) : Prop := swOK d 0 ∧ swOK d 1 ∧ txOK d 0 ∧ txOK d 1
  ∧ (∃ n : Nat, n ≤ 6 ∧ d 0 = nI n ∧ ∀ i, i < n → flOK d i) ∧ (∃ t : Nat, t ≤ 9999 ∧ d 1 = nI t)
  ∧ (∃ a : Nat, a ≤ 200 ∧ d 5 = nI a) ∧ (∃ a : Nat, a ≤ 30 ∧ d 6 = nI a) ∧ (-99 ≤ d 7 ∧ d 7 ≤ 299)
  ∧ (∃ a : Nat, a ≤ 50 ∧ d 9 = nI a) ∧ (∃ a : Nat, a ≤ 20 ∧ d 10 = nI a)
  ∧ (∃ a : Nat, a ≤ 9999 ∧ d 2 = nI a) ∧ (∃ a : Nat, a ≤ 9999 ∧ d 3 = nI a) ∧ (∃ a : Nat, a ≤ 99999 ∧ d 4 = nI a)
  ∧ (∀ k, k < 50 → 0 ≤ d (212 + k) ∧ d (212 + k) < 256)
def shOK (g : Fn) : Prop := ∀ i, i < 4 → (g 7 i = 0 ∨ g 7 i = 8 ∨ g 7 i = 16 ∨ g 7 i = 32) ∧ ∃ n : Nat, n ≤ 40 ∧ g 8 i = nI n
def InvM (g : Fn) : Prop := dOK (g 1) ∧ (g 0 2 = 0 ∨ dOK (g 2)) ∧ g 0 10 = -1 ∧ shOK g ∧ (∃ t : Nat, t ≤ 40 ∧ g 0 20 = nI t)
/-- for what is inside a call: the memory may be tried with another swing, another lag -/
def MidM (g : Fn) : Prop := dOK (g 1) ∧ (∃ x : Int32, g 0 10 = x)

def frT (f f1 : Fn) : Prop := (∀ a, ¬ a = 0 → ¬ a = 4 → f1 a = f a) ∧ ∀ j, ¬ j = 4 → ¬ j = 5 → ¬ j = 6 → ¬ j = 7 → ¬ j = 8 → f1 0 j = f 0 j
def frG (f f1 : Fn) : Prop := (∀ a, ¬ a = 0 → ¬ a = 4 → f1 a = f a) ∧ ∀ j, (j < 4 ∨ j = 9 ∨ j = 10 ∨ 14 < j) → f1 0 j = f 0 j
def pmAt (f : Fn) (bs n p op : Nat) : Prop := bs + n ≤ 264 ∧ n ≤ 50 ∧ p ≤ n ∧ op ≤ 5 ∧ f 0 4 = nI bs ∧ f 0 6 = nI n ∧ f 0 5 = nI p ∧ f 0 7 = -1 ∧ f 0 8 = nI op
def pmPre (f : Fn) : Prop := ∃ bs n p op : Nat, pmAt f bs n p op
def evS (f : Fn) (S xs : List Int32) : List Int32 := xs.foldl (rpS (f 4 0) (f 4 1) (f 4 2)) S
def pmPost (f f1 : Fn) (lv : Nat) (r : Int32) : Prop := ∀ bs n p op d : Nat, pmAt f bs n p op → fuelR lv op ≤ d →
  (∀ a, ¬ a = 0 → f1 a = f a) ∧ (∀ j, ¬ j = 5 → ¬ j = 7 → ¬ j = 8 → f1 0 j = f 0 j) ∧ (psR (fun j => f 1 (bs + j)) n d lv op p).1 ≤ n
  ∧ (if (psR (fun j => f 1 (bs + j)) n d lv op p).2.1 = false then f1 0 5 = nI (psR (fun j => f 1 (bs + j)) n d lv op p).1 ∧ f1 0 7 = -1 ∧ f1 0 8 = f 0 8 ∧ ∀ S, evS f S (psR (fun j => f 1 (bs + j)) n d lv op p).2.2 = r :: S
     else f1 0 7 = nI (psR (fun j => f 1 (bs + j)) n d lv op p).1)
def sw3 (d : Nat → Int32) (s : Nat) : Nat → Int32 := tri (d (12 + 3 * s)) (d (12 + 3 * s + 1)) (d (12 + 3 * s + 2))
def abvI (k : Int32) : Int32 := if k < 4 then 0 else k - 3
def byteM (w : Int64) (k : Nat) : Int32 := ((w >>> ((8 * nI k).toInt64 &&& 63)) &&& 255).toInt32
def zNx (z : Int32) : Int32 := z * 1103515245 + 12345
def zDr (z : Int32) : Int32 := (z.toUInt32 >>> ((8 : Int32).toUInt32 &&& Int32.toUInt32 31)).toInt32
def RE_swing (g : Fn) (s w v : Int32) : Int32 × Fn :=
  if (inP s 0 1 ∧ inP w 0 2) ∧ ((w = 0 ∧ inP v 4 40) ∨ (w = 1 ∧ inP v 1 60) ∨ (w = 2 ∧ inP v 0 (g 1 (12 + 3 * ix s) - 1))) then
    (g 1 (12 + 3 * ix s + ix w), up2 (up2 g 1 (12 + 3 * ix s + ix w) v) 1 (12 + 3 * ix s + 2) (remI (up2 g 1 (12 + 3 * ix s + ix w) v 1 (12 + 3 * ix s + 2)) (up2 g 1 (12 + 3 * ix s + ix w) v 1 (12 + 3 * ix s))))
  else er g 1
def RE_bar (g : Fn) (s t : Int32) : Int32 × Fn := if inP s 0 1 ∧ inP t 0 19999 then (swV (sw3 (g 1) (ix s)) t, g) else er g 1
def RE_set (g : Fn) (w v : Int32) : Int32 × Fn := if (w = 0 ∧ inP v 0 200) ∨ (w = 1 ∧ inP v 0 30) ∨ (w = 2 ∧ inP v (-99) 299) then (g 1 (5 + ix w), up2 g 1 (5 + ix w) v) else er g 1
def fl4 (i : Nat) : Nat := 18 + 4 * i
def RE_flyer (g : Fn) (km : Int32) : Int32 × Fn := if inP km 0 69 then (if g 1 0 = 6 then er g 4 else
    (g 1 0, up2 (up2 (up2 (up2 (up2 g 1 0 (g 1 0 + 1)) 1 (fl4 (ix (g 1 0))) (km / 10)) 1 (fl4 (ix (g 1 0)) + 1) (remI km 10)) 1 (fl4 (ix (g 1 0)) + 2) 1) 1 (fl4 (ix (g 1 0)) + 3) 0)) else er g 1
def RE_ofFlyer (g : Fn) (a w : Int32) : Int32 × Fn := if isF g a ∧ inP w 0 6 then
    ((if w = 4 then lagM (g 1) (ix a) else if w = 5 then holdsI (g 1 (fl4 (ix a))) (g 1 (fl4 (ix a) + 1)) (g 1 (fl4 (ix a) + 3)) (g 1 6) else if w = 6 then harmI (g 1 (fl4 (ix a))) (g 1 (fl4 (ix a) + 3)) 10 else g 1 (fl4 (ix a) + ix w)), g) else er g 1
def RE_become (g : Fn) (a km : Int32) : Int32 × Fn := if isF g a ∧ inP km 0 69 then (g 1 (fl4 (ix a)), up2 (up2 g 1 (fl4 (ix a)) (km / 10)) 1 (fl4 (ix a) + 1) (remI km 10)) else er g 1
def RE_as (g : Fn) (a k : Int32) : Int32 × Fn := if isF g a ∧ inP k 0 6 then (if k = 0 ∨ k = g 1 (fl4 (ix a)) ∨ k = abvI (g 1 (fl4 (ix a))) then (g 1 (fl4 (ix a) + 1), g) else er g 5) else er g 1
def RE_turn (g : Fn) (a k : Int32) : Int32 × Fn := if isF g a ∧ inP k 1 3 then (g 1 (fl4 (ix a) + 2), up2 g 1 (fl4 (ix a) + 2) k) else er g 1
def RE_feed (g : Fn) (w : Int64) (n : Int32) : Int32 × Fn := if inP n 1 8 then (if 50 < g 1 9 + n then er g 4 else
    (g 1 9 + n, fun a => if a = 1 then (fun j => if j = 9 then g 1 9 + n else if 212 + ix (g 1 9) ≤ j ∧ j < 212 + ix (g 1 9) + ix n then byteM w (j - (212 + ix (g 1 9))) else g 1 j) else g a)) else er g 1
def RE_text (g : Fn) (u : Int32) : Int32 × Fn := if inP u 0 1 then
    (if (pT (fun j => g 1 (212 + j)) (ix (g 1 9))).2.1 = false ∧ (pT (fun j => g 1 (212 + j)) (ix (g 1 9))).1 = ix (g 1 9) then
      (1, fun a => if a = 1 then (fun j => if j = 9 then 0 else if j = 90 + ix u then g 1 9 else if 112 + 50 * ix u ≤ j ∧ j < 112 + 50 * ix u + ix (g 1 9) then g 1 (212 + (j - (112 + 50 * ix u))) else g 1 j) else g a)
     else (-10 - nI (pT (fun j => g 1 (212 + j)) (ix (g 1 9))).1, up2 g 1 9 0)) else er g 1
def RE_law (g : Fn) (u a b c : Int32) : Int32 × Fn := if inP u 0 1 then (lawD (g 1) (ix u) a b c, g) else er g 1
def hmM (d : Nat → Int32) (i : Nat) (v : Int32) : Int32 := harmI (d (fl4 i)) (d (fl4 i + 3)) v
def RE_goes (g : Fn) (i : Nat) (t : Int32) : Int32 × Fn :=
  if vCt (VM (g 1) i) t = true then (0, up2 (up2 g 1 2 (heldI (g 1 2 + 1) 0 9999)) 1 (fl4 i + 3) (heldI (g 1 (fl4 i + 3) + 1) 0 99))
  else (1 + hmM (g 1) i (absI (vPl (VM (g 1) i) (vT (VM (g 1) i) t) - g 1 7)),
    up2 (up2 (up2 g 1 3 (heldI (g 1 3 + 1) 0 9999)) 1 4 (heldI (g 1 4 + hmM (g 1) i (absI (vPl (VM (g 1) i) (vT (VM (g 1) i) t) - g 1 7))) 0 99999)) 1 (fl4 i + 3) (heldI (g 1 (fl4 i + 3) + 1) 0 99))
def RE_go (g : Fn) (a : Int32) : Int32 × Fn := if isF g a then RE_goes g (ix a) (g 1 1) else er g 1
def RE_ticks (g : Fn) (n : Int32) : Int32 × Fn := if inP n 1 200 then (if 9999 < g 1 1 + n then er g 3 else (g 1 1 + n, up2 g 1 1 (g 1 1 + n))) else er g 1
def eveS (g : Fn) (i : Nat) : Fn := (RE_goes (up2 g 1 8 (zNx (g 1 8))) i (g 1 1 + remI (zDr (zNx (g 1 8))) 12)).2
def eveN (g : Fn) : Nat → Fn
  | 0 => g
  | i + 1 => eveS (eveN g i) i
def eve1 (g : Fn) : Fn := up2 (eveN g (ix (g 1 0))) 1 1 (eveN g (ix (g 1 0)) 1 1 + 12)
def eveK (g : Fn) : Nat → Fn
  | 0 => g
  | k + 1 => eve1 (eveK g k)
def RE_evenings (g : Fn) (n : Int32) : Int32 × Fn := if inP n 1 40 then (if 9999 < g 1 1 + 12 * n then er g 3 else (eveK g (ix n) 1 2, eveK g (ix n))) else er g 1
def rstN (g : Fn) : Nat → Int32 × Fn
  | 0 => (0, g)
  | i + 1 => ((rstN g i).1 + (rstN g i).2 1 (fl4 i + 3), up2 (rstN g i).2 1 (fl4 i + 3) 0)
def RE_rest (g : Fn) : Int32 × Fn := rstN g (ix (g 1 0))
def RE_then (g : Fn) (a n w : Int32) : Int32 × Fn := if isF g a ∧ inP n 0 60 ∧ inP w 0 4 then
    ((if w = 0 then vOff (VM (g 1) (ix a)) (vT (VM (g 1) (ix a)) (g 1 1 + n)) 0 else if w = 1 then bI (vCt (VM (g 1) (ix a)) (g 1 1 + n)) else if w = 2 then vC (VM (g 1) (ix a)) (vT (VM (g 1) (ix a)) (g 1 1 + n))
      else if w = 3 then vPl (VM (g 1) (ix a)) (vT (VM (g 1) (ix a)) (g 1 1 + n)) else hmM (g 1) (ix a) (absI (vPl (VM (g 1) (ix a)) (vT (VM (g 1) (ix a)) (g 1 1 + n)) - g 1 7))), g) else er g 1
def RE_o (g : Fn) (o : Option Nat) : Int32 × Fn := match o with
  | some k => (nI k, g)
  | none => er g 2
def RE_can (g : Fn) (a n w : Int32) : Int32 × Fn := if isF g a ∧ inP n 1 60 ∧ inP w 0 1 then (if w = 0 then (cntI (canP (VM (g 1) (ix a))) (ix n), g) else RE_o g (fst (canP (VM (g 1) (ix a))) (ix n))) else er g 1
def RE_surest (g : Fn) (a n : Int32) : Int32 × Fn := if isF g a ∧ inP n 1 60 then (surI (VM (g 1) (ix a)) (ix n), g) else er g 1
def frcI (x y p : Int32) : Int32 := if p = 0 then x / nI (Nat.gcd x.toInt.natAbs y.toInt.natAbs) else y / nI (Nat.gcd x.toInt.natAbs y.toInt.natAbs)
def RE_odds (g : Fn) (a n p : Int32) : Int32 × Fn := if isF g a ∧ inP n 0 60 ∧ inP p 0 1 then (frcI (casI (VM (g 1) (ix a)) (g 1 1 + n)) 9 p, g) else er g 1
def RE_pumped (g : Fn) (a n : Int32) : Int32 × Fn := if isF g a ∧ inP n 1 60 then RE_o g (fst (pmpP (VM (g 1) (ix a)) (ix n)) 60) else er g 1
def RE_inStep (g : Fn) (a n : Int32) : Int32 × Fn := if isF g a ∧ inP n 1 60 then RE_o g (fst (stpP (VM (g 1) (ix a)) (ix n)) 40) else er g 1
def mndI (off x y : Int32) : Int32 := off - off * x / 10 - off * y / 10
def RE_mend (g : Fn) (a n x y : Int32) : Int32 × Fn := if isF g a ∧ inP n 0 60 ∧ inP x 0 9 ∧ inP y 0 9 then (mndI (vOff (VM (g 1) (ix a)) (vT (VM (g 1) (ix a)) (g 1 1 + n)) 0) x y, g) else er g 1
def agnI (c x h : Int32) : Int32 := 9 * c * x + (9 - c) * (maxI 0 (c * x - (9 - c) * h) - 9 * h)
def RE_again (g : Fn) (a n x h p : Int32) : Int64 × Fn := if isF g a ∧ inP n 1 60 ∧ inP x 0 99 ∧ inP h 0 99 ∧ inP p 0 1 then
    ((frcI (agnI (casI (VM (g 1) (ix a)) (g 1 1 + surI (VM (g 1) (ix a)) (ix n))) x h) 81 p).toInt64, g) else ((er g 1).1.toInt64, (er g 1).2)
def RE_net (g : Fn) (a n w : Int32) : Int32 × Fn := if isF g a ∧ inP n 1 60 ∧ inP w 0 1 then
    (if falL (VM (g 1) (ix a)) (ix n) = [] then er g 2
     else ((if w = 0 then (lstP (fun net => hsumI (hmM (g 1) (ix a)) net (falL (VM (g 1) (ix a)) (ix n))) 398).1 else (lstP (fun net => hsumI (hmM (g 1) (ix a)) net (falL (VM (g 1) (ix a)) (ix n))) 398).2), g)) else er g 1
def shN (g : Fn) (s : Nat) : Nat → Int32 := fun k => g 9 (40 * s + k)
def RE_phases (g : Fn) (a s w : Int32) : Int32 × Fn := if isF g a ∧ inP s 0 3 ∧ inP w 0 1 then
    (if g 7 (ix s) = 0 then er g 2 else if w = 0 then RE_o g (fst (phsP (VM (g 1) (ix a)) (shN g (ix s)) (ix (g 8 (ix s)))) (ix (g 1 15)))
     else if fst (phsP (VM (g 1) (ix a)) (shN g (ix s)) (ix (g 8 (ix s)))) (ix (g 1 15)) = none then er g 2 else (cntI (phsP (VM (g 1) (ix a)) (shN g (ix s)) (ix (g 8 (ix s)))) (ix (g 1 15)), g)) else er g 1
def RE_late (g : Fn) (a s : Int32) : Int32 × Fn := if isF g a ∧ inP s 0 3 then (if g 7 (ix s) = 0 then er g 2 else RE_o g (fst (lagP (VM (g 1) (ix a)) (shN g (ix s)) (ix (g 8 (ix s)))) 10)) else er g 1
def RE_seed (g : Fn) (v : Int32) : Int32 × Fn := (g 1 8, up2 g 1 8 v)
def trcF (g : Fn) (ys : List Int32) : Fn := fun a => if a = 6 then (fun j => if j < ys.length then ys.getD j 0 else g 6 j) else if a = 0 then upd (g 0) 20 (nI ys.length) else g a
def voM (g : Fn) (a act x : Int32) : Int32 × List Int32 := vo (g 1 (fl4 (ix a))) a (g 1 (fl4 (ix a) + 1)) 12 act (g 1 (fl4 (ix a))) x
def RE_voice (g : Fn) (a act x : Int32) : Int32 × Fn := if isF g a ∧ inP act 0 3 then ((voM g a act x).1, trcF g (voM g a act x).2) else er g 1
def RE_trace (g : Fn) (i : Int32) : Int32 × Fn := if inP i 0 (g 0 20 - 1) then (g 6 (ix i), g) else er g 2
def RE_sheet (g : Fn) (s b n : Int32) : Int32 × Fn := if inP s 0 3 ∧ (b = 0 ∨ b = 8 ∨ b = 16 ∨ b = 32) then
    (if ¬ b = 0 ∧ n < 0 then er g 3 else if ¬ b = 0 ∧ 40 < n then er g 1 else
      (1, fun a => if a = 7 then upd (g 7) (ix s) b else if a = 8 then upd (g 8) (ix s) (if b = 0 then 0 else n) else if a = 9 then (fun j => if 40 * ix s ≤ j ∧ j < 40 * ix s + 40 then 0 else g 9 j) else g a)) else er g 1
def narI (b v : Int32) : Int32 := if b = 8 then v.toInt8.toInt32 else if b = 16 then v.toInt16.toInt32 else v
def RE_put (g : Fn) (s i v : Int32) : Int32 × Fn := if inP s 0 3 then (if g 7 (ix s) = 0 then er g 2 else if inP i 0 (g 8 (ix s) - 1) then (1, up2 g 9 (40 * ix s + ix i) (narI (g 7 (ix s)) v)) else er g 1) else er g 1
def RE_move (g : Fn) (s i o j n : Int32) : Int32 × Fn := if inP s 0 3 ∧ inP o 0 3 then
    (if g 7 (ix s) = 0 ∨ g 7 (ix o) = 0 then er g 2 else if ¬ g 7 (ix s) = g 7 (ix o) then er g 5
     else if n < 0 ∨ i < 0 ∨ j < 0 ∨ g 8 (ix s) - i < n ∨ g 8 (ix o) - j < n then er g 1
     else (n, fun a => if a = 9 then (fun q => if 40 * ix o + ix j ≤ q ∧ q < 40 * ix o + ix j + ix n then g 9 (40 * ix s + ix i + (q - (40 * ix o + ix j))) else g 9 q) else g a)) else er g 1
/-- turns are taken from a sheet as long as they are 1 to 3 and there are flyers -/
def trnN (g : Fn) (s : Nat) : Nat → Nat × Fn
  | 0 => (0, g)
  | k + 1 => if (trnN g s k).1 = k ∧ nI k < g 1 0 ∧ inP (g 9 (40 * s + k)) 1 3 then (k + 1, up2 (trnN g s k).2 1 (fl4 k + 2) (g 9 (40 * s + k))) else trnN g s k
def RE_turns (g : Fn) (s : Int32) : Int32 × Fn := if inP s 0 3 then (if g 7 (ix s) = 0 then er g 2 else (nI (trnN g (ix s) (ix (g 8 (ix s)))).1, (trnN g (ix s) (ix (g 8 (ix s)))).2)) else er g 1
def jdgN (g : Fn) (s : Nat) : Nat → Nat
  | 0 => 0
  | k + 1 => if jdgN g s k = k ∧ nI k < g 1 0 ∧ g 9 (40 * s + k) = g 1 (fl4 k + 3) then k + 1 else jdgN g s k
def RE_judge (g : Fn) (s : Int32) : Int32 × Fn := if inP s 0 3 then (if g 7 (ix s) = 0 then er g 2 else
    (if nI (jdgN g (ix s) (ix (g 8 (ix s)))) = g 8 (ix s) ∧ nI (jdgN g (ix s) (ix (g 8 (ix s)))) = g 1 0 then -1 else nI (jdgN g (ix s) (ix (g 8 (ix s)))), g)) else er g 1
def RE_image (g : Fn) : Int32 × Fn := (g 0 2 + 1, fun a => if a = 2 then (fun j => if j < 264 then g 1 j else g 2 j) else if a = 0 then upd (g 0) 2 (g 0 2 + 1) else g a)
def RE_restore (g : Fn) : Int32 × Fn := if g 0 2 = 0 then er g 2 else (g 2 1, fun a => if a = 1 then (fun j => if j < 264 then g 2 j else g 1 j) else g a)
def RE_tell (g : Fn) (v : Int32) : Int32 × Fn := if g 1 10 = 20 then er g 4 else (g 1 10 + 1, up2 (up2 g 1 (92 + ix (g 1 10)) v) 1 10 (g 1 10 + 1))
def chkP (g : Fn) (k : Nat) : Bool := decide (¬ g 1 (92 + k) = swV (sw3 (g 1) 0) (g 1 1 + nI k))
def RE_check (g : Fn) : Int32 × Fn := (match fst (chkP g) (ix (g 1 10)) with | some k => 1 + nI k | none => 0, up2 g 1 10 0)
def RE_count (g : Fn) (w : Int32) : Int32 × Fn := if inP w 0 7 then (g 1 (ix w), g) else if w = 8 then (g 1 9, g) else if w = 9 then (g 1 10, g) else if w = 10 then (g 0 20, g) else if w = 11 then (g 1 8, g) else er g 1
def RE_told (g : Fn) (k : Int32) : Int32 × Fn := if inP k 1 5 then (g 3 (ix k), g) else er g 1

def Pre_X9_finds  (f : Fn) (a1 : Int32) : Prop := vp_in a1 6
def Post_X9_finds  (f : Fn) (a1 : Int32) (r : Int32) (f1 : Fn) : Prop := r = -1000000000 - a1 ∧ f1 = up2 f 3 (ix a1) (f 3 (ix a1) + 1)
def Val_X9_in  (f : Fn) (a1 : Int64) (a2 : Int64) (a3 : Int64) : Int32 := if a2 ≤ a1 ∧ a1 ≤ a3 then 1 else 0
def Val_X9_held  (f : Fn) (a1 : Int32) (a2 : Int32) (a3 : Int32) : Int32 := heldI a1 a2 a3
def Val_X9_isFlyer  (f : Fn) (a1 : Int32) : Int32 := if isF f a1 then 1 else 0
def Pre_X9_of  (f : Fn) (a1 : Int32) (a2 : Int32) : Prop := vp_in a1 6 ∧ vp_in a2 4
def Val_X9_of  (f : Fn) (a1 : Int32) (a2 : Int32) : Int32 := f 1 (fl4 (ix a1) + ix a2)
def Pre_X9_sets  (f : Fn) (a1 : Int32) (a2 : Int32) (a3 : Int32) : Prop := vp_in a1 6 ∧ vp_in a2 4
def Post_X9_sets  (f : Fn) (a1 : Int32) (a2 : Int32) (a3 : Int32) (f1 : Fn) : Prop := f1 = up2 f 1 (fl4 (ix a1) + ix a2) a3
def Pre_X9_here  (f : Fn)  : Prop := f 0 5 < f 0 6 → f 0 7 < 0 → vp_in (f 0 4 + f 0 5) 264
def Val_X9_here  (f : Fn)  : Int32 := if f 0 5 < f 0 6 ∧ f 0 7 < 0 then f 1 (ix (f 0 4 + f 0 5)) else -1
def Post_X9_wrong  (f : Fn)  (r : Int32) (f1 : Fn) : Prop := r = 0 ∧ f1 = up2 f 0 7 (if f 0 7 < 0 then f 0 5 else f 0 7)
def Pre_X9_takes  (f : Fn) (a1 : Int32) : Prop := f 0 5 < f 0 6 → f 0 7 < 0 → vp_in (f 0 4 + f 0 5) 264
def Post_X9_takes  (f : Fn) (a1 : Int32) (r : Int32) (f1 : Fn) : Prop := if Val_X9_here f = a1 then r = 1 ∧ f1 = up2 f 0 5 (f 0 5 + 1) else r = 0 ∧ f1 = f
def Val_X9_nameOf  (f : Fn) (a1 : Int32) : Int32 := if a1 = 107 then 0 else if a1 = 118 then 1 else if a1 = 109 then 2 else -1
def Pre_X9_either  (f : Fn)  : Prop := pmPre f
def Post_X9_either  (f : Fn)  (r : Int32) (f1 : Fn) : Prop := pmPost f f1 0 r
def mu_X9_either  (f : Fn)  : Nat := 8 * (5 - ix (f 0 8)) + 7
def Pre_X9_both  (f : Fn)  : Prop := pmPre f
def Post_X9_both  (f : Fn)  (r : Int32) (f1 : Fn) : Prop := pmPost f f1 1 r
def mu_X9_both  (f : Fn)  : Nat := 8 * (5 - ix (f 0 8)) + 6
def Pre_X9_compared  (f : Fn)  : Prop := pmPre f
def Post_X9_compared  (f : Fn)  (r : Int32) (f1 : Fn) : Prop := pmPost f f1 2 r
def mu_X9_compared  (f : Fn)  : Nat := 8 * (5 - ix (f 0 8)) + 5
def Pre_X9_sum  (f : Fn)  : Prop := pmPre f
def Post_X9_sum  (f : Fn)  (r : Int32) (f1 : Fn) : Prop := pmPost f f1 3 r
def mu_X9_sum  (f : Fn)  : Nat := 8 * (5 - ix (f 0 8)) + 4
def Pre_X9_product  (f : Fn)  : Prop := pmPre f
def Post_X9_product  (f : Fn)  (r : Int32) (f1 : Fn) : Prop := pmPost f f1 4 r
def mu_X9_product  (f : Fn)  : Nat := 8 * (5 - ix (f 0 8)) + 3
def Pre_X9_unit  (f : Fn)  : Prop := pmPre f
def Post_X9_unit  (f : Fn)  (r : Int32) (f1 : Fn) : Prop := pmPost f f1 5 r
def mu_X9_unit  (f : Fn)  : Nat := 8 * (5 - ix (f 0 8)) + 2
def Pre_X9_worked  (f : Fn) (a1 : Int32) (a2 : Int32) (a3 : Int32) : Prop := ∃ bs n : Nat, a1 = nI bs ∧ a2 = nI n ∧ bs + n ≤ 264 ∧ n ≤ 50
def Post_X9_worked  (f : Fn) (a1 : Int32) (a2 : Int32) (a3 : Int32) (r : Int32) (f1 : Fn) : Prop := ∀ bs n : Nat, a1 = nI bs → a2 = nI n → bs + n ≤ 264 → n ≤ 50 → (∀ a, ¬ a = 0 → f1 a = f a) ∧ (∀ j, ¬ j = 4 → ¬ j = 5 → ¬ j = 6 → ¬ j = 7 → ¬ j = 8 → f1 0 j = f 0 j) ∧ (pT (fun j => f 1 (bs + j)) n).1 ≤ n ∧ (if (pT (fun j => f 1 (bs + j)) n).2.1 = false ∧ (pT (fun j => f 1 (bs + j)) n).1 = n then f1 0 7 = -1 ∧ ∀ S, evS f S (pT (fun j => f 1 (bs + j)) n).2.2 = r :: S else f1 0 7 = nI (pT (fun j => f 1 (bs + j)) n).1)
def Pre_X9_feed  (f : Fn) (a1 : Int64) (a2 : Int32) : Prop := InvM f
def Post_X9_feed  (f : Fn) (a1 : Int64) (a2 : Int32) (r : Int32) (f1 : Fn) : Prop := r = (RE_feed f a1 a2).1 ∧ eqM (RE_feed f a1 a2).2 f1
def Pre_X9_text  (f : Fn) (a1 : Int32) : Prop := InvM f
def Post_X9_text  (f : Fn) (a1 : Int32) (r : Int32) (f1 : Fn) : Prop := r = (RE_text f a1).1 ∧ eqM (RE_text f a1).2 f1
def Pre_X9_textGives  (f : Fn) (a1 : Int32) (a2 : Int32) (a3 : Int32) (a4 : Int32) : Prop := vp_in a1 2 ∧ txOK (f 1) (ix a1)
def Post_X9_textGives  (f : Fn) (a1 : Int32) (a2 : Int32) (a3 : Int32) (a4 : Int32) (r : Int32) (f1 : Fn) : Prop := r = lawD (f 1) (ix a1) a2 a3 a4 ∧ frT f f1
def Pre_X9_law  (f : Fn) (a1 : Int32) (a2 : Int32) (a3 : Int32) (a4 : Int32) : Prop := InvM f
def Post_X9_law  (f : Fn) (a1 : Int32) (a2 : Int32) (a3 : Int32) (a4 : Int32) (r : Int32) (f1 : Fn) : Prop := r = (RE_law f a1 a2 a3 a4).1 ∧ eqM (RE_law f a1 a2 a3 a4).2 f1
def Val_X9_isSwing  (f : Fn) (a1 : Int32) : Int32 := if inP a1 0 1 then 1 else 0
def Pre_X9_barOf  (f : Fn) (a1 : Int32) (a2 : Int32) : Prop := vp_in a1 2 ∧ swOK (f 1) 0 ∧ swOK (f 1) 1
def Val_X9_barOf  (f : Fn) (a1 : Int32) (a2 : Int32) : Int32 := swV (sw3 (f 1) (ix a1)) a2
def Pre_X9_catcherAt  (f : Fn) (a1 : Int32) : Prop := swOK (f 1) 0 ∧ swOK (f 1) 1
def Val_X9_catcherAt  (f : Fn) (a1 : Int32) : Int32 := f 1 5 - swV (sw3 (f 1) 1) a1
def Pre_X9_swing  (f : Fn) (a1 : Int32) (a2 : Int32) (a3 : Int32) : Prop := InvM f
def Post_X9_swing  (f : Fn) (a1 : Int32) (a2 : Int32) (a3 : Int32) (r : Int32) (f1 : Fn) : Prop := r = (RE_swing f a1 a2 a3).1 ∧ eqM (RE_swing f a1 a2 a3).2 f1
def Pre_X9_bar  (f : Fn) (a1 : Int32) (a2 : Int32) : Prop := InvM f
def Post_X9_bar  (f : Fn) (a1 : Int32) (a2 : Int32) (r : Int32) (f1 : Fn) : Prop := r = (RE_bar f a1 a2).1 ∧ eqM (RE_bar f a1 a2).2 f1
def Pre_X9_set  (f : Fn) (a1 : Int32) (a2 : Int32) : Prop := InvM f
def Post_X9_set  (f : Fn) (a1 : Int32) (a2 : Int32) (r : Int32) (f1 : Fn) : Prop := r = (RE_set f a1 a2).1 ∧ eqM (RE_set f a1 a2).2 f1
def Pre_X9_lagOf  (f : Fn) (a1 : Int32) : Prop := vp_in a1 6
def Val_X9_lagOf  (f : Fn) (a1 : Int32) : Int32 := if 0 ≤ f 0 10 then f 0 10 else lagM (f 1) (ix a1)
def Pre_X9_holdsOf  (f : Fn) (a1 : Int32) : Prop := vp_in a1 6
def Val_X9_holdsOf  (f : Fn) (a1 : Int32) : Int32 := holdsI (f 1 (fl4 (ix a1))) (f 1 (fl4 (ix a1) + 1)) (f 1 (fl4 (ix a1) + 3)) (f 1 6)
def Pre_X9_harmOf  (f : Fn) (a1 : Int32) (a2 : Int32) : Prop := vp_in a1 6
def Val_X9_harmOf  (f : Fn) (a1 : Int32) (a2 : Int32) : Int32 := hmM (f 1) (ix a1) a2
def Pre_X9_flyer  (f : Fn) (a1 : Int32) : Prop := InvM f
def Post_X9_flyer  (f : Fn) (a1 : Int32) (r : Int32) (f1 : Fn) : Prop := r = (RE_flyer f a1).1 ∧ eqM (RE_flyer f a1).2 f1
def Pre_X9_ofFlyer  (f : Fn) (a1 : Int32) (a2 : Int32) : Prop := InvM f
def Post_X9_ofFlyer  (f : Fn) (a1 : Int32) (a2 : Int32) (r : Int32) (f1 : Fn) : Prop := r = (RE_ofFlyer f a1 a2).1 ∧ eqM (RE_ofFlyer f a1 a2).2 f1
def Pre_X9_become  (f : Fn) (a1 : Int32) (a2 : Int32) : Prop := InvM f
def Post_X9_become  (f : Fn) (a1 : Int32) (a2 : Int32) (r : Int32) (f1 : Fn) : Prop := r = (RE_become f a1 a2).1 ∧ eqM (RE_become f a1 a2).2 f1
def Val_X9_above  (f : Fn) (a1 : Int32) : Int32 := abvI a1
def Pre_X9_as  (f : Fn) (a1 : Int32) (a2 : Int32) : Prop := InvM f
def Post_X9_as  (f : Fn) (a1 : Int32) (a2 : Int32) (r : Int32) (f1 : Fn) : Prop := r = (RE_as f a1 a2).1 ∧ eqM (RE_as f a1 a2).2 f1
def Pre_X9_turn  (f : Fn) (a1 : Int32) (a2 : Int32) : Prop := InvM f
def Post_X9_turn  (f : Fn) (a1 : Int32) (a2 : Int32) (r : Int32) (f1 : Fn) : Prop := r = (RE_turn f a1 a2).1 ∧ eqM (RE_turn f a1 a2).2 f1
def Pre_X9_letsGo  (f : Fn) (a1 : Int32) (a2 : Int32) : Prop := dOK (f 1) ∧ vp_in a1 6
def Post_X9_letsGo  (f : Fn) (a1 : Int32) (a2 : Int32) (f1 : Fn) : Prop := frG f f1 ∧ f1 0 13 = f 0 13 ∧ f1 0 14 = f 0 14 ∧ f1 0 11 = vC (VMt f (ix a1)) a2 ∧ f1 0 12 = vPl (VMt f (ix a1)) a2
def Val_X9_size0  (f : Fn) (a1 : Int32) : Int32 := absI a1
def Pre_X9_offNow  (f : Fn)  : Prop := swOK (f 1) 0 ∧ swOK (f 1) 1
def Val_X9_offNow  (f : Fn)  : Int32 := f 0 12 - (f 1 5 - swV (sw3 (f 1) 1) (f 0 11))
def Pre_X9_isTold  (f : Fn) (a1 : Int32) (a2 : Int32) : Prop := dOK (f 1) ∧ vp_in a1 6
def Post_X9_isTold  (f : Fn) (a1 : Int32) (a2 : Int32) (f1 : Fn) : Prop := frG f f1 ∧ f1 0 13 = f 0 13 ∧ f1 0 14 = f 0 14 ∧ f1 0 11 = vC (VMt f (ix a1)) (vT (VMt f (ix a1)) a2) ∧ f1 0 12 = vPl (VMt f (ix a1)) (vT (VMt f (ix a1)) a2)
def Pre_X9_isCaught  (f : Fn) (a1 : Int32) : Prop := dOK (f 1) ∧ vp_in a1 6
def Val_X9_isCaught  (f : Fn) (a1 : Int32) : Int32 := bI (decide (absI (f 0 12 - (f 1 5 - swV (sw3 (f 1) 1) (f 0 11))) ≤ vHd (VM (f 1) (ix a1))))
def Pre_X9_fallHarm  (f : Fn) (a1 : Int32) (a2 : Int32) : Prop := vp_in a1 6
def Val_X9_fallHarm  (f : Fn) (a1 : Int32) (a2 : Int32) : Int32 := hmM (f 1) (ix a1) (absI (f 0 12 - a2))
def Pre_X9_goes  (f : Fn) (a1 : Int32) (a2 : Int32) : Prop := dOK (f 1) ∧ isF f a1 ∧ f 0 10 = -1
def Post_X9_goes  (f : Fn) (a1 : Int32) (a2 : Int32) (r : Int32) (f1 : Fn) : Prop := r = (RE_goes f (ix a1) a2).1 ∧ eqM (RE_goes f (ix a1) a2).2 f1
def Pre_X9_go  (f : Fn) (a1 : Int32) : Prop := InvM f
def Post_X9_go  (f : Fn) (a1 : Int32) (r : Int32) (f1 : Fn) : Prop := r = (RE_go f a1).1 ∧ eqM (RE_go f a1).2 f1
def Pre_X9_ticks  (f : Fn) (a1 : Int32) : Prop := InvM f
def Post_X9_ticks  (f : Fn) (a1 : Int32) (r : Int32) (f1 : Fn) : Prop := r = (RE_ticks f a1).1 ∧ eqM (RE_ticks f a1).2 f1
def Post_X9_drawn  (f : Fn)  (r : Int32) (f1 : Fn) : Prop := r = zDr (zNx (f 1 8)) ∧ f1 = up2 f 1 8 (zNx (f 1 8))
def Pre_X9_evenings  (f : Fn) (a1 : Int32) : Prop := InvM f
def Post_X9_evenings  (f : Fn) (a1 : Int32) (r : Int32) (f1 : Fn) : Prop := r = (RE_evenings f a1).1 ∧ eqM (RE_evenings f a1).2 f1
def Pre_X9_rest  (f : Fn)  : Prop := InvM f
def Post_X9_rest  (f : Fn)  (r : Int32) (f1 : Fn) : Prop := r = (RE_rest f ).1 ∧ eqM (RE_rest f ).2 f1
def Val_X9_isSoon  (f : Fn) (a1 : Int32) : Int32 := if inP a1 0 60 then 1 else 0
def Val_X9_isSpan  (f : Fn) (a1 : Int32) : Int32 := if inP a1 1 60 then 1 else 0
def Pre_X9_then  (f : Fn) (a1 : Int32) (a2 : Int32) (a3 : Int32) : Prop := InvM f
def Post_X9_then  (f : Fn) (a1 : Int32) (a2 : Int32) (a3 : Int32) (r : Int32) (f1 : Fn) : Prop := r = (RE_then f a1 a2 a3).1 ∧ eqM (RE_then f a1 a2 a3).2 f1
def Pre_X9_findCan  (f : Fn) (a1 : Int32) (a2 : Int32) : Prop := dOK (f 1) ∧ vp_in a1 6 ∧ ¬ 60 < a2 ∧ ¬ a2 < 0
def Post_X9_findCan  (f : Fn) (a1 : Int32) (a2 : Int32) (f1 : Fn) : Prop := frG f f1 ∧ f1 0 13 = cntI (canP (VMt f (ix a1))) (ix a2) ∧ f1 0 14 = oI (fst (canP (VMt f (ix a1))) (ix a2))
def Pre_X9_can  (f : Fn) (a1 : Int32) (a2 : Int32) (a3 : Int32) : Prop := InvM f
def Post_X9_can  (f : Fn) (a1 : Int32) (a2 : Int32) (a3 : Int32) (r : Int32) (f1 : Fn) : Prop := r = (RE_can f a1 a2 a3).1 ∧ eqM (RE_can f a1 a2 a3).2 f1
def Pre_X9_casesAt  (f : Fn) (a1 : Int32) (a2 : Int32) : Prop := dOK (f 1) ∧ vp_in a1 6
def Post_X9_casesAt  (f : Fn) (a1 : Int32) (a2 : Int32) (r : Int32) (f1 : Fn) : Prop := frG f f1 ∧ r = casI (VMt f (ix a1)) a2
def Pre_X9_surestOf  (f : Fn) (a1 : Int32) (a2 : Int32) : Prop := dOK (f 1) ∧ vp_in a1 6
def Post_X9_surestOf  (f : Fn) (a1 : Int32) (a2 : Int32) (r : Int32) (f1 : Fn) : Prop := frG f f1 ∧ r = surI (VMt f (ix a1)) (ix a2)
def Pre_X9_surest  (f : Fn) (a1 : Int32) (a2 : Int32) : Prop := InvM f
def Post_X9_surest  (f : Fn) (a1 : Int32) (a2 : Int32) (r : Int32) (f1 : Fn) : Prop := r = (RE_surest f a1 a2).1 ∧ eqM (RE_surest f a1 a2).2 f1
def Pre_X9_common  (f : Fn) (a1 : Int64) (a2 : Int64) : Prop := ∃ x y : Nat, (a1 = lN x ∨ a1 = -(lN x)) ∧ a2 = lN y ∧ x < 2147483648 ∧ y < 2147483648
def Post_X9_common  (f : Fn) (a1 : Int64) (a2 : Int64) (r : Int64) (f1 : Fn) : Prop := ∀ x y : Nat, (a1 = lN x ∨ a1 = -(lN x)) → a2 = lN y → x < 2147483648 → y < 2147483648 → r = lN (Nat.gcd x y) ∧ f1 = f
def Pre_X9_odds  (f : Fn) (a1 : Int32) (a2 : Int32) (a3 : Int32) : Prop := InvM f
def Post_X9_odds  (f : Fn) (a1 : Int32) (a2 : Int32) (a3 : Int32) (r : Int32) (f1 : Fn) : Prop := r = (RE_odds f a1 a2 a3).1 ∧ eqM (RE_odds f a1 a2 a3).2 f1
def Pre_X9_hasNext  (f : Fn) (a1 : Int32) (a2 : Int32) : Prop := dOK (f 1) ∧ vp_in a1 6 ∧ ¬ 60 < a2 ∧ ¬ a2 < 0
def Post_X9_hasNext  (f : Fn) (a1 : Int32) (a2 : Int32) (r : Int32) (f1 : Fn) : Prop := frG f f1 ∧ r = bI (hasN (VMt f (ix a1)) (ix a2))
def Pre_X9_pumped  (f : Fn) (a1 : Int32) (a2 : Int32) : Prop := InvM f
def Post_X9_pumped  (f : Fn) (a1 : Int32) (a2 : Int32) (r : Int32) (f1 : Fn) : Prop := r = (RE_pumped f a1 a2).1 ∧ eqM (RE_pumped f a1 a2).2 f1
def Pre_X9_inStep  (f : Fn) (a1 : Int32) (a2 : Int32) : Prop := InvM f
def Post_X9_inStep  (f : Fn) (a1 : Int32) (a2 : Int32) (r : Int32) (f1 : Fn) : Prop := r = (RE_inStep f a1 a2).1 ∧ eqM (RE_inStep f a1 a2).2 f1
def Pre_X9_mend  (f : Fn) (a1 : Int32) (a2 : Int32) (a3 : Int32) (a4 : Int32) : Prop := InvM f
def Post_X9_mend  (f : Fn) (a1 : Int32) (a2 : Int32) (a3 : Int32) (a4 : Int32) (r : Int32) (f1 : Fn) : Prop := r = (RE_mend f a1 a2 a3 a4).1 ∧ eqM (RE_mend f a1 a2 a3 a4).2 f1
def Pre_X9_again  (f : Fn) (a1 : Int32) (a2 : Int32) (a3 : Int32) (a4 : Int32) (a5 : Int32) : Prop := InvM f
def Post_X9_again  (f : Fn) (a1 : Int32) (a2 : Int32) (a3 : Int32) (a4 : Int32) (a5 : Int32) (r : Int64) (f1 : Fn) : Prop := r = (RE_again f a1 a2 a3 a4 a5).1 ∧ eqM (RE_again f a1 a2 a3 a4 a5).2 f1
def Pre_X9_findFalls  (f : Fn) (a1 : Int32) (a2 : Int32) : Prop := dOK (f 1) ∧ vp_in a1 6 ∧ ¬ 60 < a2
def Post_X9_findFalls  (f : Fn) (a1 : Int32) (a2 : Int32) (f1 : Fn) : Prop := (∀ a, ¬ a = 0 → ¬ a = 4 → ¬ a = 5 → f1 a = f a) ∧ (∀ j, (j < 4 ∨ j = 9 ∨ j = 10 ∨ j = 15 ∨ j = 16 ∨ j = 116 ∨ 17 < j) → f1 0 j = f 0 j) ∧ f1 0 17 = nI (falL (VMt f (ix a1)) (ix a2)).length ∧ ∀ j, j < (falL (VMt f (ix a1)) (ix a2)).length → f1 5 j = (falL (VMt f (ix a1)) (ix a2)).getD j 0
def Pre_X9_harmBy  (f : Fn) (a1 : Int32) (a2 : Int32) : Prop := vp_in a1 6 ∧ ¬ f 0 17 < 0 ∧ ¬ 60 < f 0 17
def Val_X9_harmBy  (f : Fn) (a1 : Int32) (a2 : Int32) : Int64 := (rowL (f 5) (ix (f 0 17))).foldl (fun s x => s + (hmM (f 1) (ix a1) (absI (x - a2))).toInt64) 0
def Pre_X9_net  (f : Fn) (a1 : Int32) (a2 : Int32) (a3 : Int32) : Prop := InvM f
def Post_X9_net  (f : Fn) (a1 : Int32) (a2 : Int32) (a3 : Int32) (r : Int32) (f1 : Fn) : Prop := r = (RE_net f a1 a2 a3).1 ∧ eqM (RE_net f a1 a2 a3).2 f1
def wp_X9_finds  (f : Fn) (a1 : Int32) (post : Option Value → Fn → Prop) : Prop :=
  (vp_in a1 6 ∧ (vp_in a1 6 ∧ (post (some (.int ((-1000000000 : Int32) - a1))) (up2 f 3 a1.toNatClampNeg ((f 3 a1.toNatClampNeg) + (1 : Int32))))))
def wp_X9_in  (f : Fn) (a1 : Int64) (a2 : Int64) (a3 : Int64) (post : Option Value → Fn → Prop) : Prop :=
  (((lg_cmp a1 a2) < 0 → (post (some (.int (0 : Int32))) f)) ∧ (¬ (lg_cmp a1 a2) < 0 → ((0 < (lg_cmp a1 a3) → (post (some (.int (0 : Int32))) f)) ∧ (¬ 0 < (lg_cmp a1 a3) → (post (some (.int (1 : Int32))) f)))))
def wp_X9_held  (f : Fn) (a1 : Int32) (a2 : Int32) (a3 : Int32) (post : Option Value → Fn → Prop) : Prop :=
  ((a2 ≤ a1 → ((a1 ≤ a3 → (post (some (.int a1)) f)) ∧ (¬ a1 ≤ a3 → (post (some (.int a3)) f)))) ∧ (¬ a2 ≤ a1 → (post (some (.int a2)) f)))
def wp_X9_isFlyer  (f : Fn) (a1 : Int32) (post : Option Value → Fn → Prop) : Prop :=
  (((Val_X9_in f a1.toInt64 (0 : Int64) ((f 1 0) - (1 : Int32)).toInt64) = 0 ∨ (Val_X9_in f a1.toInt64 (0 : Int64) ((f 1 0) - (1 : Int32)).toInt64) = 1) ∧ (post (some (.int (Val_X9_in f a1.toInt64 (0 : Int64) ((f 1 0) - (1 : Int32)).toInt64))) f))
def wp_X9_of  (f : Fn) (a1 : Int32) (a2 : Int32) (post : Option Value → Fn → Prop) : Prop :=
  (vp_in (((18 : Int32) + ((4 : Int32) * a1)) + a2) 264 ∧ (post (some (.int (f 1 (((18 : Int32) + ((4 : Int32) * a1)) + a2).toNatClampNeg))) f))
def wp_X9_sets  (f : Fn) (a1 : Int32) (a2 : Int32) (a3 : Int32) (post : Option Value → Fn → Prop) : Prop :=
  (vp_in (((18 : Int32) + ((4 : Int32) * a1)) + a2) 264 ∧ (post none (up2 f 1 (((18 : Int32) + ((4 : Int32) * a1)) + a2).toNatClampNeg a3)))
def wp_X9_here  (f : Fn)  (post : Option Value → Fn → Prop) : Prop :=
  (((f 0 6) ≤ (f 0 5) → (post (some (.int (-1 : Int32))) f)) ∧ (¬ (f 0 6) ≤ (f 0 5) → ((0 ≤ (f 0 7) → (post (some (.int (-1 : Int32))) f)) ∧ (¬ 0 ≤ (f 0 7) → (vp_in ((f 0 4) + (f 0 5)) 264 ∧ (post (some (.int (f 1 ((f 0 4) + (f 0 5)).toNatClampNeg))) f))))))
def wp_X9_wrong_L19   (f : Fn) (s0 : Int32) (post : Option Value → Fn → Prop) : Prop :=
  (post (some (.int (0 : Int32))) (up2 f 0 7 s0))
def wp_X9_wrong  (f : Fn)  (post : Option Value → Fn → Prop) : Prop :=
  ((0 ≤ (f 0 7) → (wp_X9_wrong_L19   f (f 0 7) post)) ∧ (¬ 0 ≤ (f 0 7) → (wp_X9_wrong_L19   f (f 0 5) post)))
def wp_X9_takes  (f : Fn) (a1 : Int32) (post : Option Value → Fn → Prop) : Prop :=
  (Pre_X9_here f ∧ (((Val_X9_here f) = a1 → (post (some (.int (1 : Int32))) (up2 f 0 5 ((f 0 5) + (1 : Int32))))) ∧ (¬ (Val_X9_here f) = a1 → (post (some (.int (0 : Int32))) f))))
def wp_X9_nameOf  (f : Fn) (a1 : Int32) (post : Option Value → Fn → Prop) : Prop :=
  ((¬ a1 = (107 : Int32) → ((¬ a1 = (118 : Int32) → ((¬ a1 = (109 : Int32) → (post (some (.int (-1 : Int32))) f)) ∧ (a1 = (109 : Int32) → (post (some (.int (2 : Int32))) f)))) ∧ (a1 = (118 : Int32) → (post (some (.int (1 : Int32))) f)))) ∧ (a1 = (107 : Int32) → (post (some (.int (0 : Int32))) f)))
def wp_X9_either_L32 (m0 : Nat)  (K5 : Fn → Int32 → Prop) (f : Fn) (s0 : Int32) (post : Option Value → Fn → Prop) : Prop :=
  (K5 f s0)
def wp_X9_either_L27 (m0 : Nat)  (K5 : Fn → Int32 → Prop) (f : Fn)  (post : Option Value → Fn → Prop) : Prop :=
  (wp_X9_either_L32 m0  K5 f (1 : Int32) post)
def wpb_X9_either_L5 (m0 : Nat)   (K5 : Fn → Int32 → Prop) (f : Fn) (x1 : Int32) (post : Option Value → Fn → Prop) : Prop :=
  (Pre_X9_takes f (124 : Int32) ∧ (∀ (r7 : Int32) (f8 : Fn), Post_X9_takes f (124 : Int32) r7 f8 → ((r7 = 0 → (post (some (.int x1)) f8)) ∧ (¬ r7 = 0 → (Pre_X9_both f8 ∧ (mu_X9_both f8 < m0 ∧ (∀ (r13 : Int32) (f14 : Fn), Post_X9_both f8 r13 f14 → ((¬ x1 = 0 → (wp_X9_either_L27 m0  K5 f14  post)) ∧ (x1 = 0 → ((r13 = 0 → (wp_X9_either_L32 m0  K5 f14 (0 : Int32) post)) ∧ (¬ r13 = 0 → (wp_X9_either_L27 m0  K5 f14  post))))))))))))
def wp_X9_either_L5 (m0 : Nat)   (f : Fn) (x1 : Int32) (post : Option Value → Fn → Prop) : Prop :=
  ∃ (I : Fn → Int32 → Prop) (μ : Fn → Int32 → Nat), I f x1 ∧ ∀ (f : Fn) (x1 : Int32), I f x1 → wpb_X9_either_L5 m0   (fun (f9 : Fn) (x19 : Int32) => I f9 x19 ∧ μ f9 x19 < μ f x1) f x1 post
def wp_X9_either (m0 : Nat)  (f : Fn)  (post : Option Value → Fn → Prop) : Prop :=
  (Pre_X9_both f ∧ (mu_X9_both f < m0 ∧ (∀ (r3 : Int32) (f4 : Fn), Post_X9_both f r3 f4 → (wp_X9_either_L5 m0   f4 r3 post))))
def wp_X9_both_L32 (m0 : Nat)  (K5 : Fn → Int32 → Prop) (f : Fn) (s0 : Int32) (post : Option Value → Fn → Prop) : Prop :=
  (K5 f s0)
def wp_X9_both_L31 (m0 : Nat)  (K5 : Fn → Int32 → Prop) (f : Fn)  (post : Option Value → Fn → Prop) : Prop :=
  (wp_X9_both_L32 m0  K5 f (0 : Int32) post)
def wpb_X9_both_L5 (m0 : Nat)   (K5 : Fn → Int32 → Prop) (f : Fn) (x1 : Int32) (post : Option Value → Fn → Prop) : Prop :=
  (Pre_X9_takes f (38 : Int32) ∧ (∀ (r7 : Int32) (f8 : Fn), Post_X9_takes f (38 : Int32) r7 f8 → ((r7 = 0 → (post (some (.int x1)) f8)) ∧ (¬ r7 = 0 → (Pre_X9_compared f8 ∧ (mu_X9_compared f8 < m0 ∧ (∀ (r13 : Int32) (f14 : Fn), Post_X9_compared f8 r13 f14 → ((x1 = 0 → (wp_X9_both_L31 m0  K5 f14  post)) ∧ (¬ x1 = 0 → ((r13 = 0 → (wp_X9_both_L31 m0  K5 f14  post)) ∧ (¬ r13 = 0 → (wp_X9_both_L32 m0  K5 f14 (1 : Int32) post))))))))))))
def wp_X9_both_L5 (m0 : Nat)   (f : Fn) (x1 : Int32) (post : Option Value → Fn → Prop) : Prop :=
  ∃ (I : Fn → Int32 → Prop) (μ : Fn → Int32 → Nat), I f x1 ∧ ∀ (f : Fn) (x1 : Int32), I f x1 → wpb_X9_both_L5 m0   (fun (f9 : Fn) (x19 : Int32) => I f9 x19 ∧ μ f9 x19 < μ f x1) f x1 post
def wp_X9_both (m0 : Nat)  (f : Fn)  (post : Option Value → Fn → Prop) : Prop :=
  (Pre_X9_compared f ∧ (mu_X9_compared f < m0 ∧ (∀ (r3 : Int32) (f4 : Fn), Post_X9_compared f r3 f4 → (wp_X9_both_L5 m0   f4 r3 post))))
def wp_X9_compared_L30 (m0 : Nat)   (f : Fn) (x1 : Int32) (x2 : Int32) (post : Option Value → Fn → Prop) : Prop :=
  (Pre_X9_sum (up2 f 0 5 ((f 0 5) + (1 : Int32))) ∧ (mu_X9_sum (up2 f 0 5 ((f 0 5) + (1 : Int32))) < m0 ∧ (∀ (r10 : Int32) (f11 : Fn), Post_X9_sum (up2 f 0 5 ((f 0 5) + (1 : Int32))) r10 f11 → ((¬ x2 = (60 : Int32) → ((¬ x2 = (61 : Int32) → ((x1 ≤ r10 → (post (some (.int (0 : Int32))) f11)) ∧ (¬ x1 ≤ r10 → (post (some (.int (1 : Int32))) f11)))) ∧ (x2 = (61 : Int32) → ((¬ x1 = r10 → (post (some (.int (0 : Int32))) f11)) ∧ (x1 = r10 → (post (some (.int (1 : Int32))) f11)))))) ∧ (x2 = (60 : Int32) → ((r10 ≤ x1 → (post (some (.int (0 : Int32))) f11)) ∧ (¬ r10 ≤ x1 → (post (some (.int (1 : Int32))) f11))))))))
def wp_X9_compared (m0 : Nat)  (f : Fn)  (post : Option Value → Fn → Prop) : Prop :=
  (Pre_X9_sum f ∧ (mu_X9_sum f < m0 ∧ (∀ (r3 : Int32) (f4 : Fn), Post_X9_sum f r3 f4 → (Pre_X9_here f4 ∧ (((Val_X9_here f4) = (60 : Int32) → (wp_X9_compared_L30 m0   f4 r3 (Val_X9_here f4) post)) ∧ (¬ (Val_X9_here f4) = (60 : Int32) → (((Val_X9_here f4) = (61 : Int32) → (wp_X9_compared_L30 m0   f4 r3 (Val_X9_here f4) post)) ∧ (¬ (Val_X9_here f4) = (61 : Int32) → (((Val_X9_here f4) = (62 : Int32) → (wp_X9_compared_L30 m0   f4 r3 (Val_X9_here f4) post)) ∧ (¬ (Val_X9_here f4) = (62 : Int32) → (post (some (.int r3)) f4)))))))))))
def wp_X9_sum_L58 (m0 : Nat)  (K5 : Fn → Int32 → Prop) (f : Fn) (s0 : Int32) (post : Option Value → Fn → Prop) : Prop :=
  (K5 f s0)
def wp_X9_sum_L23 (m0 : Nat)  (K5 : Fn → Int32 → Prop) (f : Fn) (x1 : Int32) (post : Option Value → Fn → Prop) : Prop :=
  (Pre_X9_here f ∧ (Pre_X9_product (up2 f 0 5 ((f 0 5) + (1 : Int32))) ∧ (mu_X9_product (up2 f 0 5 ((f 0 5) + (1 : Int32))) < m0 ∧ (∀ (r11 : Int32) (f12 : Fn), Post_X9_product (up2 f 0 5 ((f 0 5) + (1 : Int32))) r11 f12 → ((¬ (Val_X9_here f) = (43 : Int32) → (wp_X9_sum_L58 m0  K5 f12 (x1 - r11) post)) ∧ ((Val_X9_here f) = (43 : Int32) → (wp_X9_sum_L58 m0  K5 f12 (x1 + r11) post)))))))
def wpb_X9_sum_L5 (m0 : Nat)   (K5 : Fn → Int32 → Prop) (f : Fn) (x1 : Int32) (post : Option Value → Fn → Prop) : Prop :=
  (Pre_X9_here f ∧ (((Val_X9_here f) = (43 : Int32) → (wp_X9_sum_L23 m0  K5 f x1 post)) ∧ (¬ (Val_X9_here f) = (43 : Int32) → (Pre_X9_here f ∧ ((¬ (Val_X9_here f) = (45 : Int32) → (post (some (.int x1)) f)) ∧ ((Val_X9_here f) = (45 : Int32) → (wp_X9_sum_L23 m0  K5 f x1 post)))))))
def wp_X9_sum_L5 (m0 : Nat)   (f : Fn) (x1 : Int32) (post : Option Value → Fn → Prop) : Prop :=
  ∃ (I : Fn → Int32 → Prop) (μ : Fn → Int32 → Nat), I f x1 ∧ ∀ (f : Fn) (x1 : Int32), I f x1 → wpb_X9_sum_L5 m0   (fun (f9 : Fn) (x19 : Int32) => I f9 x19 ∧ μ f9 x19 < μ f x1) f x1 post
def wp_X9_sum (m0 : Nat)  (f : Fn)  (post : Option Value → Fn → Prop) : Prop :=
  (Pre_X9_product f ∧ (mu_X9_product f < m0 ∧ (∀ (r3 : Int32) (f4 : Fn), Post_X9_product f r3 f4 → (wp_X9_sum_L5 m0   f4 r3 post))))
def wp_X9_product_L87 (m0 : Nat)  (K5 : Fn → Int32 → Prop) (f : Fn) (s0 : Int32) (post : Option Value → Fn → Prop) : Prop :=
  (K5 f s0)
def wp_X9_product_L32 (m0 : Nat)  (K5 : Fn → Int32 → Prop) (f : Fn) (x1 : Int32) (post : Option Value → Fn → Prop) : Prop :=
  (Pre_X9_here f ∧ (Pre_X9_unit (up2 f 0 5 ((f 0 5) + (1 : Int32))) ∧ (mu_X9_unit (up2 f 0 5 ((f 0 5) + (1 : Int32))) < m0 ∧ (∀ (r11 : Int32) (f12 : Fn), Post_X9_unit (up2 f 0 5 ((f 0 5) + (1 : Int32))) r11 f12 → ((¬ (Val_X9_here f) = (42 : Int32) → ((¬ r11 = 0 → ((¬ (Val_X9_here f) = (47 : Int32) → (¬ r11 = 0 ∧ (wp_X9_product_L87 m0  K5 f12 (x1 - (x1 / r11) * r11) post))) ∧ ((Val_X9_here f) = (47 : Int32) → (¬ r11 = 0 ∧ (wp_X9_product_L87 m0  K5 f12 (x1 / r11) post))))) ∧ (r11 = 0 → (wp_X9_product_L87 m0  K5 f12 (0 : Int32) post)))) ∧ ((Val_X9_here f) = (42 : Int32) → (wp_X9_product_L87 m0  K5 f12 (x1 * r11) post)))))))
def wpb_X9_product_L5 (m0 : Nat)   (K5 : Fn → Int32 → Prop) (f : Fn) (x1 : Int32) (post : Option Value → Fn → Prop) : Prop :=
  (Pre_X9_here f ∧ (((Val_X9_here f) = (42 : Int32) → (wp_X9_product_L32 m0  K5 f x1 post)) ∧ (¬ (Val_X9_here f) = (42 : Int32) → (Pre_X9_here f ∧ (((Val_X9_here f) = (47 : Int32) → (wp_X9_product_L32 m0  K5 f x1 post)) ∧ (¬ (Val_X9_here f) = (47 : Int32) → (Pre_X9_here f ∧ ((¬ (Val_X9_here f) = (37 : Int32) → (post (some (.int x1)) f)) ∧ ((Val_X9_here f) = (37 : Int32) → (wp_X9_product_L32 m0  K5 f x1 post))))))))))
def wp_X9_product_L5 (m0 : Nat)   (f : Fn) (x1 : Int32) (post : Option Value → Fn → Prop) : Prop :=
  ∃ (I : Fn → Int32 → Prop) (μ : Fn → Int32 → Nat), I f x1 ∧ ∀ (f : Fn) (x1 : Int32), I f x1 → wpb_X9_product_L5 m0   (fun (f9 : Fn) (x19 : Int32) => I f9 x19 ∧ μ f9 x19 < μ f x1) f x1 post
def wp_X9_product (m0 : Nat)  (f : Fn)  (post : Option Value → Fn → Prop) : Prop :=
  (Pre_X9_unit f ∧ (mu_X9_unit f < m0 ∧ (∀ (r3 : Int32) (f4 : Fn), Post_X9_unit f r3 f4 → (wp_X9_product_L5 m0   f4 r3 post))))
def wp_X9_unit_L88 (m0 : Nat)   (f : Fn) (x1 : Int32) (x2 : Int32) (post : Option Value → Fn → Prop) : Prop :=
  ((¬ x1 = (40 : Int32) → ((¬ x2 = 0 → (post (some (.int (0 : Int32))) (up2 f 0 8 ((f 0 8) - (1 : Int32))))) ∧ (x2 = 0 → (post (some (.int (1 : Int32))) (up2 f 0 8 ((f 0 8) - (1 : Int32))))))) ∧ (x1 = (40 : Int32) → (post (some (.int x2)) (up2 f 0 8 ((f 0 8) - (1 : Int32))))))
def wp_X9_unit_L67 (m0 : Nat)   (f : Fn) (x1 : Int32) (s0 : Int32) (post : Option Value → Fn → Prop) : Prop :=
  ((¬ x1 = (40 : Int32) → (wp_X9_unit_L88 m0   f x1 s0 post)) ∧ (x1 = (40 : Int32) → (Pre_X9_takes f (41 : Int32) ∧ (∀ (r14 : Int32) (f15 : Fn), Post_X9_takes f (41 : Int32) r14 f15 → ((¬ r14 = 0 → (wp_X9_unit_L88 m0   f15 x1 s0 post)) ∧ (r14 = 0 → (∀ (r18 : Int32) (f19 : Fn), Post_X9_wrong f15 r18 f19 → (post (some (.int r18)) f19))))))))
def wp_X9_unit_L17 (m0 : Nat)   (f : Fn) (x1 : Int32) (post : Option Value → Fn → Prop) : Prop :=
  ((¬ (f 0 8) = (5 : Int32) → ((¬ x1 = (40 : Int32) → (Pre_X9_unit (up2 (up2 f 0 8 ((f 0 8) + (1 : Int32))) 0 5 ((f 0 5) + (1 : Int32))) ∧ (mu_X9_unit (up2 (up2 f 0 8 ((f 0 8) + (1 : Int32))) 0 5 ((f 0 5) + (1 : Int32))) < m0 ∧ (∀ (r7 : Int32) (f8 : Fn), Post_X9_unit (up2 (up2 f 0 8 ((f 0 8) + (1 : Int32))) 0 5 ((f 0 5) + (1 : Int32))) r7 f8 → (wp_X9_unit_L67 m0   f8 x1 r7 post))))) ∧ (x1 = (40 : Int32) → (Pre_X9_either (up2 (up2 f 0 8 ((f 0 8) + (1 : Int32))) 0 5 ((f 0 5) + (1 : Int32))) ∧ (mu_X9_either (up2 (up2 f 0 8 ((f 0 8) + (1 : Int32))) 0 5 ((f 0 5) + (1 : Int32))) < m0 ∧ (∀ (r23 : Int32) (f24 : Fn), Post_X9_either (up2 (up2 f 0 8 ((f 0 8) + (1 : Int32))) 0 5 ((f 0 5) + (1 : Int32))) r23 f24 → (wp_X9_unit_L67 m0   f24 x1 r23 post))))))) ∧ ((f 0 8) = (5 : Int32) → (∀ (r26 : Int32) (f27 : Fn), Post_X9_wrong f r26 f27 → (post (some (.int r26)) f27))))
def wp_X9_unit_L201 (m0 : Nat)   (f : Fn) (x3 : Int32) (x4 : Int32) (post : Option Value → Fn → Prop) : Prop :=
  ((¬ x4 = 0 → (post (some (.int x3)) f)) ∧ (x4 = 0 → (∀ (r33 : Int32) (f34 : Fn), Post_X9_wrong f r33 f34 → (post (some (.int r33)) f34))))
def wpb_X9_unit_L149 (m0 : Nat)   (K149 : Fn → Int32 → Int32 → Prop) (f : Fn) (x3 : Int32) (x4 : Int32) (post : Option Value → Fn → Prop) : Prop :=
  (((4 : Int32) ≤ x4 → (wp_X9_unit_L201 m0   f x3 x4 post)) ∧ (¬ (4 : Int32) ≤ x4 → (Pre_X9_here f ∧ (((Val_X9_in f (Val_X9_here f).toInt64 (48 : Int64) (57 : Int64)) = 0 → (wp_X9_unit_L201 m0   f x3 x4 post)) ∧ (¬ (Val_X9_in f (Val_X9_here f).toInt64 (48 : Int64) (57 : Int64)) = 0 → (Pre_X9_here f ∧ (K149 (up2 f 0 5 ((f 0 5) + (1 : Int32))) ((((10 : Int32) * x3) + (Val_X9_here f)) - (48 : Int32)) (x4 + (1 : Int32)))))))))
def wp_X9_unit_L149 (m0 : Nat)   (f : Fn) (x3 : Int32) (x4 : Int32) (post : Option Value → Fn → Prop) : Prop :=
  ∃ (I : Fn → Int32 → Int32 → Prop) (μ : Fn → Int32 → Int32 → Nat), I f x3 x4 ∧ ∀ (f : Fn) (x3 : Int32) (x4 : Int32), I f x3 x4 → wpb_X9_unit_L149 m0   (fun (f9 : Fn) (x39 : Int32) (x49 : Int32) => I f9 x39 x49 ∧ μ f9 x39 x49 < μ f x3 x4) f x3 x4 post
def wp_X9_unit (m0 : Nat)  (f : Fn)  (post : Option Value → Fn → Prop) : Prop :=
  (Pre_X9_here f ∧ (((Val_X9_here f) = (33 : Int32) → (wp_X9_unit_L17 m0   f (Val_X9_here f) post)) ∧ (¬ (Val_X9_here f) = (33 : Int32) → ((¬ (Val_X9_here f) = (40 : Int32) → (((Val_X9_nameOf f (Val_X9_here f)) < 0 → (wp_X9_unit_L149 m0   f (0 : Int32) (0 : Int32) post)) ∧ (¬ (Val_X9_nameOf f (Val_X9_here f)) < 0 → (vp_in (Val_X9_nameOf f (Val_X9_here f)) 3 ∧ (post (some (.int (f 4 (Val_X9_nameOf f (Val_X9_here f)).toNatClampNeg))) (up2 f 0 5 ((f 0 5) + (1 : Int32)))))))) ∧ ((Val_X9_here f) = (40 : Int32) → (wp_X9_unit_L17 m0   f (Val_X9_here f) post))))))
def wp_X9_worked  (f : Fn) (a1 : Int32) (a2 : Int32) (a3 : Int32) (post : Option Value → Fn → Prop) : Prop :=
  (Pre_X9_either (up2 (up2 (up2 (up2 (up2 f 0 4 a1) 0 5 (0 : Int32)) 0 6 a2) 0 7 (-1 : Int32)) 0 8 (0 : Int32)) ∧ (∀ (r2 : Int32) (f3 : Fn), Post_X9_either (up2 (up2 (up2 (up2 (up2 f 0 4 a1) 0 5 (0 : Int32)) 0 6 a2) 0 7 (-1 : Int32)) 0 8 (0 : Int32)) r2 f3 → ((0 ≤ (f3 0 7) → (post (some (.int r2)) f3)) ∧ (¬ 0 ≤ (f3 0 7) → (((f3 0 6) ≤ (f3 0 5) → (post (some (.int r2)) f3)) ∧ (¬ (f3 0 6) ≤ (f3 0 5) → (∀ (r7 : Int32) (f8 : Fn), Post_X9_wrong f3 r7 f8 → (post (some (.int r7)) f8))))))))
def wpb_X9_feed_L41   (K41 : Fn → Int64 → Int32 → Int32 → Prop) (f : Fn) (x1 : Int64) (x3 : Int32) (x4 : Int32) (post : Option Value → Fn → Prop) : Prop :=
  ((x3 ≤ x4 → (post (some (.int (f 1 9))) f)) ∧ (¬ x3 ≤ x4 → (vp_in ((212 : Int32) + (f 1 9)) 264 ∧ (K41 (up2 (up2 f 1 ((212 : Int32) + (f 1 9)).toNatClampNeg ((x1 >>> (((8 : Int32) * x4).toInt64 &&& 63)) &&& (255 : Int64)).toInt32) 1 9 (((up2 f 1 ((212 : Int32) + (f 1 9)).toNatClampNeg ((x1 >>> (((8 : Int32) * x4).toInt64 &&& 63)) &&& (255 : Int64)).toInt32) 1 9) + (1 : Int32))) x1 x3 (x4 + (1 : Int32))))))
def wp_X9_feed_L41   (f : Fn) (x1 : Int64) (x3 : Int32) (x4 : Int32) (post : Option Value → Fn → Prop) : Prop :=
  ∃ (I : Fn → Int64 → Int32 → Int32 → Prop) (μ : Fn → Int64 → Int32 → Int32 → Nat), I f x1 x3 x4 ∧ ∀ (f : Fn) (x1 : Int64) (x3 : Int32) (x4 : Int32), I f x1 x3 x4 → wpb_X9_feed_L41   (fun (f9 : Fn) (x19 : Int64) (x39 : Int32) (x49 : Int32) => I f9 x19 x39 x49 ∧ μ f9 x19 x39 x49 < μ f x1 x3 x4) f x1 x3 x4 post
def wp_X9_feed  (f : Fn) (a1 : Int64) (a2 : Int32) (post : Option Value → Fn → Prop) : Prop :=
  ((¬ (Val_X9_in f a2.toInt64 (1 : Int64) (8 : Int64)) = 0 → ((((f 1 9) + a2) ≤ (50 : Int32) → (wp_X9_feed_L41   f a1 a2 (0 : Int32) post)) ∧ (¬ ((f 1 9) + a2) ≤ (50 : Int32) → (Pre_X9_finds f (4 : Int32) ∧ (∀ (r6 : Int32) (f7 : Fn), Post_X9_finds f (4 : Int32) r6 f7 → (post (some (.int r6)) f7)))))) ∧ ((Val_X9_in f a2.toInt64 (1 : Int64) (8 : Int64)) = 0 → (Pre_X9_finds f (1 : Int32) ∧ (∀ (r10 : Int32) (f11 : Fn), Post_X9_finds f (1 : Int32) r10 f11 → (post (some (.int r10)) f11)))))
def wpb_X9_text_L70   (K70 : Fn → Int32 → Int32 → Int32 → Prop) (f : Fn) (x1 : Int32) (x2 : Int32) (x4 : Int32) (post : Option Value → Fn → Prop) : Prop :=
  ((x2 ≤ x4 → (post (some (.int (1 : Int32))) f)) ∧ (¬ x2 ≤ x4 → (vp_in ((212 : Int32) + x4) 264 ∧ (vp_in (((112 : Int32) + ((50 : Int32) * x1)) + x4) 264 ∧ (K70 (up2 f 1 (((112 : Int32) + ((50 : Int32) * x1)) + x4).toNatClampNeg (f 1 ((212 : Int32) + x4).toNatClampNeg)) x1 x2 (x4 + (1 : Int32)))))))
def wp_X9_text_L70   (f : Fn) (x1 : Int32) (x2 : Int32) (x4 : Int32) (post : Option Value → Fn → Prop) : Prop :=
  ∃ (I : Fn → Int32 → Int32 → Int32 → Prop) (μ : Fn → Int32 → Int32 → Int32 → Nat), I f x1 x2 x4 ∧ ∀ (f : Fn) (x1 : Int32) (x2 : Int32) (x4 : Int32), I f x1 x2 x4 → wpb_X9_text_L70   (fun (f9 : Fn) (x19 : Int32) (x29 : Int32) (x49 : Int32) => I f9 x19 x29 x49 ∧ μ f9 x19 x29 x49 < μ f x1 x2 x4) f x1 x2 x4 post
def wp_X9_text  (f : Fn) (a1 : Int32) (post : Option Value → Fn → Prop) : Prop :=
  ((¬ (Val_X9_in f a1.toInt64 (0 : Int64) (1 : Int64)) = 0 → (Pre_X9_worked (up2 f 1 9 (0 : Int32)) (212 : Int32) (f 1 9) a1 ∧ (∀ (r3 : Int32) (f4 : Fn), Post_X9_worked (up2 f 1 9 (0 : Int32)) (212 : Int32) (f 1 9) a1 r3 f4 → (((f4 0 7) < 0 → (vp_in ((90 : Int32) + a1) 264 ∧ (wp_X9_text_L70   (up2 f4 1 ((90 : Int32) + a1).toNatClampNeg (f 1 9)) a1 (f 1 9) (0 : Int32) post))) ∧ (¬ (f4 0 7) < 0 → (post (some (.int ((-10 : Int32) - (f4 0 7)))) f4)))))) ∧ ((Val_X9_in f a1.toInt64 (0 : Int64) (1 : Int64)) = 0 → (Pre_X9_finds f (1 : Int32) ∧ (∀ (r12 : Int32) (f13 : Fn), Post_X9_finds f (1 : Int32) r12 f13 → (post (some (.int r12)) f13)))))
def wp_X9_textGives_L81   (f : Fn) (x1 : Int32) (x5 : Int32) (post : Option Value → Fn → Prop) : Prop :=
  ((¬ x1 = 0 → (post (some (.int (Val_X9_held f x5 (-99 : Int32) (99 : Int32)))) f)) ∧ (x1 = 0 → (post (some (.int (Val_X9_held f x5 (1 : Int32) (30 : Int32)))) f)))
def wp_X9_textGives_L22   (f : Fn) (x1 : Int32) (x2 : Int32) (x3 : Int32) (x4 : Int32) (s0 : Int32) (post : Option Value → Fn → Prop) : Prop :=
  (vp_in ((90 : Int32) + x1) 264 ∧ (((f 1 ((90 : Int32) + x1).toNatClampNeg) ≤ 0 → (wp_X9_textGives_L81   f x1 s0 post)) ∧ (¬ (f 1 ((90 : Int32) + x1).toNatClampNeg) ≤ 0 → (vp_in ((90 : Int32) + x1) 264 ∧ (Pre_X9_worked (up2 (up2 (up2 f 4 0 x2) 4 1 x3) 4 2 x4) ((112 : Int32) + ((50 : Int32) * x1)) (f 1 ((90 : Int32) + x1).toNatClampNeg) x1 ∧ (∀ (r7 : Int32) (f8 : Fn), Post_X9_worked (up2 (up2 (up2 f 4 0 x2) 4 1 x3) 4 2 x4) ((112 : Int32) + ((50 : Int32) * x1)) (f 1 ((90 : Int32) + x1).toNatClampNeg) x1 r7 f8 → (wp_X9_textGives_L81   f8 x1 r7 post)))))))
def wp_X9_textGives  (f : Fn) (a1 : Int32) (a2 : Int32) (a3 : Int32) (a4 : Int32) (post : Option Value → Fn → Prop) : Prop :=
  ((¬ a1 = 0 → (wp_X9_textGives_L22   f a1 a2 a3 a4 (((a3 * (3 : Int32)) + (30 : Int32)) - (a2 * (2 : Int32))) post)) ∧ (a1 = 0 → (wp_X9_textGives_L22   f a1 a2 a3 a4 ((3 : Int32) + (a2 * (2 : Int32))) post)))
def wp_X9_law  (f : Fn) (a1 : Int32) (a2 : Int32) (a3 : Int32) (a4 : Int32) (post : Option Value → Fn → Prop) : Prop :=
  (((Val_X9_in f a1.toInt64 (0 : Int64) (1 : Int64)) = 0 → (Pre_X9_finds f (1 : Int32) ∧ (∀ (r3 : Int32) (f4 : Fn), Post_X9_finds f (1 : Int32) r3 f4 → (post (some (.int r3)) f4)))) ∧ (¬ (Val_X9_in f a1.toInt64 (0 : Int64) (1 : Int64)) = 0 → (Pre_X9_textGives f a1 a2 a3 a4 ∧ (∀ (r7 : Int32) (f8 : Fn), Post_X9_textGives f a1 a2 a3 a4 r7 f8 → (post (some (.int r7)) f8)))))
def wp_X9_isSwing  (f : Fn) (a1 : Int32) (post : Option Value → Fn → Prop) : Prop :=
  (((Val_X9_in f a1.toInt64 (0 : Int64) (1 : Int64)) = 0 ∨ (Val_X9_in f a1.toInt64 (0 : Int64) (1 : Int64)) = 1) ∧ (post (some (.int (Val_X9_in f a1.toInt64 (0 : Int64) (1 : Int64)))) f))
def wp_X9_barOf_L86   (f : Fn) (x3 : Int32) (x4 : Int32) (s0 : Int32) (s1 : Int32) (post : Option Value → Fn → Prop) : Prop :=
  (¬ x3 = 0 ∧ (post (some (.int (((s1 * s0) / x3) - x4))) f))
def wp_X9_barOf_L58   (f : Fn) (x3 : Int32) (x4 : Int32) (s0 : Int32) (s1 : Int32) (post : Option Value → Fn → Prop) : Prop :=
  ((0 ≤ (((2 : Int32) * (s1 + s0)) - x3) → (wp_X9_barOf_L86   f x3 x4 (((2 : Int32) * (s1 + s0)) - x3) ((2 : Int32) * x4) post)) ∧ (¬ 0 ≤ (((2 : Int32) * (s1 + s0)) - x3) → (wp_X9_barOf_L86   f x3 x4 (-(((2 : Int32) * (s1 + s0)) - x3)) ((2 : Int32) * x4) post)))
def wp_X9_barOf  (f : Fn) (a1 : Int32) (a2 : Int32) (post : Option Value → Fn → Prop) : Prop :=
  (vp_in ((12 : Int32) + ((3 : Int32) * a1)) 264 ∧ (vp_in (((12 : Int32) + ((3 : Int32) * a1)) + (1 : Int32)) 264 ∧ (vp_in (((12 : Int32) + ((3 : Int32) * a1)) + (2 : Int32)) 264 ∧ (¬ (f 1 ((12 : Int32) + ((3 : Int32) * a1)).toNatClampNeg) = 0 ∧ ((0 ≤ ((a2 + (f 1 (((12 : Int32) + ((3 : Int32) * a1)) + (2 : Int32)).toNatClampNeg)) - ((a2 + (f 1 (((12 : Int32) + ((3 : Int32) * a1)) + (2 : Int32)).toNatClampNeg)) / (f 1 ((12 : Int32) + ((3 : Int32) * a1)).toNatClampNeg)) * (f 1 ((12 : Int32) + ((3 : Int32) * a1)).toNatClampNeg)) → (wp_X9_barOf_L58   f (f 1 ((12 : Int32) + ((3 : Int32) * a1)).toNatClampNeg) (f 1 (((12 : Int32) + ((3 : Int32) * a1)) + (1 : Int32)).toNatClampNeg) (0 : Int32) ((a2 + (f 1 (((12 : Int32) + ((3 : Int32) * a1)) + (2 : Int32)).toNatClampNeg)) - ((a2 + (f 1 (((12 : Int32) + ((3 : Int32) * a1)) + (2 : Int32)).toNatClampNeg)) / (f 1 ((12 : Int32) + ((3 : Int32) * a1)).toNatClampNeg)) * (f 1 ((12 : Int32) + ((3 : Int32) * a1)).toNatClampNeg)) post)) ∧ (¬ 0 ≤ ((a2 + (f 1 (((12 : Int32) + ((3 : Int32) * a1)) + (2 : Int32)).toNatClampNeg)) - ((a2 + (f 1 (((12 : Int32) + ((3 : Int32) * a1)) + (2 : Int32)).toNatClampNeg)) / (f 1 ((12 : Int32) + ((3 : Int32) * a1)).toNatClampNeg)) * (f 1 ((12 : Int32) + ((3 : Int32) * a1)).toNatClampNeg)) → (wp_X9_barOf_L58   f (f 1 ((12 : Int32) + ((3 : Int32) * a1)).toNatClampNeg) (f 1 (((12 : Int32) + ((3 : Int32) * a1)) + (1 : Int32)).toNatClampNeg) (f 1 ((12 : Int32) + ((3 : Int32) * a1)).toNatClampNeg) ((a2 + (f 1 (((12 : Int32) + ((3 : Int32) * a1)) + (2 : Int32)).toNatClampNeg)) - ((a2 + (f 1 (((12 : Int32) + ((3 : Int32) * a1)) + (2 : Int32)).toNatClampNeg)) / (f 1 ((12 : Int32) + ((3 : Int32) * a1)).toNatClampNeg)) * (f 1 ((12 : Int32) + ((3 : Int32) * a1)).toNatClampNeg)) post)))))))
def wp_X9_catcherAt  (f : Fn) (a1 : Int32) (post : Option Value → Fn → Prop) : Prop :=
  (Pre_X9_barOf f (1 : Int32) a1 ∧ (post (some (.int ((f 1 5) - (Val_X9_barOf f (1 : Int32) a1)))) f))
def wp_X9_swing_L19   (f : Fn)  (post : Option Value → Fn → Prop) : Prop :=
  (Pre_X9_finds f (1 : Int32) ∧ (∀ (r3 : Int32) (f4 : Fn), Post_X9_finds f (1 : Int32) r3 f4 → (post (some (.int r3)) f4)))
def wp_X9_swing_L84   (f : Fn) (x2 : Int32) (x3 : Int32) (x4 : Int32) (s0 : Int32) (post : Option Value → Fn → Prop) : Prop :=
  ((¬ s0 = 0 → (vp_in (x4 + x2) 264 ∧ (vp_in (x4 + x2) 264 ∧ (vp_in (x4 + (2 : Int32)) 264 ∧ (vp_in x4 264 ∧ (¬ ((up2 f 1 (x4 + x2).toNatClampNeg x3) 1 x4.toNatClampNeg) = 0 ∧ (vp_in (x4 + (2 : Int32)) 264 ∧ (post (some (.int (f 1 (x4 + x2).toNatClampNeg))) (up2 (up2 f 1 (x4 + x2).toNatClampNeg x3) 1 (x4 + (2 : Int32)).toNatClampNeg (((up2 f 1 (x4 + x2).toNatClampNeg x3) 1 (x4 + (2 : Int32)).toNatClampNeg) - (((up2 f 1 (x4 + x2).toNatClampNeg x3) 1 (x4 + (2 : Int32)).toNatClampNeg) / ((up2 f 1 (x4 + x2).toNatClampNeg x3) 1 x4.toNatClampNeg)) * ((up2 f 1 (x4 + x2).toNatClampNeg x3) 1 x4.toNatClampNeg))))))))))) ∧ (s0 = 0 → (Pre_X9_finds f (1 : Int32) ∧ (∀ (r18 : Int32) (f19 : Fn), Post_X9_finds f (1 : Int32) r18 f19 → (post (some (.int r18)) f19)))))
def wp_X9_swing  (f : Fn) (a1 : Int32) (a2 : Int32) (a3 : Int32) (post : Option Value → Fn → Prop) : Prop :=
  (((Val_X9_isSwing f a1) = 0 → (wp_X9_swing_L19   f  post)) ∧ (¬ (Val_X9_isSwing f a1) = 0 → ((¬ (Val_X9_in f a2.toInt64 (0 : Int64) (2 : Int64)) = 0 → ((¬ a2 = 0 → ((¬ a2 = (1 : Int32) → (vp_in ((12 : Int32) + ((3 : Int32) * a1)) 264 ∧ (wp_X9_swing_L84   f a2 a3 ((12 : Int32) + ((3 : Int32) * a1)) (Val_X9_in f a3.toInt64 (0 : Int64) ((f 1 ((12 : Int32) + ((3 : Int32) * a1)).toNatClampNeg) - (1 : Int32)).toInt64) post))) ∧ (a2 = (1 : Int32) → (wp_X9_swing_L84   f a2 a3 ((12 : Int32) + ((3 : Int32) * a1)) (Val_X9_in f a3.toInt64 (1 : Int64) (60 : Int64)) post)))) ∧ (a2 = 0 → (wp_X9_swing_L84   f a2 a3 ((12 : Int32) + ((3 : Int32) * a1)) (Val_X9_in f a3.toInt64 (4 : Int64) (40 : Int64)) post)))) ∧ ((Val_X9_in f a2.toInt64 (0 : Int64) (2 : Int64)) = 0 → (wp_X9_swing_L19   f  post)))))
def wp_X9_bar_L28   (f : Fn)  (post : Option Value → Fn → Prop) : Prop :=
  (Pre_X9_finds f (1 : Int32) ∧ (∀ (r3 : Int32) (f4 : Fn), Post_X9_finds f (1 : Int32) r3 f4 → (post (some (.int r3)) f4)))
def wp_X9_bar  (f : Fn) (a1 : Int32) (a2 : Int32) (post : Option Value → Fn → Prop) : Prop :=
  (((Val_X9_isSwing f a1) = 0 → (wp_X9_bar_L28   f  post)) ∧ (¬ (Val_X9_isSwing f a1) = 0 → (((Val_X9_in f a2.toInt64 (0 : Int64) (19999 : Int64)) = 0 → (wp_X9_bar_L28   f  post)) ∧ (¬ (Val_X9_in f a2.toInt64 (0 : Int64) (19999 : Int64)) = 0 → (Pre_X9_barOf f a1 a2 ∧ (post (some (.int (Val_X9_barOf f a1 a2))) f))))))
def wp_X9_set_L57   (f : Fn) (x1 : Int32) (x2 : Int32) (s0 : Int32) (post : Option Value → Fn → Prop) : Prop :=
  ((¬ s0 = 0 → (vp_in ((5 : Int32) + x1) 264 ∧ (vp_in ((5 : Int32) + x1) 264 ∧ (post (some (.int (f 1 ((5 : Int32) + x1).toNatClampNeg))) (up2 f 1 ((5 : Int32) + x1).toNatClampNeg x2))))) ∧ (s0 = 0 → (Pre_X9_finds f (1 : Int32) ∧ (∀ (r8 : Int32) (f9 : Fn), Post_X9_finds f (1 : Int32) r8 f9 → (post (some (.int r8)) f9)))))
def wp_X9_set_L56   (f : Fn) (x1 : Int32) (x2 : Int32) (post : Option Value → Fn → Prop) : Prop :=
  (wp_X9_set_L57   f x1 x2 (0 : Int32) post)
def wp_X9_set  (f : Fn) (a1 : Int32) (a2 : Int32) (post : Option Value → Fn → Prop) : Prop :=
  ((¬ a1 = 0 → ((¬ a1 = (1 : Int32) → ((¬ a1 = (2 : Int32) → (wp_X9_set_L56   f a1 a2 post)) ∧ (a1 = (2 : Int32) → (((Val_X9_in f a2.toInt64 (-99 : Int64) (299 : Int64)) = 0 → (wp_X9_set_L56   f a1 a2 post)) ∧ (¬ (Val_X9_in f a2.toInt64 (-99 : Int64) (299 : Int64)) = 0 → (wp_X9_set_L57   f a1 a2 (1 : Int32) post)))))) ∧ (a1 = (1 : Int32) → (wp_X9_set_L57   f a1 a2 (Val_X9_in f a2.toInt64 (0 : Int64) (30 : Int64)) post)))) ∧ (a1 = 0 → (wp_X9_set_L57   f a1 a2 (Val_X9_in f a2.toInt64 (0 : Int64) (200 : Int64)) post)))
def wp_X9_lagOf_L70   (f : Fn) (x1 : Int32) (x2 : Int32) (post : Option Value → Fn → Prop) : Prop :=
  (Pre_X9_of f x1 (3 : Int32) ∧ (((Val_X9_of f x1 (3 : Int32)) ≤ x2 → (post (some (.int (0 : Int32))) f)) ∧ (¬ (Val_X9_of f x1 (3 : Int32)) ≤ x2 → (post (some (.int (1 : Int32))) f))))
def wp_X9_lagOf  (f : Fn) (a1 : Int32) (post : Option Value → Fn → Prop) : Prop :=
  (Pre_X9_of f a1 (1 : Int32) ∧ (((f 0 10) < 0 → (Pre_X9_of f a1 (0 : Int32) ∧ (((Val_X9_of f a1 (0 : Int32)) = (2 : Int32) → (post (some (.int ((1 : Int32) + ((Val_X9_of f a1 (1 : Int32)) - ((Val_X9_of f a1 (1 : Int32)) / (3 : Int32)) * (3 : Int32))))) f)) ∧ ((Val_X9_of f a1 (0 : Int32)) = (3 : Int32) → (wp_X9_lagOf_L70   f a1 (Val_X9_of f a1 (1 : Int32)) post)) ∧ ((Val_X9_of f a1 (0 : Int32)) = (4 : Int32) → (post (some (.int (0 : Int32))) f)) ∧ ((Val_X9_of f a1 (0 : Int32)) = (5 : Int32) → (post (some (.int ((Val_X9_of f a1 (1 : Int32)) - ((Val_X9_of f a1 (1 : Int32)) / (3 : Int32)) * (3 : Int32)))) f)) ∧ ((Val_X9_of f a1 (0 : Int32)) = (6 : Int32) → (wp_X9_lagOf_L70   f a1 (Val_X9_of f a1 (1 : Int32)) post)) ∧ (¬ (Val_X9_of f a1 (0 : Int32)) = (2 : Int32) ∧ ¬ (Val_X9_of f a1 (0 : Int32)) = (3 : Int32) ∧ ¬ (Val_X9_of f a1 (0 : Int32)) = (4 : Int32) ∧ ¬ (Val_X9_of f a1 (0 : Int32)) = (5 : Int32) ∧ ¬ (Val_X9_of f a1 (0 : Int32)) = (6 : Int32) → (post (some (.int (0 : Int32))) f))))) ∧ (¬ (f 0 10) < 0 → (post (some (.int (f 0 10))) f))))
def wp_X9_holdsOf_L79   (f : Fn) (x3 : Int32) (post : Option Value → Fn → Prop) : Prop :=
  ((0 ≤ x3 → (post (some (.int x3)) f)) ∧ (¬ 0 ≤ x3 → (post (some (.int (0 : Int32))) f)))
def wp_X9_holdsOf  (f : Fn) (a1 : Int32) (post : Option Value → Fn → Prop) : Prop :=
  (Pre_X9_of f a1 (3 : Int32) ∧ (Pre_X9_of f a1 (0 : Int32) ∧ (((Val_X9_of f a1 (0 : Int32)) = (1 : Int32) → (post (some (.int ((f 1 6) + (1 : Int32)))) f)) ∧ ((Val_X9_of f a1 (0 : Int32)) = (2 : Int32) → (post (some (.int (f 1 6))) f)) ∧ ((Val_X9_of f a1 (0 : Int32)) = (3 : Int32) → (wp_X9_holdsOf_L79   f ((f 1 6) - ((Val_X9_of f a1 (3 : Int32)) / (3 : Int32))) post)) ∧ ((Val_X9_of f a1 (0 : Int32)) = (4 : Int32) → (Pre_X9_of f a1 (1 : Int32) ∧ (post (some (.int (((f 1 6) + (1 : Int32)) + (Val_X9_of f a1 (1 : Int32))))) f))) ∧ ((Val_X9_of f a1 (0 : Int32)) = (5 : Int32) → (post (some (.int (f 1 6))) f)) ∧ ((Val_X9_of f a1 (0 : Int32)) = (6 : Int32) → (wp_X9_holdsOf_L79   f ((f 1 6) - ((Val_X9_of f a1 (3 : Int32)) / (3 : Int32))) post)) ∧ (¬ (Val_X9_of f a1 (0 : Int32)) = (1 : Int32) ∧ ¬ (Val_X9_of f a1 (0 : Int32)) = (2 : Int32) ∧ ¬ (Val_X9_of f a1 (0 : Int32)) = (3 : Int32) ∧ ¬ (Val_X9_of f a1 (0 : Int32)) = (4 : Int32) ∧ ¬ (Val_X9_of f a1 (0 : Int32)) = (5 : Int32) ∧ ¬ (Val_X9_of f a1 (0 : Int32)) = (6 : Int32) → (post (some (.int (f 1 6))) f)))))
def wp_X9_harmOf  (f : Fn) (a1 : Int32) (a2 : Int32) (post : Option Value → Fn → Prop) : Prop :=
  (Pre_X9_of f a1 (0 : Int32) ∧ ((¬ (Val_X9_of f a1 (0 : Int32)) = (3 : Int32) → ((¬ (Val_X9_of f a1 (0 : Int32)) = (6 : Int32) → (post (some (.int a2)) f)) ∧ ((Val_X9_of f a1 (0 : Int32)) = (6 : Int32) → (Pre_X9_of f a1 (3 : Int32) ∧ (post (some (.int ((a2 + (Val_X9_of f a1 (3 : Int32))) / (2 : Int32)))) f))))) ∧ ((Val_X9_of f a1 (0 : Int32)) = (3 : Int32) → (Pre_X9_of f a1 (3 : Int32) ∧ (post (some (.int (a2 + (Val_X9_of f a1 (3 : Int32))))) f)))))
def wp_X9_flyer  (f : Fn) (a1 : Int32) (post : Option Value → Fn → Prop) : Prop :=
  ((¬ (Val_X9_in f a1.toInt64 (0 : Int64) (69 : Int64)) = 0 → ((¬ (f 1 0) = (6 : Int32) → (Pre_X9_sets (up2 f 1 0 ((f 1 0) + (1 : Int32))) (f 1 0) (0 : Int32) (a1 / (10 : Int32)) ∧ (∀ f4 : Fn, Post_X9_sets (up2 f 1 0 ((f 1 0) + (1 : Int32))) (f 1 0) (0 : Int32) (a1 / (10 : Int32)) f4 → (Pre_X9_sets f4 (f 1 0) (1 : Int32) (a1 - (a1 / (10 : Int32)) * (10 : Int32)) ∧ (∀ f7 : Fn, Post_X9_sets f4 (f 1 0) (1 : Int32) (a1 - (a1 / (10 : Int32)) * (10 : Int32)) f7 → (Pre_X9_sets f7 (f 1 0) (2 : Int32) (1 : Int32) ∧ (∀ f10 : Fn, Post_X9_sets f7 (f 1 0) (2 : Int32) (1 : Int32) f10 → (Pre_X9_sets f10 (f 1 0) (3 : Int32) (0 : Int32) ∧ (∀ f13 : Fn, Post_X9_sets f10 (f 1 0) (3 : Int32) (0 : Int32) f13 → (post (some (.int (f 1 0))) f13)))))))))) ∧ ((f 1 0) = (6 : Int32) → (Pre_X9_finds f (4 : Int32) ∧ (∀ (r16 : Int32) (f17 : Fn), Post_X9_finds f (4 : Int32) r16 f17 → (post (some (.int r16)) f17)))))) ∧ ((Val_X9_in f a1.toInt64 (0 : Int64) (69 : Int64)) = 0 → (Pre_X9_finds f (1 : Int32) ∧ (∀ (r20 : Int32) (f21 : Fn), Post_X9_finds f (1 : Int32) r20 f21 → (post (some (.int r20)) f21)))))
def wp_X9_ofFlyer_L20   (f : Fn)  (post : Option Value → Fn → Prop) : Prop :=
  (Pre_X9_finds f (1 : Int32) ∧ (∀ (r3 : Int32) (f4 : Fn), Post_X9_finds f (1 : Int32) r3 f4 → (post (some (.int r3)) f4)))
def wp_X9_ofFlyer  (f : Fn) (a1 : Int32) (a2 : Int32) (post : Option Value → Fn → Prop) : Prop :=
  (((Val_X9_isFlyer f a1) = 0 → (wp_X9_ofFlyer_L20   f  post)) ∧ (¬ (Val_X9_isFlyer f a1) = 0 → ((¬ (Val_X9_in f a2.toInt64 (0 : Int64) (6 : Int64)) = 0 → ((a2 = (4 : Int32) → (Pre_X9_lagOf f a1 ∧ (post (some (.int (Val_X9_lagOf f a1))) f))) ∧ (a2 = (5 : Int32) → (Pre_X9_holdsOf f a1 ∧ (post (some (.int (Val_X9_holdsOf f a1))) f))) ∧ (a2 = (6 : Int32) → (Pre_X9_harmOf f a1 (10 : Int32) ∧ (post (some (.int (Val_X9_harmOf f a1 (10 : Int32)))) f))) ∧ (¬ a2 = (4 : Int32) ∧ ¬ a2 = (5 : Int32) ∧ ¬ a2 = (6 : Int32) → (Pre_X9_of f a1 a2 ∧ (post (some (.int (Val_X9_of f a1 a2))) f))))) ∧ ((Val_X9_in f a2.toInt64 (0 : Int64) (6 : Int64)) = 0 → (wp_X9_ofFlyer_L20   f  post)))))
def wp_X9_become_L20   (f : Fn)  (post : Option Value → Fn → Prop) : Prop :=
  (Pre_X9_finds f (1 : Int32) ∧ (∀ (r3 : Int32) (f4 : Fn), Post_X9_finds f (1 : Int32) r3 f4 → (post (some (.int r3)) f4)))
def wp_X9_become  (f : Fn) (a1 : Int32) (a2 : Int32) (post : Option Value → Fn → Prop) : Prop :=
  (((Val_X9_isFlyer f a1) = 0 → (wp_X9_become_L20   f  post)) ∧ (¬ (Val_X9_isFlyer f a1) = 0 → ((¬ (Val_X9_in f a2.toInt64 (0 : Int64) (69 : Int64)) = 0 → (Pre_X9_of f a1 (0 : Int32) ∧ (Pre_X9_sets f a1 (0 : Int32) (a2 / (10 : Int32)) ∧ (∀ f9 : Fn, Post_X9_sets f a1 (0 : Int32) (a2 / (10 : Int32)) f9 → (Pre_X9_sets f9 a1 (1 : Int32) (a2 - (a2 / (10 : Int32)) * (10 : Int32)) ∧ (∀ f12 : Fn, Post_X9_sets f9 a1 (1 : Int32) (a2 - (a2 / (10 : Int32)) * (10 : Int32)) f12 → (post (some (.int (Val_X9_of f a1 (0 : Int32)))) f12))))))) ∧ ((Val_X9_in f a2.toInt64 (0 : Int64) (69 : Int64)) = 0 → (wp_X9_become_L20   f  post)))))
def wp_X9_above  (f : Fn) (a1 : Int32) (post : Option Value → Fn → Prop) : Prop :=
  (((4 : Int32) ≤ a1 → (post (some (.int (a1 - (3 : Int32)))) f)) ∧ (¬ (4 : Int32) ≤ a1 → (post (some (.int (0 : Int32))) f)))
def wp_X9_as_L20   (f : Fn)  (post : Option Value → Fn → Prop) : Prop :=
  (Pre_X9_finds f (1 : Int32) ∧ (∀ (r3 : Int32) (f4 : Fn), Post_X9_finds f (1 : Int32) r3 f4 → (post (some (.int r3)) f4)))
def wp_X9_as_L50   (f : Fn) (x1 : Int32) (post : Option Value → Fn → Prop) : Prop :=
  (Pre_X9_of f x1 (1 : Int32) ∧ (post (some (.int (Val_X9_of f x1 (1 : Int32)))) f))
def wp_X9_as  (f : Fn) (a1 : Int32) (a2 : Int32) (post : Option Value → Fn → Prop) : Prop :=
  (((Val_X9_isFlyer f a1) = 0 → (wp_X9_as_L20   f  post)) ∧ (¬ (Val_X9_isFlyer f a1) = 0 → ((¬ (Val_X9_in f a2.toInt64 (0 : Int64) (6 : Int64)) = 0 → (Pre_X9_of f a1 (0 : Int32) ∧ ((a2 = 0 → (wp_X9_as_L50   f a1 post)) ∧ (¬ a2 = 0 → ((a2 = (Val_X9_of f a1 (0 : Int32)) → (wp_X9_as_L50   f a1 post)) ∧ (¬ a2 = (Val_X9_of f a1 (0 : Int32)) → ((¬ a2 = (Val_X9_above f (Val_X9_of f a1 (0 : Int32))) → (Pre_X9_finds f (5 : Int32) ∧ (∀ (r13 : Int32) (f14 : Fn), Post_X9_finds f (5 : Int32) r13 f14 → (post (some (.int r13)) f14)))) ∧ (a2 = (Val_X9_above f (Val_X9_of f a1 (0 : Int32))) → (wp_X9_as_L50   f a1 post))))))))) ∧ ((Val_X9_in f a2.toInt64 (0 : Int64) (6 : Int64)) = 0 → (wp_X9_as_L20   f  post)))))
def wp_X9_turn_L20   (f : Fn)  (post : Option Value → Fn → Prop) : Prop :=
  (Pre_X9_finds f (1 : Int32) ∧ (∀ (r3 : Int32) (f4 : Fn), Post_X9_finds f (1 : Int32) r3 f4 → (post (some (.int r3)) f4)))
def wp_X9_turn  (f : Fn) (a1 : Int32) (a2 : Int32) (post : Option Value → Fn → Prop) : Prop :=
  (((Val_X9_isFlyer f a1) = 0 → (wp_X9_turn_L20   f  post)) ∧ (¬ (Val_X9_isFlyer f a1) = 0 → ((¬ (Val_X9_in f a2.toInt64 (1 : Int64) (3 : Int64)) = 0 → (Pre_X9_of f a1 (2 : Int32) ∧ (Pre_X9_sets f a1 (2 : Int32) a2 ∧ (∀ f9 : Fn, Post_X9_sets f a1 (2 : Int32) a2 f9 → (post (some (.int (Val_X9_of f a1 (2 : Int32)))) f9))))) ∧ ((Val_X9_in f a2.toInt64 (1 : Int64) (3 : Int64)) = 0 → (wp_X9_turn_L20   f  post)))))
def wp_X9_letsGo  (f : Fn) (a1 : Int32) (a2 : Int32) (post : Option Value → Fn → Prop) : Prop :=
  (Pre_X9_barOf f (0 : Int32) a2 ∧ (Pre_X9_barOf f (0 : Int32) (a2 - (1 : Int32)) ∧ (Pre_X9_of f a1 (2 : Int32) ∧ (Pre_X9_of f a1 (1 : Int32) ∧ (Pre_X9_textGives f (0 : Int32) (Val_X9_of f a1 (2 : Int32)) ((Val_X9_barOf f (0 : Int32) a2) - (Val_X9_barOf f (0 : Int32) (a2 - (1 : Int32)))) (Val_X9_of f a1 (1 : Int32)) ∧ (∀ (r6 : Int32) (f7 : Fn), Post_X9_textGives f (0 : Int32) (Val_X9_of f a1 (2 : Int32)) ((Val_X9_barOf f (0 : Int32) a2) - (Val_X9_barOf f (0 : Int32) (a2 - (1 : Int32)))) (Val_X9_of f a1 (1 : Int32)) r6 f7 → (Pre_X9_of (up2 f7 0 11 (a2 + r6)) a1 (2 : Int32) ∧ (Pre_X9_of (up2 f7 0 11 (a2 + r6)) a1 (1 : Int32) ∧ (Pre_X9_textGives (up2 f7 0 11 (a2 + r6)) (1 : Int32) (Val_X9_of (up2 f7 0 11 (a2 + r6)) a1 (2 : Int32)) ((Val_X9_barOf f (0 : Int32) a2) - (Val_X9_barOf f (0 : Int32) (a2 - (1 : Int32)))) (Val_X9_of (up2 f7 0 11 (a2 + r6)) a1 (1 : Int32)) ∧ (∀ (r12 : Int32) (f13 : Fn), Post_X9_textGives (up2 f7 0 11 (a2 + r6)) (1 : Int32) (Val_X9_of (up2 f7 0 11 (a2 + r6)) a1 (2 : Int32)) ((Val_X9_barOf f (0 : Int32) a2) - (Val_X9_barOf f (0 : Int32) (a2 - (1 : Int32)))) (Val_X9_of (up2 f7 0 11 (a2 + r6)) a1 (1 : Int32)) r12 f13 → (post none (up2 f13 0 12 ((Val_X9_barOf f (0 : Int32) a2) + r12)))))))))))))
def wp_X9_size0  (f : Fn) (a1 : Int32) (post : Option Value → Fn → Prop) : Prop :=
  ((0 ≤ a1 → (post (some (.int a1)) f)) ∧ (¬ 0 ≤ a1 → (post (some (.int (-a1))) f)))
def wp_X9_offNow  (f : Fn)  (post : Option Value → Fn → Prop) : Prop :=
  (Pre_X9_catcherAt f (f 0 11) ∧ (post (some (.int ((f 0 12) - (Val_X9_catcherAt f (f 0 11))))) f))
def wp_X9_isTold  (f : Fn) (a1 : Int32) (a2 : Int32) (post : Option Value → Fn → Prop) : Prop :=
  (Pre_X9_lagOf f a1 ∧ (Pre_X9_letsGo f a1 (a2 + (Val_X9_lagOf f a1)) ∧ (∀ f3 : Fn, Post_X9_letsGo f a1 (a2 + (Val_X9_lagOf f a1)) f3 → (post none f3))))
def wp_X9_isCaught  (f : Fn) (a1 : Int32) (post : Option Value → Fn → Prop) : Prop :=
  (Pre_X9_offNow f ∧ (Pre_X9_holdsOf f a1 ∧ (((Val_X9_holdsOf f a1) < (Val_X9_size0 f (Val_X9_offNow f)) → (post (some (.int (0 : Int32))) f)) ∧ (¬ (Val_X9_holdsOf f a1) < (Val_X9_size0 f (Val_X9_offNow f)) → (post (some (.int (1 : Int32))) f)))))
def wp_X9_fallHarm  (f : Fn) (a1 : Int32) (a2 : Int32) (post : Option Value → Fn → Prop) : Prop :=
  (Pre_X9_harmOf f a1 (Val_X9_size0 f ((f 0 12) - a2)) ∧ (post (some (.int (Val_X9_harmOf f a1 (Val_X9_size0 f ((f 0 12) - a2))))) f))
def wp_X9_goes_L89   (f : Fn) (x1 : Int32) (x3 : Int32) (s0 : Int32) (s1 : Int32) (s2 : Int32) (post : Option Value → Fn → Prop) : Prop :=
  (vp_in s2 264 ∧ (Pre_X9_of (up2 f 1 s2.toNatClampNeg (Val_X9_held f (s1 + s0) (0 : Int32) (99999 : Int32))) x1 (3 : Int32) ∧ (Pre_X9_sets (up2 f 1 s2.toNatClampNeg (Val_X9_held f (s1 + s0) (0 : Int32) (99999 : Int32))) x1 (3 : Int32) (Val_X9_held (up2 f 1 s2.toNatClampNeg (Val_X9_held f (s1 + s0) (0 : Int32) (99999 : Int32))) ((Val_X9_of (up2 f 1 s2.toNatClampNeg (Val_X9_held f (s1 + s0) (0 : Int32) (99999 : Int32))) x1 (3 : Int32)) + (1 : Int32)) (0 : Int32) (99 : Int32)) ∧ (∀ f14 : Fn, Post_X9_sets (up2 f 1 s2.toNatClampNeg (Val_X9_held f (s1 + s0) (0 : Int32) (99999 : Int32))) x1 (3 : Int32) (Val_X9_held (up2 f 1 s2.toNatClampNeg (Val_X9_held f (s1 + s0) (0 : Int32) (99999 : Int32))) ((Val_X9_of (up2 f 1 s2.toNatClampNeg (Val_X9_held f (s1 + s0) (0 : Int32) (99999 : Int32))) x1 (3 : Int32)) + (1 : Int32)) (0 : Int32) (99 : Int32)) f14 → (post (some (.int x3)) f14)))))
def wp_X9_goes_L42   (f : Fn) (x1 : Int32) (x3 : Int32) (s0 : Int32) (post : Option Value → Fn → Prop) : Prop :=
  (vp_in s0 264 ∧ (vp_in s0 264 ∧ ((¬ x3 = 0 → (wp_X9_goes_L89   (up2 f 1 s0.toNatClampNeg (Val_X9_held f ((f 1 s0.toNatClampNeg) + (1 : Int32)) (0 : Int32) (9999 : Int32))) x1 x3 (x3 - (1 : Int32)) ((up2 f 1 s0.toNatClampNeg (Val_X9_held f ((f 1 s0.toNatClampNeg) + (1 : Int32)) (0 : Int32) (9999 : Int32))) 1 4) (4 : Int32) post)) ∧ (x3 = 0 → (wp_X9_goes_L89   (up2 f 1 s0.toNatClampNeg (Val_X9_held f ((f 1 s0.toNatClampNeg) + (1 : Int32)) (0 : Int32) (9999 : Int32))) x1 x3 (0 : Int32) ((up2 f 1 s0.toNatClampNeg (Val_X9_held f ((f 1 s0.toNatClampNeg) + (1 : Int32)) (0 : Int32) (9999 : Int32))) 1 4) (4 : Int32) post)))))
def wp_X9_goes_L32   (f : Fn) (x1 : Int32) (s0 : Int32) (post : Option Value → Fn → Prop) : Prop :=
  ((¬ s0 = 0 → (wp_X9_goes_L42   f x1 s0 (3 : Int32) post)) ∧ (s0 = 0 → (wp_X9_goes_L42   f x1 s0 (2 : Int32) post)))
def wp_X9_goes  (f : Fn) (a1 : Int32) (a2 : Int32) (post : Option Value → Fn → Prop) : Prop :=
  (Pre_X9_isTold f a1 a2 ∧ (∀ f2 : Fn, Post_X9_isTold f a1 a2 f2 → (Pre_X9_isCaught f2 a1 ∧ (((Val_X9_isCaught f2 a1) = 0 → (Pre_X9_fallHarm f2 a1 (f2 1 7) ∧ (wp_X9_goes_L32   f2 a1 ((1 : Int32) + (Val_X9_fallHarm f2 a1 (f2 1 7))) post))) ∧ (¬ (Val_X9_isCaught f2 a1) = 0 → (wp_X9_goes_L32   f2 a1 (0 : Int32) post))))))
def wp_X9_go  (f : Fn) (a1 : Int32) (post : Option Value → Fn → Prop) : Prop :=
  (((Val_X9_isFlyer f a1) = 0 → (Pre_X9_finds f (1 : Int32) ∧ (∀ (r3 : Int32) (f4 : Fn), Post_X9_finds f (1 : Int32) r3 f4 → (post (some (.int r3)) f4)))) ∧ (¬ (Val_X9_isFlyer f a1) = 0 → (Pre_X9_goes f a1 (f 1 1) ∧ (∀ (r7 : Int32) (f8 : Fn), Post_X9_goes f a1 (f 1 1) r7 f8 → (post (some (.int r7)) f8)))))
def wp_X9_ticks  (f : Fn) (a1 : Int32) (post : Option Value → Fn → Prop) : Prop :=
  ((¬ (Val_X9_in f a1.toInt64 (1 : Int64) (200 : Int64)) = 0 → ((((f 1 1) + a1) ≤ (9999 : Int32) → (post (some (.int ((f 1 1) + a1))) (up2 f 1 1 ((f 1 1) + a1)))) ∧ (¬ ((f 1 1) + a1) ≤ (9999 : Int32) → (Pre_X9_finds f (3 : Int32) ∧ (∀ (r4 : Int32) (f5 : Fn), Post_X9_finds f (3 : Int32) r4 f5 → (post (some (.int r4)) f5)))))) ∧ ((Val_X9_in f a1.toInt64 (1 : Int64) (200 : Int64)) = 0 → (Pre_X9_finds f (1 : Int32) ∧ (∀ (r8 : Int32) (f9 : Fn), Post_X9_finds f (1 : Int32) r8 f9 → (post (some (.int r8)) f9)))))
def wp_X9_drawn  (f : Fn)  (post : Option Value → Fn → Prop) : Prop :=
  (post (some (.int (((((f 1 8) * (1103515245 : Int32)) + (12345 : Int32)).toUInt32 >>> ((8 : Int32).toUInt32 &&& Int32.toUInt32 31)).toInt32))) (up2 f 1 8 (((f 1 8) * (1103515245 : Int32)) + (12345 : Int32))))
def wpb_X9_evenings_L50  (K43 : Fn → Int32 → Int32 → Prop) (K50 : Fn → Int32 → Int32 → Int32 → Prop) (f : Fn) (x1 : Int32) (x2 : Int32) (x3 : Int32) (post : Option Value → Fn → Prop) : Prop :=
  (((f 1 0) ≤ x3 → (K43 (up2 f 1 1 ((f 1 1) + (12 : Int32))) x1 (x2 + (1 : Int32)))) ∧ (¬ (f 1 0) ≤ x3 → (∀ (r5 : Int32) (f6 : Fn), Post_X9_drawn f r5 f6 → (Pre_X9_goes f6 x3 ((f6 1 1) + (r5 - (r5 / (12 : Int32)) * (12 : Int32))) ∧ (∀ (r9 : Int32) (f10 : Fn), Post_X9_goes f6 x3 ((f6 1 1) + (r5 - (r5 / (12 : Int32)) * (12 : Int32))) r9 f10 → (K50 f10 x1 x2 (x3 + (1 : Int32))))))))
def wp_X9_evenings_L50  (K43 : Fn → Int32 → Int32 → Prop) (f : Fn) (x1 : Int32) (x2 : Int32) (x3 : Int32) (post : Option Value → Fn → Prop) : Prop :=
  ∃ (I : Fn → Int32 → Int32 → Int32 → Prop) (μ : Fn → Int32 → Int32 → Int32 → Nat), I f x1 x2 x3 ∧ ∀ (f : Fn) (x1 : Int32) (x2 : Int32) (x3 : Int32), I f x1 x2 x3 → wpb_X9_evenings_L50  K43 (fun (f9 : Fn) (x19 : Int32) (x29 : Int32) (x39 : Int32) => I f9 x19 x29 x39 ∧ μ f9 x19 x29 x39 < μ f x1 x2 x3) f x1 x2 x3 post
def wpb_X9_evenings_L43   (K43 : Fn → Int32 → Int32 → Prop) (f : Fn) (x1 : Int32) (x2 : Int32) (post : Option Value → Fn → Prop) : Prop :=
  ((x1 ≤ x2 → (post (some (.int (f 1 2))) f)) ∧ (¬ x1 ≤ x2 → (wp_X9_evenings_L50  K43 f x1 x2 (0 : Int32) post)))
def wp_X9_evenings_L43   (f : Fn) (x1 : Int32) (x2 : Int32) (post : Option Value → Fn → Prop) : Prop :=
  ∃ (I : Fn → Int32 → Int32 → Prop) (μ : Fn → Int32 → Int32 → Nat), I f x1 x2 ∧ ∀ (f : Fn) (x1 : Int32) (x2 : Int32), I f x1 x2 → wpb_X9_evenings_L43   (fun (f9 : Fn) (x19 : Int32) (x29 : Int32) => I f9 x19 x29 ∧ μ f9 x19 x29 < μ f x1 x2) f x1 x2 post
def wp_X9_evenings  (f : Fn) (a1 : Int32) (post : Option Value → Fn → Prop) : Prop :=
  ((¬ (Val_X9_in f a1.toInt64 (1 : Int64) (40 : Int64)) = 0 → ((((f 1 1) + ((12 : Int32) * a1)) ≤ (9999 : Int32) → (wp_X9_evenings_L43   f a1 (0 : Int32) post)) ∧ (¬ ((f 1 1) + ((12 : Int32) * a1)) ≤ (9999 : Int32) → (Pre_X9_finds f (3 : Int32) ∧ (∀ (r13 : Int32) (f14 : Fn), Post_X9_finds f (3 : Int32) r13 f14 → (post (some (.int r13)) f14)))))) ∧ ((Val_X9_in f a1.toInt64 (1 : Int64) (40 : Int64)) = 0 → (Pre_X9_finds f (1 : Int32) ∧ (∀ (r17 : Int32) (f18 : Fn), Post_X9_finds f (1 : Int32) r17 f18 → (post (some (.int r17)) f18)))))
def wpb_X9_rest_L4   (K4 : Fn → Int32 → Int32 → Prop) (f : Fn) (x1 : Int32) (x2 : Int32) (post : Option Value → Fn → Prop) : Prop :=
  (((f 1 0) ≤ x2 → (post (some (.int x1)) f)) ∧ (¬ (f 1 0) ≤ x2 → (Pre_X9_of f x2 (3 : Int32) ∧ (Pre_X9_sets f x2 (3 : Int32) (0 : Int32) ∧ (∀ f4 : Fn, Post_X9_sets f x2 (3 : Int32) (0 : Int32) f4 → (K4 f4 (x1 + (Val_X9_of f x2 (3 : Int32))) (x2 + (1 : Int32))))))))
def wp_X9_rest_L4   (f : Fn) (x1 : Int32) (x2 : Int32) (post : Option Value → Fn → Prop) : Prop :=
  ∃ (I : Fn → Int32 → Int32 → Prop) (μ : Fn → Int32 → Int32 → Nat), I f x1 x2 ∧ ∀ (f : Fn) (x1 : Int32) (x2 : Int32), I f x1 x2 → wpb_X9_rest_L4   (fun (f9 : Fn) (x19 : Int32) (x29 : Int32) => I f9 x19 x29 ∧ μ f9 x19 x29 < μ f x1 x2) f x1 x2 post
def wp_X9_rest  (f : Fn)  (post : Option Value → Fn → Prop) : Prop :=
  (wp_X9_rest_L4   f (0 : Int32) (0 : Int32) post)
def wp_X9_isSoon  (f : Fn) (a1 : Int32) (post : Option Value → Fn → Prop) : Prop :=
  (((Val_X9_in f a1.toInt64 (0 : Int64) (60 : Int64)) = 0 ∨ (Val_X9_in f a1.toInt64 (0 : Int64) (60 : Int64)) = 1) ∧ (post (some (.int (Val_X9_in f a1.toInt64 (0 : Int64) (60 : Int64)))) f))
def wp_X9_isSpan  (f : Fn) (a1 : Int32) (post : Option Value → Fn → Prop) : Prop :=
  (((Val_X9_in f a1.toInt64 (1 : Int64) (60 : Int64)) = 0 ∨ (Val_X9_in f a1.toInt64 (1 : Int64) (60 : Int64)) = 1) ∧ (post (some (.int (Val_X9_in f a1.toInt64 (1 : Int64) (60 : Int64)))) f))
def wp_X9_then_L27   (f : Fn)  (post : Option Value → Fn → Prop) : Prop :=
  (Pre_X9_finds f (1 : Int32) ∧ (∀ (r3 : Int32) (f4 : Fn), Post_X9_finds f (1 : Int32) r3 f4 → (post (some (.int r3)) f4)))
def wp_X9_then  (f : Fn) (a1 : Int32) (a2 : Int32) (a3 : Int32) (post : Option Value → Fn → Prop) : Prop :=
  (((Val_X9_isFlyer f a1) = 0 → (wp_X9_then_L27   f  post)) ∧ (¬ (Val_X9_isFlyer f a1) = 0 → (((Val_X9_isSoon f a2) = 0 → (wp_X9_then_L27   f  post)) ∧ (¬ (Val_X9_isSoon f a2) = 0 → ((¬ (Val_X9_in f a3.toInt64 (0 : Int64) (4 : Int64)) = 0 → (Pre_X9_isTold f a1 ((f 1 1) + a2) ∧ (∀ f9 : Fn, Post_X9_isTold f a1 ((f 1 1) + a2) f9 → ((a3 = (0 : Int32) → (Pre_X9_offNow f9 ∧ (post (some (.int (Val_X9_offNow f9))) f9))) ∧ (a3 = (1 : Int32) → (Pre_X9_isCaught f9 a1 ∧ (((Val_X9_isCaught f9 a1) = 0 → (post (some (.int (0 : Int32))) f9)) ∧ (¬ (Val_X9_isCaught f9 a1) = 0 → (post (some (.int (1 : Int32))) f9))))) ∧ (a3 = (2 : Int32) → (post (some (.int (f9 0 11))) f9)) ∧ (a3 = (3 : Int32) → (post (some (.int (f9 0 12))) f9)) ∧ (¬ a3 = (0 : Int32) ∧ ¬ a3 = (1 : Int32) ∧ ¬ a3 = (2 : Int32) ∧ ¬ a3 = (3 : Int32) → (Pre_X9_fallHarm f9 a1 (f9 1 7) ∧ (post (some (.int (Val_X9_fallHarm f9 a1 (f9 1 7)))) f9))))))) ∧ ((Val_X9_in f a3.toInt64 (0 : Int64) (4 : Int64)) = 0 → (wp_X9_then_L27   f  post)))))))
def wp_X9_findCan_L54  (K14 : Fn → Int32 → Int32 → Prop) (f : Fn) (x1 : Int32) (x3 : Int32) (post : Option Value → Fn → Prop) : Prop :=
  (K14 f x1 (x3 + (-1 : Int32)))
def wpb_X9_findCan_L14   (K14 : Fn → Int32 → Int32 → Prop) (f : Fn) (x1 : Int32) (x3 : Int32) (post : Option Value → Fn → Prop) : Prop :=
  ((x3 < 0 → (post none f)) ∧ (¬ x3 < 0 → (Pre_X9_isTold f x1 ((f 1 1) + x3) ∧ (∀ f3 : Fn, Post_X9_isTold f x1 ((f 1 1) + x3) f3 → (Pre_X9_isCaught f3 x1 ∧ (((Val_X9_isCaught f3 x1) = 0 → (wp_X9_findCan_L54  K14 f3 x1 x3 post)) ∧ (¬ (Val_X9_isCaught f3 x1) = 0 → (wp_X9_findCan_L54  K14 (up2 (up2 f3 0 13 ((f3 0 13) + (1 : Int32))) 0 14 x3) x1 x3 post))))))))
def wp_X9_findCan_L14   (f : Fn) (x1 : Int32) (x3 : Int32) (post : Option Value → Fn → Prop) : Prop :=
  ∃ (I : Fn → Int32 → Int32 → Prop) (μ : Fn → Int32 → Int32 → Nat), I f x1 x3 ∧ ∀ (f : Fn) (x1 : Int32) (x3 : Int32), I f x1 x3 → wpb_X9_findCan_L14   (fun (f9 : Fn) (x19 : Int32) (x39 : Int32) => I f9 x19 x39 ∧ μ f9 x19 x39 < μ f x1 x3) f x1 x3 post
def wp_X9_findCan  (f : Fn) (a1 : Int32) (a2 : Int32) (post : Option Value → Fn → Prop) : Prop :=
  (wp_X9_findCan_L14   (up2 (up2 f 0 13 (0 : Int32)) 0 14 (-1 : Int32)) a1 (a2 - (1 : Int32)) post)
def wp_X9_can_L25   (f : Fn)  (post : Option Value → Fn → Prop) : Prop :=
  (Pre_X9_finds f (1 : Int32) ∧ (∀ (r3 : Int32) (f4 : Fn), Post_X9_finds f (1 : Int32) r3 f4 → (post (some (.int r3)) f4)))
def wp_X9_can  (f : Fn) (a1 : Int32) (a2 : Int32) (a3 : Int32) (post : Option Value → Fn → Prop) : Prop :=
  (((Val_X9_isFlyer f a1) = 0 → (wp_X9_can_L25   f  post)) ∧ (¬ (Val_X9_isFlyer f a1) = 0 → (((Val_X9_isSpan f a2) = 0 → (wp_X9_can_L25   f  post)) ∧ (¬ (Val_X9_isSpan f a2) = 0 → ((¬ (Val_X9_in f a3.toInt64 (0 : Int64) (1 : Int64)) = 0 → (Pre_X9_findCan f a1 a2 ∧ (∀ f9 : Fn, Post_X9_findCan f a1 a2 f9 → ((¬ a3 = 0 → ((0 ≤ (f9 0 14) → (post (some (.int (f9 0 14))) f9)) ∧ (¬ 0 ≤ (f9 0 14) → (Pre_X9_finds f9 (2 : Int32) ∧ (∀ (r14 : Int32) (f15 : Fn), Post_X9_finds f9 (2 : Int32) r14 f15 → (post (some (.int r14)) f15)))))) ∧ (a3 = 0 → (post (some (.int (f9 0 13))) f9)))))) ∧ ((Val_X9_in f a3.toInt64 (0 : Int64) (1 : Int64)) = 0 → (wp_X9_can_L25   f  post)))))))
def wp_X9_casesAt_L68  (K5 : Fn → Int32 → Int32 → Int32 → Int32 → Prop) (K29 : Fn → Int32 → Int32 → Int32 → Int32 → Int32 → Prop) (f : Fn) (x1 : Int32) (x2 : Int32) (x4 : Int32) (x5 : Int32) (s0 : Int32) (s1 : Int32) (post : Option Value → Fn → Prop) : Prop :=
  (K29 f x1 x2 (s1 + s0) x4 (x5 + (1 : Int32)))
def wpb_X9_casesAt_L29  (K5 : Fn → Int32 → Int32 → Int32 → Int32 → Prop) (K29 : Fn → Int32 → Int32 → Int32 → Int32 → Int32 → Prop) (f : Fn) (x1 : Int32) (x2 : Int32) (x3 : Int32) (x4 : Int32) (x5 : Int32) (post : Option Value → Fn → Prop) : Prop :=
  (((1 : Int32) < x5 → (K5 f x1 x2 x3 (x4 + (1 : Int32)))) ∧ (¬ (1 : Int32) < x5 → (Pre_X9_catcherAt f ((f 0 11) + x5) ∧ (Pre_X9_holdsOf f x1 ∧ (((Val_X9_holdsOf f x1) < (Val_X9_size0 f ((f 0 12) - (Val_X9_catcherAt f ((f 0 11) + x5)))) → (wp_X9_casesAt_L68  K5 K29 f x1 x2 x4 x5 (0 : Int32) x3 post)) ∧ (¬ (Val_X9_holdsOf f x1) < (Val_X9_size0 f ((f 0 12) - (Val_X9_catcherAt f ((f 0 11) + x5)))) → (wp_X9_casesAt_L68  K5 K29 f x1 x2 x4 x5 (1 : Int32) x3 post)))))))
def wp_X9_casesAt_L29  (K5 : Fn → Int32 → Int32 → Int32 → Int32 → Prop) (f : Fn) (x1 : Int32) (x2 : Int32) (x3 : Int32) (x4 : Int32) (x5 : Int32) (post : Option Value → Fn → Prop) : Prop :=
  ∃ (I : Fn → Int32 → Int32 → Int32 → Int32 → Int32 → Prop) (μ : Fn → Int32 → Int32 → Int32 → Int32 → Int32 → Nat), I f x1 x2 x3 x4 x5 ∧ ∀ (f : Fn) (x1 : Int32) (x2 : Int32) (x3 : Int32) (x4 : Int32) (x5 : Int32), I f x1 x2 x3 x4 x5 → wpb_X9_casesAt_L29  K5 (fun (f9 : Fn) (x19 : Int32) (x29 : Int32) (x39 : Int32) (x49 : Int32) (x59 : Int32) => I f9 x19 x29 x39 x49 x59 ∧ μ f9 x19 x29 x39 x49 x59 < μ f x1 x2 x3 x4 x5) f x1 x2 x3 x4 x5 post
def wpb_X9_casesAt_L5   (K5 : Fn → Int32 → Int32 → Int32 → Int32 → Prop) (f : Fn) (x1 : Int32) (x2 : Int32) (x3 : Int32) (x4 : Int32) (post : Option Value → Fn → Prop) : Prop :=
  (((1 : Int32) < x4 → (post (some (.int x3)) f)) ∧ (¬ (1 : Int32) < x4 → (Pre_X9_lagOf f x1 ∧ (Pre_X9_letsGo f x1 ((x2 + (Val_X9_lagOf f x1)) + x4) ∧ (∀ f4 : Fn, Post_X9_letsGo f x1 ((x2 + (Val_X9_lagOf f x1)) + x4) f4 → (wp_X9_casesAt_L29  K5 f4 x1 x2 x3 x4 (-1 : Int32) post))))))
def wp_X9_casesAt_L5   (f : Fn) (x1 : Int32) (x2 : Int32) (x3 : Int32) (x4 : Int32) (post : Option Value → Fn → Prop) : Prop :=
  ∃ (I : Fn → Int32 → Int32 → Int32 → Int32 → Prop) (μ : Fn → Int32 → Int32 → Int32 → Int32 → Nat), I f x1 x2 x3 x4 ∧ ∀ (f : Fn) (x1 : Int32) (x2 : Int32) (x3 : Int32) (x4 : Int32), I f x1 x2 x3 x4 → wpb_X9_casesAt_L5   (fun (f9 : Fn) (x19 : Int32) (x29 : Int32) (x39 : Int32) (x49 : Int32) => I f9 x19 x29 x39 x49 ∧ μ f9 x19 x29 x39 x49 < μ f x1 x2 x3 x4) f x1 x2 x3 x4 post
def wp_X9_casesAt  (f : Fn) (a1 : Int32) (a2 : Int32) (post : Option Value → Fn → Prop) : Prop :=
  (wp_X9_casesAt_L5   f a1 a2 (0 : Int32) (-1 : Int32) post)
def wp_X9_surestOf_L58  (K8 : Fn → Int32 → Int32 → Int32 → Int32 → Int32 → Prop) (f : Fn) (x1 : Int32) (x2 : Int32) (x3 : Int32) (x5 : Int32) (s0 : Int32) (post : Option Value → Fn → Prop) : Prop :=
  (K8 f x1 x2 x3 s0 (x5 + (1 : Int32)))
def wp_X9_surestOf_L43  (K8 : Fn → Int32 → Int32 → Int32 → Int32 → Int32 → Prop) (f : Fn) (x1 : Int32) (x2 : Int32) (x4 : Int32) (x5 : Int32) (x6 : Int32) (s0 : Int32) (post : Option Value → Fn → Prop) : Prop :=
  ((x6 ≤ x4 → (wp_X9_surestOf_L58  K8 f x1 x2 s0 x5 x4 post)) ∧ (¬ x6 ≤ x4 → (wp_X9_surestOf_L58  K8 f x1 x2 s0 x5 x6 post)))
def wpb_X9_surestOf_L8   (K8 : Fn → Int32 → Int32 → Int32 → Int32 → Int32 → Prop) (f : Fn) (x1 : Int32) (x2 : Int32) (x3 : Int32) (x4 : Int32) (x5 : Int32) (post : Option Value → Fn → Prop) : Prop :=
  ((x2 ≤ x5 → (post (some (.int x3)) f)) ∧ (¬ x2 ≤ x5 → (Pre_X9_casesAt f x1 ((f 1 1) + x5) ∧ (∀ (r3 : Int32) (f4 : Fn), Post_X9_casesAt f x1 ((f 1 1) + x5) r3 f4 → ((r3 ≤ x4 → (wp_X9_surestOf_L43  K8 f4 x1 x2 x4 x5 r3 x3 post)) ∧ (¬ r3 ≤ x4 → (wp_X9_surestOf_L43  K8 f4 x1 x2 x4 x5 r3 x5 post)))))))
def wp_X9_surestOf_L8   (f : Fn) (x1 : Int32) (x2 : Int32) (x3 : Int32) (x4 : Int32) (x5 : Int32) (post : Option Value → Fn → Prop) : Prop :=
  ∃ (I : Fn → Int32 → Int32 → Int32 → Int32 → Int32 → Prop) (μ : Fn → Int32 → Int32 → Int32 → Int32 → Int32 → Nat), I f x1 x2 x3 x4 x5 ∧ ∀ (f : Fn) (x1 : Int32) (x2 : Int32) (x3 : Int32) (x4 : Int32) (x5 : Int32), I f x1 x2 x3 x4 x5 → wpb_X9_surestOf_L8   (fun (f9 : Fn) (x19 : Int32) (x29 : Int32) (x39 : Int32) (x49 : Int32) (x59 : Int32) => I f9 x19 x29 x39 x49 x59 ∧ μ f9 x19 x29 x39 x49 x59 < μ f x1 x2 x3 x4 x5) f x1 x2 x3 x4 x5 post
def wp_X9_surestOf  (f : Fn) (a1 : Int32) (a2 : Int32) (post : Option Value → Fn → Prop) : Prop :=
  (wp_X9_surestOf_L8   f a1 a2 (0 : Int32) (-1 : Int32) (0 : Int32) post)
def wp_X9_surest_L24   (f : Fn)  (post : Option Value → Fn → Prop) : Prop :=
  (Pre_X9_finds f (1 : Int32) ∧ (∀ (r3 : Int32) (f4 : Fn), Post_X9_finds f (1 : Int32) r3 f4 → (post (some (.int r3)) f4)))
def wp_X9_surest  (f : Fn) (a1 : Int32) (a2 : Int32) (post : Option Value → Fn → Prop) : Prop :=
  (((Val_X9_isFlyer f a1) = 0 → (wp_X9_surest_L24   f  post)) ∧ (¬ (Val_X9_isFlyer f a1) = 0 → (((Val_X9_isSpan f a2) = 0 → (wp_X9_surest_L24   f  post)) ∧ (¬ (Val_X9_isSpan f a2) = 0 → (Pre_X9_surestOf f a1 a2 ∧ (∀ (r8 : Int32) (f9 : Fn), Post_X9_surestOf f a1 a2 r8 f9 → (post (some (.int r8)) f9)))))))
def wpb_X9_common_L17   (K17 : Fn → Int64 → Int64 → Prop) (f : Fn) (x4 : Int64) (x6 : Int64) (post : Option Value → Fn → Prop) : Prop :=
  (((lg_cmp x6 (0 : Int64)) = 0 → (post (some (.long x4)) f)) ∧ (¬ (lg_cmp x6 (0 : Int64)) = 0 → (¬ x6 = 0 ∧ (K17 f x6 (x4 - (x4 / x6) * x6)))))
def wp_X9_common_L17   (f : Fn) (x4 : Int64) (x6 : Int64) (post : Option Value → Fn → Prop) : Prop :=
  ∃ (I : Fn → Int64 → Int64 → Prop) (μ : Fn → Int64 → Int64 → Nat), I f x4 x6 ∧ ∀ (f : Fn) (x4 : Int64) (x6 : Int64), I f x4 x6 → wpb_X9_common_L17   (fun (f9 : Fn) (x49 : Int64) (x69 : Int64) => I f9 x49 x69 ∧ μ f9 x49 x69 < μ f x4 x6) f x4 x6 post
def wp_X9_common_L12   (f : Fn) (x2 : Int64) (s0 : Int64) (post : Option Value → Fn → Prop) : Prop :=
  (wp_X9_common_L17   f s0 x2 post)
def wp_X9_common  (f : Fn) (a1 : Int64) (a2 : Int64) (post : Option Value → Fn → Prop) : Prop :=
  ((0 ≤ (lg_cmp a1 (0 : Int64)) → (wp_X9_common_L12   f a2 a1 post)) ∧ (¬ 0 ≤ (lg_cmp a1 (0 : Int64)) → (wp_X9_common_L12   f a2 (-a1) post)))
def wp_X9_odds_L25   (f : Fn)  (post : Option Value → Fn → Prop) : Prop :=
  (Pre_X9_finds f (1 : Int32) ∧ (∀ (r3 : Int32) (f4 : Fn), Post_X9_finds f (1 : Int32) r3 f4 → (post (some (.int r3)) f4)))
def wp_X9_odds  (f : Fn) (a1 : Int32) (a2 : Int32) (a3 : Int32) (post : Option Value → Fn → Prop) : Prop :=
  (((Val_X9_isFlyer f a1) = 0 → (wp_X9_odds_L25   f  post)) ∧ (¬ (Val_X9_isFlyer f a1) = 0 → (((Val_X9_isSoon f a2) = 0 → (wp_X9_odds_L25   f  post)) ∧ (¬ (Val_X9_isSoon f a2) = 0 → ((¬ (Val_X9_in f a3.toInt64 (0 : Int64) (1 : Int64)) = 0 → (Pre_X9_casesAt f a1 ((f 1 1) + a2) ∧ (∀ (r9 : Int32) (f10 : Fn), Post_X9_casesAt f a1 ((f 1 1) + a2) r9 f10 → (Pre_X9_common f10 r9.toInt64 (9 : Int64) ∧ (∀ (r13 : Int64) (f14 : Fn), Post_X9_common f10 r9.toInt64 (9 : Int64) r13 f14 → ((¬ a3 = 0 → (¬ r13.toInt32 = 0 ∧ (post (some (.int ((9 : Int32) / r13.toInt32))) f14))) ∧ (a3 = 0 → (¬ r13.toInt32 = 0 ∧ (post (some (.int (r9 / r13.toInt32))) f14))))))))) ∧ ((Val_X9_in f a3.toInt64 (0 : Int64) (1 : Int64)) = 0 → (wp_X9_odds_L25   f  post)))))))
def wp_X9_hasNext  (f : Fn) (a1 : Int32) (a2 : Int32) (post : Option Value → Fn → Prop) : Prop :=
  (Pre_X9_findCan f a1 a2 ∧ (∀ f2 : Fn, Post_X9_findCan f a1 a2 f2 → (((f2 0 13) ≤ 0 → (post (some (.int (0 : Int32))) f2)) ∧ (¬ (f2 0 13) ≤ 0 → (post (some (.int (1 : Int32))) f2)))))
def wp_X9_pumped_L15   (f : Fn)  (post : Option Value → Fn → Prop) : Prop :=
  (Pre_X9_finds f (1 : Int32) ∧ (∀ (r3 : Int32) (f4 : Fn), Post_X9_finds f (1 : Int32) r3 f4 → (post (some (.int r3)) f4)))
def wp_X9_pumped_L87   (f : Fn) (x3 : Int32) (x4 : Int32) (post : Option Value → Fn → Prop) : Prop :=
  ((0 ≤ x4 → (post (some (.int x4)) (up2 f 1 13 x3))) ∧ (¬ 0 ≤ x4 → (Pre_X9_finds (up2 f 1 13 x3) (2 : Int32) ∧ (∀ (r10 : Int32) (f11 : Fn), Post_X9_finds (up2 f 1 13 x3) (2 : Int32) r10 f11 → (post (some (.int r10)) f11)))))
def wp_X9_pumped_L79  (K35 : Fn → Int32 → Int32 → Int32 → Int32 → Int32 → Prop) (f : Fn) (x1 : Int32) (x2 : Int32) (x3 : Int32) (x5 : Int32) (s0 : Int32) (post : Option Value → Fn → Prop) : Prop :=
  (K35 f x1 x2 x3 s0 (x5 + (1 : Int32)))
def wpb_X9_pumped_L35   (K35 : Fn → Int32 → Int32 → Int32 → Int32 → Int32 → Prop) (f : Fn) (x1 : Int32) (x2 : Int32) (x3 : Int32) (x4 : Int32) (x5 : Int32) (post : Option Value → Fn → Prop) : Prop :=
  (((59 : Int32) < x5 → (wp_X9_pumped_L87   f x3 x4 post)) ∧ (¬ (59 : Int32) < x5 → ((0 ≤ x4 → (wp_X9_pumped_L87   f x3 x4 post)) ∧ (¬ 0 ≤ x4 → (Pre_X9_hasNext (up2 f 1 13 (Val_X9_held f (x3 + x5) (1 : Int32) (60 : Int32))) x1 x2 ∧ (∀ (r15 : Int32) (f16 : Fn), Post_X9_hasNext (up2 f 1 13 (Val_X9_held f (x3 + x5) (1 : Int32) (60 : Int32))) x1 x2 r15 f16 → ((r15 = 0 → (wp_X9_pumped_L79  K35 f16 x1 x2 x3 x5 (-1 : Int32) post)) ∧ (¬ r15 = 0 → (wp_X9_pumped_L79  K35 f16 x1 x2 x3 x5 x5 post)))))))))
def wp_X9_pumped_L35   (f : Fn) (x1 : Int32) (x2 : Int32) (x3 : Int32) (x4 : Int32) (x5 : Int32) (post : Option Value → Fn → Prop) : Prop :=
  ∃ (I : Fn → Int32 → Int32 → Int32 → Int32 → Int32 → Prop) (μ : Fn → Int32 → Int32 → Int32 → Int32 → Int32 → Nat), I f x1 x2 x3 x4 x5 ∧ ∀ (f : Fn) (x1 : Int32) (x2 : Int32) (x3 : Int32) (x4 : Int32) (x5 : Int32), I f x1 x2 x3 x4 x5 → wpb_X9_pumped_L35   (fun (f9 : Fn) (x19 : Int32) (x29 : Int32) (x39 : Int32) (x49 : Int32) (x59 : Int32) => I f9 x19 x29 x39 x49 x59 ∧ μ f9 x19 x29 x39 x49 x59 < μ f x1 x2 x3 x4 x5) f x1 x2 x3 x4 x5 post
def wp_X9_pumped  (f : Fn) (a1 : Int32) (a2 : Int32) (post : Option Value → Fn → Prop) : Prop :=
  (((Val_X9_isFlyer f a1) = 0 → (wp_X9_pumped_L15   f  post)) ∧ (¬ (Val_X9_isFlyer f a1) = 0 → ((¬ (Val_X9_isSpan f a2) = 0 → (wp_X9_pumped_L35   f a1 a2 (f 1 13) (-1 : Int32) (0 : Int32) post)) ∧ ((Val_X9_isSpan f a2) = 0 → (wp_X9_pumped_L15   f  post)))))
def wp_X9_inStep_L15   (f : Fn)  (post : Option Value → Fn → Prop) : Prop :=
  (Pre_X9_finds f (1 : Int32) ∧ (∀ (r3 : Int32) (f4 : Fn), Post_X9_finds f (1 : Int32) r3 f4 → (post (some (.int r3)) f4)))
def wp_X9_inStep_L89   (f : Fn) (x3 : Int32) (x4 : Int32) (post : Option Value → Fn → Prop) : Prop :=
  ((0 ≤ x4 → (post (some (.int x4)) (up2 f 1 17 x3))) ∧ (¬ 0 ≤ x4 → (Pre_X9_finds (up2 f 1 17 x3) (2 : Int32) ∧ (∀ (r10 : Int32) (f11 : Fn), Post_X9_finds (up2 f 1 17 x3) (2 : Int32) r10 f11 → (post (some (.int r10)) f11)))))
def wp_X9_inStep_L81  (K35 : Fn → Int32 → Int32 → Int32 → Int32 → Int32 → Prop) (f : Fn) (x1 : Int32) (x2 : Int32) (x3 : Int32) (x5 : Int32) (s0 : Int32) (post : Option Value → Fn → Prop) : Prop :=
  (K35 f x1 x2 x3 s0 (x5 + (1 : Int32)))
def wpb_X9_inStep_L35   (K35 : Fn → Int32 → Int32 → Int32 → Int32 → Int32 → Prop) (f : Fn) (x1 : Int32) (x2 : Int32) (x3 : Int32) (x4 : Int32) (x5 : Int32) (post : Option Value → Fn → Prop) : Prop :=
  (((39 : Int32) < x5 → (wp_X9_inStep_L89   f x3 x4 post)) ∧ (¬ (39 : Int32) < x5 → ((0 ≤ x4 → (wp_X9_inStep_L89   f x3 x4 post)) ∧ (¬ 0 ≤ x4 → (¬ (f 1 15) = 0 ∧ (Pre_X9_hasNext (up2 f 1 17 ((x3 + x5) - ((x3 + x5) / (f 1 15)) * (f 1 15))) x1 x2 ∧ (∀ (r16 : Int32) (f17 : Fn), Post_X9_hasNext (up2 f 1 17 ((x3 + x5) - ((x3 + x5) / (f 1 15)) * (f 1 15))) x1 x2 r16 f17 → ((r16 = 0 → (wp_X9_inStep_L81  K35 f17 x1 x2 x3 x5 (-1 : Int32) post)) ∧ (¬ r16 = 0 → (wp_X9_inStep_L81  K35 f17 x1 x2 x3 x5 x5 post))))))))))
def wp_X9_inStep_L35   (f : Fn) (x1 : Int32) (x2 : Int32) (x3 : Int32) (x4 : Int32) (x5 : Int32) (post : Option Value → Fn → Prop) : Prop :=
  ∃ (I : Fn → Int32 → Int32 → Int32 → Int32 → Int32 → Prop) (μ : Fn → Int32 → Int32 → Int32 → Int32 → Int32 → Nat), I f x1 x2 x3 x4 x5 ∧ ∀ (f : Fn) (x1 : Int32) (x2 : Int32) (x3 : Int32) (x4 : Int32) (x5 : Int32), I f x1 x2 x3 x4 x5 → wpb_X9_inStep_L35   (fun (f9 : Fn) (x19 : Int32) (x29 : Int32) (x39 : Int32) (x49 : Int32) (x59 : Int32) => I f9 x19 x29 x39 x49 x59 ∧ μ f9 x19 x29 x39 x49 x59 < μ f x1 x2 x3 x4 x5) f x1 x2 x3 x4 x5 post
def wp_X9_inStep  (f : Fn) (a1 : Int32) (a2 : Int32) (post : Option Value → Fn → Prop) : Prop :=
  (((Val_X9_isFlyer f a1) = 0 → (wp_X9_inStep_L15   f  post)) ∧ (¬ (Val_X9_isFlyer f a1) = 0 → ((¬ (Val_X9_isSpan f a2) = 0 → (wp_X9_inStep_L35   f a1 a2 (f 1 17) (-1 : Int32) (0 : Int32) post)) ∧ ((Val_X9_isSpan f a2) = 0 → (wp_X9_inStep_L15   f  post)))))
def wp_X9_mend_L40   (f : Fn)  (post : Option Value → Fn → Prop) : Prop :=
  (Pre_X9_finds f (1 : Int32) ∧ (∀ (r3 : Int32) (f4 : Fn), Post_X9_finds f (1 : Int32) r3 f4 → (post (some (.int r3)) f4)))
def wp_X9_mend  (f : Fn) (a1 : Int32) (a2 : Int32) (a3 : Int32) (a4 : Int32) (post : Option Value → Fn → Prop) : Prop :=
  (((Val_X9_isFlyer f a1) = 0 → (wp_X9_mend_L40   f  post)) ∧ (¬ (Val_X9_isFlyer f a1) = 0 → (((Val_X9_isSoon f a2) = 0 → (wp_X9_mend_L40   f  post)) ∧ (¬ (Val_X9_isSoon f a2) = 0 → (((Val_X9_in f a3.toInt64 (0 : Int64) (9 : Int64)) = 0 → (wp_X9_mend_L40   f  post)) ∧ (¬ (Val_X9_in f a3.toInt64 (0 : Int64) (9 : Int64)) = 0 → ((¬ (Val_X9_in f a4.toInt64 (0 : Int64) (9 : Int64)) = 0 → (Pre_X9_isTold f a1 ((f 1 1) + a2) ∧ (∀ f10 : Fn, Post_X9_isTold f a1 ((f 1 1) + a2) f10 → (Pre_X9_offNow f10 ∧ (post (some (.int (((Val_X9_offNow f10) - (((Val_X9_offNow f10) * a3) / (10 : Int32))) - (((Val_X9_offNow f10) * a4) / (10 : Int32))))) f10))))) ∧ ((Val_X9_in f a4.toInt64 (0 : Int64) (9 : Int64)) = 0 → (wp_X9_mend_L40   f  post)))))))))
def wp_X9_again_L51   (f : Fn)  (post : Option Value → Fn → Prop) : Prop :=
  (Pre_X9_finds f (1 : Int32) ∧ (∀ (r3 : Int32) (f4 : Fn), Post_X9_finds f (1 : Int32) r3 f4 → (post (some (.long r3.toInt64)) f4)))
def wp_X9_again_L110   (f : Fn) (x5 : Int32) (x6 : Int64) (x8 : Int64) (s0 : Int64) (post : Option Value → Fn → Prop) : Prop :=
  (Pre_X9_common f (((9 : Int64) * x8) + (((9 : Int64) - x6) * s0)) (81 : Int64) ∧ (∀ (r20 : Int64) (f21 : Fn), Post_X9_common f (((9 : Int64) * x8) + (((9 : Int64) - x6) * s0)) (81 : Int64) r20 f21 → ((¬ x5 = 0 → (¬ r20 = 0 ∧ (post (some (.long ((81 : Int64) / r20))) f21))) ∧ (x5 = 0 → (¬ r20 = 0 ∧ (post (some (.long ((((9 : Int64) * x8) + (((9 : Int64) - x6) * s0)) / r20))) f21))))))
def wp_X9_again  (f : Fn) (a1 : Int32) (a2 : Int32) (a3 : Int32) (a4 : Int32) (a5 : Int32) (post : Option Value → Fn → Prop) : Prop :=
  (((Val_X9_isFlyer f a1) = 0 → (wp_X9_again_L51   f  post)) ∧ (¬ (Val_X9_isFlyer f a1) = 0 → (((Val_X9_isSpan f a2) = 0 → (wp_X9_again_L51   f  post)) ∧ (¬ (Val_X9_isSpan f a2) = 0 → (((Val_X9_in f a3.toInt64 (0 : Int64) (99 : Int64)) = 0 → (wp_X9_again_L51   f  post)) ∧ (¬ (Val_X9_in f a3.toInt64 (0 : Int64) (99 : Int64)) = 0 → (((Val_X9_in f a4.toInt64 (0 : Int64) (99 : Int64)) = 0 → (wp_X9_again_L51   f  post)) ∧ (¬ (Val_X9_in f a4.toInt64 (0 : Int64) (99 : Int64)) = 0 → ((¬ (Val_X9_in f a5.toInt64 (0 : Int64) (1 : Int64)) = 0 → (Pre_X9_surestOf f a1 a2 ∧ (∀ (r11 : Int32) (f12 : Fn), Post_X9_surestOf f a1 a2 r11 f12 → (Pre_X9_casesAt f12 a1 ((f 1 1) + r11) ∧ (∀ (r15 : Int32) (f16 : Fn), Post_X9_casesAt f12 a1 ((f 1 1) + r11) r15 f16 → (((lg_cmp ((r15.toInt64 * a3.toInt64) - (((9 : Int64) - r15.toInt64) * a4.toInt64)) (0 : Int64)) ≤ 0 → (wp_X9_again_L110   f16 a5 r15.toInt64 ((r15.toInt64 * a3.toInt64) - (((9 : Int64) - r15.toInt64) * a4.toInt64)) (0 : Int64) post)) ∧ (¬ (lg_cmp ((r15.toInt64 * a3.toInt64) - (((9 : Int64) - r15.toInt64) * a4.toInt64)) (0 : Int64)) ≤ 0 → (wp_X9_again_L110   f16 a5 r15.toInt64 ((r15.toInt64 * a3.toInt64) - (((9 : Int64) - r15.toInt64) * a4.toInt64)) ((r15.toInt64 * a3.toInt64) - (((9 : Int64) - r15.toInt64) * a4.toInt64)) post)))))))) ∧ ((Val_X9_in f a5.toInt64 (0 : Int64) (1 : Int64)) = 0 → (wp_X9_again_L51   f  post)))))))))))
def wp_X9_findFalls_L56  (K7 : Fn → Int32 → Int32 → Int32 → Prop) (f : Fn) (x1 : Int32) (x2 : Int32) (x3 : Int32) (post : Option Value → Fn → Prop) : Prop :=
  (K7 f x1 x2 (x3 + (1 : Int32)))
def wpb_X9_findFalls_L7   (K7 : Fn → Int32 → Int32 → Int32 → Prop) (f : Fn) (x1 : Int32) (x2 : Int32) (x3 : Int32) (post : Option Value → Fn → Prop) : Prop :=
  ((x2 ≤ x3 → (post none f)) ∧ (¬ x2 ≤ x3 → (Pre_X9_isTold f x1 ((f 1 1) + x3) ∧ (∀ f3 : Fn, Post_X9_isTold f x1 ((f 1 1) + x3) f3 → (Pre_X9_isCaught f3 x1 ∧ ((¬ (Val_X9_isCaught f3 x1) = 0 → (wp_X9_findFalls_L56  K7 f3 x1 x2 x3 post)) ∧ ((Val_X9_isCaught f3 x1) = 0 → (vp_in (f3 0 17) 60 ∧ (wp_X9_findFalls_L56  K7 (up2 (up2 f3 5 (f3 0 17).toNatClampNeg (f3 0 12)) 0 17 ((f3 0 17) + (1 : Int32))) x1 x2 x3 post)))))))))
def wp_X9_findFalls_L7   (f : Fn) (x1 : Int32) (x2 : Int32) (x3 : Int32) (post : Option Value → Fn → Prop) : Prop :=
  ∃ (I : Fn → Int32 → Int32 → Int32 → Prop) (μ : Fn → Int32 → Int32 → Int32 → Nat), I f x1 x2 x3 ∧ ∀ (f : Fn) (x1 : Int32) (x2 : Int32) (x3 : Int32), I f x1 x2 x3 → wpb_X9_findFalls_L7   (fun (f9 : Fn) (x19 : Int32) (x29 : Int32) (x39 : Int32) => I f9 x19 x29 x39 ∧ μ f9 x19 x29 x39 < μ f x1 x2 x3) f x1 x2 x3 post
def wp_X9_findFalls  (f : Fn) (a1 : Int32) (a2 : Int32) (post : Option Value → Fn → Prop) : Prop :=
  (wp_X9_findFalls_L7   (up2 f 0 17 (0 : Int32)) a1 a2 (0 : Int32) post)
def wpb_X9_harmBy_L5   (K5 : Fn → Int32 → Int32 → Int64 → Int32 → Prop) (f : Fn) (x1 : Int32) (x2 : Int32) (x3 : Int64) (x5 : Int32) (post : Option Value → Fn → Prop) : Prop :=
  (((f 0 17) ≤ x5 → (post (some (.long x3)) f)) ∧ (¬ (f 0 17) ≤ x5 → (vp_in x5 60 ∧ (Pre_X9_harmOf f x1 (Val_X9_size0 f ((f 5 x5.toNatClampNeg) - x2)) ∧ (K5 f x1 x2 (x3 + (Val_X9_harmOf f x1 (Val_X9_size0 f ((f 5 x5.toNatClampNeg) - x2))).toInt64) (x5 + (1 : Int32)))))))
def wp_X9_harmBy_L5   (f : Fn) (x1 : Int32) (x2 : Int32) (x3 : Int64) (x5 : Int32) (post : Option Value → Fn → Prop) : Prop :=
  ∃ (I : Fn → Int32 → Int32 → Int64 → Int32 → Prop) (μ : Fn → Int32 → Int32 → Int64 → Int32 → Nat), I f x1 x2 x3 x5 ∧ ∀ (f : Fn) (x1 : Int32) (x2 : Int32) (x3 : Int64) (x5 : Int32), I f x1 x2 x3 x5 → wpb_X9_harmBy_L5   (fun (f9 : Fn) (x19 : Int32) (x29 : Int32) (x39 : Int64) (x59 : Int32) => I f9 x19 x29 x39 x59 ∧ μ f9 x19 x29 x39 x59 < μ f x1 x2 x3 x5) f x1 x2 x3 x5 post
def wp_X9_harmBy  (f : Fn) (a1 : Int32) (a2 : Int32) (post : Option Value → Fn → Prop) : Prop :=
  (wp_X9_harmBy_L5   f a1 a2 (0 : Int64) (0 : Int32) post)
def wp_X9_net_L25   (f : Fn)  (post : Option Value → Fn → Prop) : Prop :=
  (Pre_X9_finds f (1 : Int32) ∧ (∀ (r3 : Int32) (f4 : Fn), Post_X9_finds f (1 : Int32) r3 f4 → (post (some (.int r3)) f4)))
def wp_X9_net_L96  (K48 : Fn → Int32 → Int32 → Int32 → Prop) (f : Fn) (x1 : Int32) (x3 : Int32) (x4 : Int32) (post : Option Value → Fn → Prop) : Prop :=
  (K48 f x1 x3 (x4 + (1 : Int32)))
def wp_X9_net_L84  (K48 : Fn → Int32 → Int32 → Int32 → Prop) (f : Fn) (x1 : Int32) (x3 : Int32) (x4 : Int32) (x5 : Int64) (post : Option Value → Fn → Prop) : Prop :=
  (wp_X9_net_L96  K48 (up2 (up2 (up2 f 0 16 (hi64 x5)) 0 116 (lo64 x5)) 0 15 x4) x1 x3 x4 post)
def wpb_X9_net_L48   (K48 : Fn → Int32 → Int32 → Int32 → Prop) (f : Fn) (x1 : Int32) (x3 : Int32) (x4 : Int32) (post : Option Value → Fn → Prop) : Prop :=
  (((299 : Int32) < x4 → ((¬ (f 0 17) = 0 → ((¬ x3 = 0 → (post (some (.int (mk64 (f 0 16) (f 0 116)).toInt32)) f)) ∧ (x3 = 0 → (post (some (.int (f 0 15))) f)))) ∧ ((f 0 17) = 0 → (Pre_X9_finds f (2 : Int32) ∧ (∀ (r15 : Int32) (f16 : Fn), Post_X9_finds f (2 : Int32) r15 f16 → (post (some (.int r15)) f16)))))) ∧ (¬ (299 : Int32) < x4 → (Pre_X9_harmBy f x1 x4 ∧ (((lg_cmp (mk64 (f 0 16) (f 0 116)) (0 : Int64)) < 0 → (wp_X9_net_L84  K48 f x1 x3 x4 (Val_X9_harmBy f x1 x4) post)) ∧ (¬ (lg_cmp (mk64 (f 0 16) (f 0 116)) (0 : Int64)) < 0 → ((0 ≤ (lg_cmp (Val_X9_harmBy f x1 x4) (mk64 (f 0 16) (f 0 116))) → (wp_X9_net_L96  K48 f x1 x3 x4 post)) ∧ (¬ 0 ≤ (lg_cmp (Val_X9_harmBy f x1 x4) (mk64 (f 0 16) (f 0 116))) → (wp_X9_net_L84  K48 f x1 x3 x4 (Val_X9_harmBy f x1 x4) post))))))))
def wp_X9_net_L48   (f : Fn) (x1 : Int32) (x3 : Int32) (x4 : Int32) (post : Option Value → Fn → Prop) : Prop :=
  ∃ (I : Fn → Int32 → Int32 → Int32 → Prop) (μ : Fn → Int32 → Int32 → Int32 → Nat), I f x1 x3 x4 ∧ ∀ (f : Fn) (x1 : Int32) (x3 : Int32) (x4 : Int32), I f x1 x3 x4 → wpb_X9_net_L48   (fun (f9 : Fn) (x19 : Int32) (x39 : Int32) (x49 : Int32) => I f9 x19 x39 x49 ∧ μ f9 x19 x39 x49 < μ f x1 x3 x4) f x1 x3 x4 post
def wp_X9_net  (f : Fn) (a1 : Int32) (a2 : Int32) (a3 : Int32) (post : Option Value → Fn → Prop) : Prop :=
  (((Val_X9_isFlyer f a1) = 0 → (wp_X9_net_L25   f  post)) ∧ (¬ (Val_X9_isFlyer f a1) = 0 → (((Val_X9_isSpan f a2) = 0 → (wp_X9_net_L25   f  post)) ∧ (¬ (Val_X9_isSpan f a2) = 0 → ((¬ (Val_X9_in f a3.toInt64 (0 : Int64) (1 : Int64)) = 0 → (Pre_X9_findFalls (up2 (up2 f 0 16 (hi64 (-1 : Int64))) 0 116 (lo64 (-1 : Int64))) a1 a2 ∧ (∀ f9 : Fn, Post_X9_findFalls (up2 (up2 f 0 16 (hi64 (-1 : Int64))) 0 116 (lo64 (-1 : Int64))) a1 a2 f9 → (wp_X9_net_L48   f9 a1 a3 (-99 : Int32) post)))) ∧ ((Val_X9_in f a3.toInt64 (0 : Int64) (1 : Int64)) = 0 → (wp_X9_net_L25   f  post)))))))
def vcS_X9_finds : Prop := ∀  (f : Fn) (a1 : Int32), Pre_X9_finds f a1 → wp_X9_finds f a1 (pI (Post_X9_finds f a1))
def vcS_X9_in : Prop := ∀  (f : Fn) (a1 : Int64) (a2 : Int64) (a3 : Int64), wp_X9_in f a1 a2 a3 (pI (fun r9 f9 => r9 = Val_X9_in f a1 a2 a3 ∧ f9 = f))
def vcS_X9_held : Prop := ∀  (f : Fn) (a1 : Int32) (a2 : Int32) (a3 : Int32), wp_X9_held f a1 a2 a3 (pI (fun r9 f9 => r9 = Val_X9_held f a1 a2 a3 ∧ f9 = f))
def vcS_X9_isFlyer : Prop := ∀  (f : Fn) (a1 : Int32), wp_X9_isFlyer f a1 (pI (fun r9 f9 => r9 = Val_X9_isFlyer f a1 ∧ f9 = f))
def vcS_X9_of : Prop := ∀  (f : Fn) (a1 : Int32) (a2 : Int32), Pre_X9_of f a1 a2 → wp_X9_of f a1 a2 (pI (fun r9 f9 => r9 = Val_X9_of f a1 a2 ∧ f9 = f))
def vcS_X9_sets : Prop := ∀  (f : Fn) (a1 : Int32) (a2 : Int32) (a3 : Int32), Pre_X9_sets f a1 a2 a3 → wp_X9_sets f a1 a2 a3 (pV (Post_X9_sets f a1 a2 a3))
def vcS_X9_here : Prop := ∀  (f : Fn) , Pre_X9_here f → wp_X9_here f (pI (fun r9 f9 => r9 = Val_X9_here f ∧ f9 = f))
def vcS_X9_wrong : Prop := ∀  (f : Fn) , wp_X9_wrong f (pI (Post_X9_wrong f))
def vcS_X9_takes : Prop := ∀  (f : Fn) (a1 : Int32), Pre_X9_takes f a1 → wp_X9_takes f a1 (pI (Post_X9_takes f a1))
def vcS_X9_nameOf : Prop := ∀  (f : Fn) (a1 : Int32), wp_X9_nameOf f a1 (pI (fun r9 f9 => r9 = Val_X9_nameOf f a1 ∧ f9 = f))
def vcS_X9_either : Prop := ∀  (f : Fn) , Pre_X9_either f → (mu_X9_either f < 48 ∧ wp_X9_either (mu_X9_either f) f (pI (Post_X9_either f)))
def vcS_X9_both : Prop := ∀  (f : Fn) , Pre_X9_both f → (mu_X9_both f < 48 ∧ wp_X9_both (mu_X9_both f) f (pI (Post_X9_both f)))
def vcS_X9_compared : Prop := ∀  (f : Fn) , Pre_X9_compared f → (mu_X9_compared f < 48 ∧ wp_X9_compared (mu_X9_compared f) f (pI (Post_X9_compared f)))
def vcS_X9_sum : Prop := ∀  (f : Fn) , Pre_X9_sum f → (mu_X9_sum f < 48 ∧ wp_X9_sum (mu_X9_sum f) f (pI (Post_X9_sum f)))
def vcS_X9_product : Prop := ∀  (f : Fn) , Pre_X9_product f → (mu_X9_product f < 48 ∧ wp_X9_product (mu_X9_product f) f (pI (Post_X9_product f)))
def vcS_X9_unit : Prop := ∀  (f : Fn) , Pre_X9_unit f → (mu_X9_unit f < 48 ∧ wp_X9_unit (mu_X9_unit f) f (pI (Post_X9_unit f)))
def vcS_X9_worked : Prop := ∀  (f : Fn) (a1 : Int32) (a2 : Int32) (a3 : Int32), Pre_X9_worked f a1 a2 a3 → wp_X9_worked f a1 a2 a3 (pI (Post_X9_worked f a1 a2 a3))
def vcS_X9_feed : Prop := ∀  (f : Fn) (a1 : Int64) (a2 : Int32), Pre_X9_feed f a1 a2 → wp_X9_feed f a1 a2 (pI (Post_X9_feed f a1 a2))
def vcS_X9_text : Prop := ∀  (f : Fn) (a1 : Int32), Pre_X9_text f a1 → wp_X9_text f a1 (pI (Post_X9_text f a1))
def vcS_X9_textGives : Prop := ∀  (f : Fn) (a1 : Int32) (a2 : Int32) (a3 : Int32) (a4 : Int32), Pre_X9_textGives f a1 a2 a3 a4 → wp_X9_textGives f a1 a2 a3 a4 (pI (Post_X9_textGives f a1 a2 a3 a4))
def vcS_X9_law : Prop := ∀  (f : Fn) (a1 : Int32) (a2 : Int32) (a3 : Int32) (a4 : Int32), Pre_X9_law f a1 a2 a3 a4 → wp_X9_law f a1 a2 a3 a4 (pI (Post_X9_law f a1 a2 a3 a4))
def vcS_X9_isSwing : Prop := ∀  (f : Fn) (a1 : Int32), wp_X9_isSwing f a1 (pI (fun r9 f9 => r9 = Val_X9_isSwing f a1 ∧ f9 = f))
def vcS_X9_barOf : Prop := ∀  (f : Fn) (a1 : Int32) (a2 : Int32), Pre_X9_barOf f a1 a2 → wp_X9_barOf f a1 a2 (pI (fun r9 f9 => r9 = Val_X9_barOf f a1 a2 ∧ f9 = f))
def vcS_X9_catcherAt : Prop := ∀  (f : Fn) (a1 : Int32), Pre_X9_catcherAt f a1 → wp_X9_catcherAt f a1 (pI (fun r9 f9 => r9 = Val_X9_catcherAt f a1 ∧ f9 = f))
def vcS_X9_swing : Prop := ∀  (f : Fn) (a1 : Int32) (a2 : Int32) (a3 : Int32), Pre_X9_swing f a1 a2 a3 → wp_X9_swing f a1 a2 a3 (pI (Post_X9_swing f a1 a2 a3))
def vcS_X9_bar : Prop := ∀  (f : Fn) (a1 : Int32) (a2 : Int32), Pre_X9_bar f a1 a2 → wp_X9_bar f a1 a2 (pI (Post_X9_bar f a1 a2))
def vcS_X9_set : Prop := ∀  (f : Fn) (a1 : Int32) (a2 : Int32), Pre_X9_set f a1 a2 → wp_X9_set f a1 a2 (pI (Post_X9_set f a1 a2))
def vcS_X9_lagOf : Prop := ∀  (f : Fn) (a1 : Int32), Pre_X9_lagOf f a1 → wp_X9_lagOf f a1 (pI (fun r9 f9 => r9 = Val_X9_lagOf f a1 ∧ f9 = f))
def vcS_X9_holdsOf : Prop := ∀  (f : Fn) (a1 : Int32), Pre_X9_holdsOf f a1 → wp_X9_holdsOf f a1 (pI (fun r9 f9 => r9 = Val_X9_holdsOf f a1 ∧ f9 = f))
def vcS_X9_harmOf : Prop := ∀  (f : Fn) (a1 : Int32) (a2 : Int32), Pre_X9_harmOf f a1 a2 → wp_X9_harmOf f a1 a2 (pI (fun r9 f9 => r9 = Val_X9_harmOf f a1 a2 ∧ f9 = f))
def vcS_X9_flyer : Prop := ∀  (f : Fn) (a1 : Int32), Pre_X9_flyer f a1 → wp_X9_flyer f a1 (pI (Post_X9_flyer f a1))
def vcS_X9_ofFlyer : Prop := ∀  (f : Fn) (a1 : Int32) (a2 : Int32), Pre_X9_ofFlyer f a1 a2 → wp_X9_ofFlyer f a1 a2 (pI (Post_X9_ofFlyer f a1 a2))
def vcS_X9_become : Prop := ∀  (f : Fn) (a1 : Int32) (a2 : Int32), Pre_X9_become f a1 a2 → wp_X9_become f a1 a2 (pI (Post_X9_become f a1 a2))
def vcS_X9_above : Prop := ∀  (f : Fn) (a1 : Int32), wp_X9_above f a1 (pI (fun r9 f9 => r9 = Val_X9_above f a1 ∧ f9 = f))
def vcS_X9_as : Prop := ∀  (f : Fn) (a1 : Int32) (a2 : Int32), Pre_X9_as f a1 a2 → wp_X9_as f a1 a2 (pI (Post_X9_as f a1 a2))
def vcS_X9_turn : Prop := ∀  (f : Fn) (a1 : Int32) (a2 : Int32), Pre_X9_turn f a1 a2 → wp_X9_turn f a1 a2 (pI (Post_X9_turn f a1 a2))
def vcS_X9_letsGo : Prop := ∀  (f : Fn) (a1 : Int32) (a2 : Int32), Pre_X9_letsGo f a1 a2 → wp_X9_letsGo f a1 a2 (pV (Post_X9_letsGo f a1 a2))
def vcS_X9_size0 : Prop := ∀  (f : Fn) (a1 : Int32), wp_X9_size0 f a1 (pI (fun r9 f9 => r9 = Val_X9_size0 f a1 ∧ f9 = f))
def vcS_X9_offNow : Prop := ∀  (f : Fn) , Pre_X9_offNow f → wp_X9_offNow f (pI (fun r9 f9 => r9 = Val_X9_offNow f ∧ f9 = f))
def vcS_X9_isTold : Prop := ∀  (f : Fn) (a1 : Int32) (a2 : Int32), Pre_X9_isTold f a1 a2 → wp_X9_isTold f a1 a2 (pV (Post_X9_isTold f a1 a2))
def vcS_X9_isCaught : Prop := ∀  (f : Fn) (a1 : Int32), Pre_X9_isCaught f a1 → wp_X9_isCaught f a1 (pI (fun r9 f9 => r9 = Val_X9_isCaught f a1 ∧ f9 = f))
def vcS_X9_fallHarm : Prop := ∀  (f : Fn) (a1 : Int32) (a2 : Int32), Pre_X9_fallHarm f a1 a2 → wp_X9_fallHarm f a1 a2 (pI (fun r9 f9 => r9 = Val_X9_fallHarm f a1 a2 ∧ f9 = f))
def vcS_X9_goes : Prop := ∀  (f : Fn) (a1 : Int32) (a2 : Int32), Pre_X9_goes f a1 a2 → wp_X9_goes f a1 a2 (pI (Post_X9_goes f a1 a2))
def vcS_X9_go : Prop := ∀  (f : Fn) (a1 : Int32), Pre_X9_go f a1 → wp_X9_go f a1 (pI (Post_X9_go f a1))
def vcS_X9_ticks : Prop := ∀  (f : Fn) (a1 : Int32), Pre_X9_ticks f a1 → wp_X9_ticks f a1 (pI (Post_X9_ticks f a1))
def vcS_X9_drawn : Prop := ∀  (f : Fn) , wp_X9_drawn f (pI (Post_X9_drawn f))
def vcS_X9_evenings : Prop := ∀  (f : Fn) (a1 : Int32), Pre_X9_evenings f a1 → wp_X9_evenings f a1 (pI (Post_X9_evenings f a1))
def vcS_X9_rest : Prop := ∀  (f : Fn) , Pre_X9_rest f → wp_X9_rest f (pI (Post_X9_rest f))
def vcS_X9_isSoon : Prop := ∀  (f : Fn) (a1 : Int32), wp_X9_isSoon f a1 (pI (fun r9 f9 => r9 = Val_X9_isSoon f a1 ∧ f9 = f))
def vcS_X9_isSpan : Prop := ∀  (f : Fn) (a1 : Int32), wp_X9_isSpan f a1 (pI (fun r9 f9 => r9 = Val_X9_isSpan f a1 ∧ f9 = f))
def vcS_X9_then : Prop := ∀  (f : Fn) (a1 : Int32) (a2 : Int32) (a3 : Int32), Pre_X9_then f a1 a2 a3 → wp_X9_then f a1 a2 a3 (pI (Post_X9_then f a1 a2 a3))
def vcS_X9_findCan : Prop := ∀  (f : Fn) (a1 : Int32) (a2 : Int32), Pre_X9_findCan f a1 a2 → wp_X9_findCan f a1 a2 (pV (Post_X9_findCan f a1 a2))
def vcS_X9_can : Prop := ∀  (f : Fn) (a1 : Int32) (a2 : Int32) (a3 : Int32), Pre_X9_can f a1 a2 a3 → wp_X9_can f a1 a2 a3 (pI (Post_X9_can f a1 a2 a3))
def vcS_X9_casesAt : Prop := ∀  (f : Fn) (a1 : Int32) (a2 : Int32), Pre_X9_casesAt f a1 a2 → wp_X9_casesAt f a1 a2 (pI (Post_X9_casesAt f a1 a2))
def vcS_X9_surestOf : Prop := ∀  (f : Fn) (a1 : Int32) (a2 : Int32), Pre_X9_surestOf f a1 a2 → wp_X9_surestOf f a1 a2 (pI (Post_X9_surestOf f a1 a2))
def vcS_X9_surest : Prop := ∀  (f : Fn) (a1 : Int32) (a2 : Int32), Pre_X9_surest f a1 a2 → wp_X9_surest f a1 a2 (pI (Post_X9_surest f a1 a2))
def vcS_X9_common : Prop := ∀  (f : Fn) (a1 : Int64) (a2 : Int64), Pre_X9_common f a1 a2 → wp_X9_common f a1 a2 (pL (Post_X9_common f a1 a2))
def vcS_X9_odds : Prop := ∀  (f : Fn) (a1 : Int32) (a2 : Int32) (a3 : Int32), Pre_X9_odds f a1 a2 a3 → wp_X9_odds f a1 a2 a3 (pI (Post_X9_odds f a1 a2 a3))
def vcS_X9_hasNext : Prop := ∀  (f : Fn) (a1 : Int32) (a2 : Int32), Pre_X9_hasNext f a1 a2 → wp_X9_hasNext f a1 a2 (pI (Post_X9_hasNext f a1 a2))
def vcS_X9_pumped : Prop := ∀  (f : Fn) (a1 : Int32) (a2 : Int32), Pre_X9_pumped f a1 a2 → wp_X9_pumped f a1 a2 (pI (Post_X9_pumped f a1 a2))
def vcS_X9_inStep : Prop := ∀  (f : Fn) (a1 : Int32) (a2 : Int32), Pre_X9_inStep f a1 a2 → wp_X9_inStep f a1 a2 (pI (Post_X9_inStep f a1 a2))
def vcS_X9_mend : Prop := ∀  (f : Fn) (a1 : Int32) (a2 : Int32) (a3 : Int32) (a4 : Int32), Pre_X9_mend f a1 a2 a3 a4 → wp_X9_mend f a1 a2 a3 a4 (pI (Post_X9_mend f a1 a2 a3 a4))
def vcS_X9_again : Prop := ∀  (f : Fn) (a1 : Int32) (a2 : Int32) (a3 : Int32) (a4 : Int32) (a5 : Int32), Pre_X9_again f a1 a2 a3 a4 a5 → wp_X9_again f a1 a2 a3 a4 a5 (pL (Post_X9_again f a1 a2 a3 a4 a5))
def vcS_X9_findFalls : Prop := ∀  (f : Fn) (a1 : Int32) (a2 : Int32), Pre_X9_findFalls f a1 a2 → wp_X9_findFalls f a1 a2 (pV (Post_X9_findFalls f a1 a2))
def vcS_X9_harmBy : Prop := ∀  (f : Fn) (a1 : Int32) (a2 : Int32), Pre_X9_harmBy f a1 a2 → wp_X9_harmBy f a1 a2 (pL (fun r9 f9 => r9 = Val_X9_harmBy f a1 a2 ∧ f9 = f))
def vcS_X9_net : Prop := ∀  (f : Fn) (a1 : Int32) (a2 : Int32) (a3 : Int32), Pre_X9_net f a1 a2 a3 → wp_X9_net f a1 a2 a3 (pI (Post_X9_net f a1 a2 a3))
def VC_m1 : Prop := vcS_X9_finds ∧ vcS_X9_in ∧ vcS_X9_held ∧ vcS_X9_isFlyer ∧ vcS_X9_of ∧ vcS_X9_sets ∧ vcS_X9_here ∧ vcS_X9_wrong ∧ vcS_X9_takes ∧ vcS_X9_nameOf ∧ vcS_X9_either ∧ vcS_X9_both ∧ vcS_X9_compared ∧ vcS_X9_sum ∧ vcS_X9_product ∧ vcS_X9_unit ∧ vcS_X9_worked ∧ vcS_X9_feed ∧ vcS_X9_text ∧ vcS_X9_textGives ∧ vcS_X9_law ∧ vcS_X9_isSwing ∧ vcS_X9_barOf ∧ vcS_X9_catcherAt ∧ vcS_X9_swing ∧ vcS_X9_bar ∧ vcS_X9_set ∧ vcS_X9_lagOf ∧ vcS_X9_holdsOf ∧ vcS_X9_harmOf ∧ vcS_X9_flyer ∧ vcS_X9_ofFlyer ∧ vcS_X9_become ∧ vcS_X9_above ∧ vcS_X9_as ∧ vcS_X9_turn ∧ vcS_X9_letsGo ∧ vcS_X9_size0 ∧ vcS_X9_offNow ∧ vcS_X9_isTold ∧ vcS_X9_isCaught ∧ vcS_X9_fallHarm ∧ vcS_X9_goes ∧ vcS_X9_go ∧ vcS_X9_ticks ∧ vcS_X9_drawn ∧ vcS_X9_evenings ∧ vcS_X9_rest ∧ vcS_X9_isSoon ∧ vcS_X9_isSpan ∧ vcS_X9_then ∧ vcS_X9_findCan ∧ vcS_X9_can ∧ vcS_X9_casesAt ∧ vcS_X9_surestOf ∧ vcS_X9_surest ∧ vcS_X9_common ∧ vcS_X9_odds ∧ vcS_X9_hasNext ∧ vcS_X9_pumped ∧ vcS_X9_inStep ∧ vcS_X9_mend ∧ vcS_X9_again ∧ vcS_X9_findFalls ∧ vcS_X9_harmBy ∧ vcS_X9_net ∧ True
theorem kb_m10 : (Int8.ofInt (-10)).toInt32 = (-10 : Int32) := by decide +kernel
theorem kb_12 : (Int8.ofInt 12).toInt32 = (12 : Int32) := by decide +kernel
theorem kb_13 : (Int8.ofInt 13).toInt32 = (13 : Int32) := by decide +kernel
theorem kb_15 : (Int8.ofInt 15).toInt32 = (15 : Int32) := by decide +kernel
theorem kb_17 : (Int8.ofInt 17).toInt32 = (17 : Int32) := by decide +kernel
theorem kb_18 : (Int8.ofInt 18).toInt32 = (18 : Int32) := by decide +kernel
theorem kb_37 : (Int8.ofInt 37).toInt32 = (37 : Int32) := by decide +kernel
theorem kb_38 : (Int8.ofInt 38).toInt32 = (38 : Int32) := by decide +kernel
theorem kb_39 : (Int8.ofInt 39).toInt32 = (39 : Int32) := by decide +kernel
theorem kb_42 : (Int8.ofInt 42).toInt32 = (42 : Int32) := by decide +kernel
theorem kb_43 : (Int8.ofInt 43).toInt32 = (43 : Int32) := by decide +kernel
theorem kb_45 : (Int8.ofInt 45).toInt32 = (45 : Int32) := by decide +kernel
theorem kb_47 : (Int8.ofInt 47).toInt32 = (47 : Int32) := by decide +kernel
theorem kb_61 : (Int8.ofInt 61).toInt32 = (61 : Int32) := by decide +kernel
theorem kb_62 : (Int8.ofInt 62).toInt32 = (62 : Int32) := by decide +kernel
theorem kb_90 : (Int8.ofInt 90).toInt32 = (90 : Int32) := by decide +kernel
theorem kb_99 : (Int8.ofInt 99).toInt32 = (99 : Int32) := by decide +kernel
theorem kb_112 : (Int8.ofInt 112).toInt32 = (112 : Int32) := by decide +kernel
theorem kb_124 : (Int8.ofInt 124).toInt32 = (124 : Int32) := by decide +kernel
theorem ks_212 : (Int16.ofInt 212).toInt32 = (212 : Int32) := by decide +kernel
theorem ks_9999 : (Int16.ofInt 9999).toInt32 = (9999 : Int32) := by decide +kernel
theorem kl_0 : Int64.ofNat ((0 : Fin 2) : Nat) = (0 : Int64) := by decide +kernel
theorem kl_1 : Int64.ofNat ((1 : Fin 2) : Nat) = (1 : Int64) := by decide +kernel
theorem kc_1 : (1 : Int32).toNatClampNeg = 1 := by decide +kernel
theorem kc_2 : (2 : Int32).toNatClampNeg = 2 := by decide +kernel
theorem kc_4 : (4 : Int32).toNatClampNeg = 4 := by decide +kernel
theorem kc_5 : (5 : Int32).toNatClampNeg = 5 := by decide +kernel
theorem kc_6 : (6 : Int32).toNatClampNeg = 6 := by decide +kernel
theorem kc_7 : (7 : Int32).toNatClampNeg = 7 := by decide +kernel
theorem kc_8 : (8 : Int32).toNatClampNeg = 8 := by decide +kernel
theorem kc_9 : (9 : Int32).toNatClampNeg = 9 := by decide +kernel
theorem kc_13 : (13 : Int32).toNatClampNeg = 13 := by decide +kernel
theorem kc_15 : (15 : Int32).toNatClampNeg = 15 := by decide +kernel
theorem kc_17 : (17 : Int32).toNatClampNeg = 17 := by decide +kernel
theorem vi_0_3 : vp_in (0 : Int32) 3 := vp_of (by decide +kernel)
theorem vi_0_264 : vp_in (0 : Int32) 264 := vp_of (by decide +kernel)
theorem vi_1_3 : vp_in (1 : Int32) 3 := vp_of (by decide +kernel)
theorem vi_1_264 : vp_in (1 : Int32) 264 := vp_of (by decide +kernel)
theorem vi_2_3 : vp_in (2 : Int32) 3 := vp_of (by decide +kernel)
theorem vi_2_264 : vp_in (2 : Int32) 264 := vp_of (by decide +kernel)
theorem vi_4_264 : vp_in (4 : Int32) 264 := vp_of (by decide +kernel)
theorem vi_5_264 : vp_in (5 : Int32) 264 := vp_of (by decide +kernel)
theorem vi_6_264 : vp_in (6 : Int32) 264 := vp_of (by decide +kernel)
theorem vi_7_264 : vp_in (7 : Int32) 264 := vp_of (by decide +kernel)
theorem vi_8_264 : vp_in (8 : Int32) 264 := vp_of (by decide +kernel)
theorem vi_9_264 : vp_in (9 : Int32) 264 := vp_of (by decide +kernel)
theorem vi_13_264 : vp_in (13 : Int32) 264 := vp_of (by decide +kernel)
theorem vi_15_264 : vp_in (15 : Int32) 264 := vp_of (by decide +kernel)
theorem vi_17_264 : vp_in (17 : Int32) 264 := vp_of (by decide +kernel)
theorem fg_X9_7R {Z : Zt} {la : List CD} {cc : ByteArray} {n : Nat} {ret : Option FieldType} {d : Nat} {f : Fn} {lv : List (Nat × Value)} {pc q : Nat} {st : List Value} {k : Nat} {fl : List Nat} {p : Nat} (C : CX Z la RX9 cc n ret d) (hk : la[k]? = some (.inl (9, fl))) (hf : fl[0]? = some (p + 2)) (hd : decode cc pc = .ok (.getfield 7, 3)) (hq : pc + 3 = q) (g : GG Z f lv q (.ref (zad Z p) :: st)) : GG Z f lv pc (.ref (zad Z k) :: st) := g_get (T := TX9) (N := 26) C gwi9 rfl (by decide) rfl rfl rfl tw_794 hk hf hd hq (by rw [fvl_2]; exact g)
theorem fg_X9_16R {Z : Zt} {la : List CD} {cc : ByteArray} {n : Nat} {ret : Option FieldType} {d : Nat} {f : Fn} {lv : List (Nat × Value)} {pc q : Nat} {st : List Value} {k : Nat} {fl : List Nat} {p : Nat} (C : CX Z la RX9 cc n ret d) (hk : la[k]? = some (.inl (9, fl))) (hf : fl[3]? = some (p + 2)) (hd : decode cc pc = .ok (.getfield 16, 3)) (hq : pc + 3 = q) (g : GG Z f lv q (.ref (zad Z p) :: st)) : GG Z f lv pc (.ref (zad Z k) :: st) := g_get (T := TX9) (N := 26) C gwi9 rfl (by decide) rfl rfl rfl tw_797 hk hf hd hq (by rw [fvl_2]; exact g)
theorem fg_X9_19R {Z : Zt} {la : List CD} {cc : ByteArray} {n : Nat} {ret : Option FieldType} {d : Nat} {f : Fn} {lv : List (Nat × Value)} {pc q : Nat} {st : List Value} {k : Nat} {fl : List Nat} {p : Nat} (C : CX Z la RX9 cc n ret d) (hk : la[k]? = some (.inl (9, fl))) (hf : fl[9]? = some (p + 2)) (hd : decode cc pc = .ok (.getfield 19, 3)) (hq : pc + 3 = q) (g : GG Z f lv q (.ref (zad Z p) :: st)) : GG Z f lv pc (.ref (zad Z k) :: st) := g_get (T := TX9) (N := 26) C gwi9 rfl (by decide) rfl rfl rfl tw_803 hk hf hd hq (by rw [fvl_2]; exact g)
theorem fg_X9_22I {Z : Zt} {la : List CD} {cc : ByteArray} {n : Nat} {ret : Option FieldType} {d : Nat} {f : Fn} {lv : List (Nat × Value)} {pc q : Nat} {st : List Value} {k : Nat} {fl : List Nat} {x : Int32} (C : CX Z la RX9 cc n ret d) (hk : la[k]? = some (.inl (9, fl))) (hf : fl[10]? = some 0) (hx : f k 10 = x) (hd : decode cc pc = .ok (.getfield 22, 3)) (hq : pc + 3 = q) (g : GG Z f lv q (.int x :: st)) : GG Z f lv pc (.ref (zad Z k) :: st) := g_get (T := TX9) (N := 26) C gwi9 rfl (by decide) rfl rfl rfl tw_804 hk hf hd hq (by rw [fvl_0, hx]; exact g)
theorem fg_X9_26R {Z : Zt} {la : List CD} {cc : ByteArray} {n : Nat} {ret : Option FieldType} {d : Nat} {f : Fn} {lv : List (Nat × Value)} {pc q : Nat} {st : List Value} {k : Nat} {fl : List Nat} {p : Nat} (C : CX Z la RX9 cc n ret d) (hk : la[k]? = some (.inl (9, fl))) (hf : fl[18]? = some (p + 2)) (hd : decode cc pc = .ok (.getfield 26, 3)) (hq : pc + 3 = q) (g : GG Z f lv q (.ref (zad Z p) :: st)) : GG Z f lv pc (.ref (zad Z k) :: st) := g_get (T := TX9) (N := 26) C gwi9 rfl (by decide) rfl rfl rfl tw_812 hk hf hd hq (by rw [fvl_2]; exact g)
theorem fg_X9_49I {Z : Zt} {la : List CD} {cc : ByteArray} {n : Nat} {ret : Option FieldType} {d : Nat} {f : Fn} {lv : List (Nat × Value)} {pc q : Nat} {st : List Value} {k : Nat} {fl : List Nat} {x : Int32} (C : CX Z la RX9 cc n ret d) (hk : la[k]? = some (.inl (9, fl))) (hf : fl[5]? = some 0) (hx : f k 5 = x) (hd : decode cc pc = .ok (.getfield 49, 3)) (hq : pc + 3 = q) (g : GG Z f lv q (.int x :: st)) : GG Z f lv pc (.ref (zad Z k) :: st) := g_get (T := TX9) (N := 26) C gwi9 rfl (by decide) rfl rfl rfl tw_799 hk hf hd hq (by rw [fvl_0, hx]; exact g)
theorem fg_X9_52I {Z : Zt} {la : List CD} {cc : ByteArray} {n : Nat} {ret : Option FieldType} {d : Nat} {f : Fn} {lv : List (Nat × Value)} {pc q : Nat} {st : List Value} {k : Nat} {fl : List Nat} {x : Int32} (C : CX Z la RX9 cc n ret d) (hk : la[k]? = some (.inl (9, fl))) (hf : fl[6]? = some 0) (hx : f k 6 = x) (hd : decode cc pc = .ok (.getfield 52, 3)) (hq : pc + 3 = q) (g : GG Z f lv q (.int x :: st)) : GG Z f lv pc (.ref (zad Z k) :: st) := g_get (T := TX9) (N := 26) C gwi9 rfl (by decide) rfl rfl rfl tw_800 hk hf hd hq (by rw [fvl_0, hx]; exact g)
theorem fg_X9_55I {Z : Zt} {la : List CD} {cc : ByteArray} {n : Nat} {ret : Option FieldType} {d : Nat} {f : Fn} {lv : List (Nat × Value)} {pc q : Nat} {st : List Value} {k : Nat} {fl : List Nat} {x : Int32} (C : CX Z la RX9 cc n ret d) (hk : la[k]? = some (.inl (9, fl))) (hf : fl[7]? = some 0) (hx : f k 7 = x) (hd : decode cc pc = .ok (.getfield 55, 3)) (hq : pc + 3 = q) (g : GG Z f lv q (.int x :: st)) : GG Z f lv pc (.ref (zad Z k) :: st) := g_get (T := TX9) (N := 26) C gwi9 rfl (by decide) rfl rfl rfl tw_801 hk hf hd hq (by rw [fvl_0, hx]; exact g)
theorem fg_X9_58I {Z : Zt} {la : List CD} {cc : ByteArray} {n : Nat} {ret : Option FieldType} {d : Nat} {f : Fn} {lv : List (Nat × Value)} {pc q : Nat} {st : List Value} {k : Nat} {fl : List Nat} {x : Int32} (C : CX Z la RX9 cc n ret d) (hk : la[k]? = some (.inl (9, fl))) (hf : fl[4]? = some 0) (hx : f k 4 = x) (hd : decode cc pc = .ok (.getfield 58, 3)) (hq : pc + 3 = q) (g : GG Z f lv q (.int x :: st)) : GG Z f lv pc (.ref (zad Z k) :: st) := g_get (T := TX9) (N := 26) C gwi9 rfl (by decide) rfl rfl rfl tw_798 hk hf hd hq (by rw [fvl_0, hx]; exact g)
theorem fg_X9_84I {Z : Zt} {la : List CD} {cc : ByteArray} {n : Nat} {ret : Option FieldType} {d : Nat} {f : Fn} {lv : List (Nat × Value)} {pc q : Nat} {st : List Value} {k : Nat} {fl : List Nat} {x : Int32} (C : CX Z la RX9 cc n ret d) (hk : la[k]? = some (.inl (9, fl))) (hf : fl[8]? = some 0) (hx : f k 8 = x) (hd : decode cc pc = .ok (.getfield 84, 3)) (hq : pc + 3 = q) (g : GG Z f lv q (.int x :: st)) : GG Z f lv pc (.ref (zad Z k) :: st) := g_get (T := TX9) (N := 26) C gwi9 rfl (by decide) rfl rfl rfl tw_802 hk hf hd hq (by rw [fvl_0, hx]; exact g)
theorem fg_X9_172I {Z : Zt} {la : List CD} {cc : ByteArray} {n : Nat} {ret : Option FieldType} {d : Nat} {f : Fn} {lv : List (Nat × Value)} {pc q : Nat} {st : List Value} {k : Nat} {fl : List Nat} {x : Int32} (C : CX Z la RX9 cc n ret d) (hk : la[k]? = some (.inl (9, fl))) (hf : fl[11]? = some 0) (hx : f k 11 = x) (hd : decode cc pc = .ok (.getfield 172, 3)) (hq : pc + 3 = q) (g : GG Z f lv q (.int x :: st)) : GG Z f lv pc (.ref (zad Z k) :: st) := g_get (T := TX9) (N := 26) C gwi9 rfl (by decide) rfl rfl rfl tw_805 hk hf hd hq (by rw [fvl_0, hx]; exact g)
theorem fg_X9_175I {Z : Zt} {la : List CD} {cc : ByteArray} {n : Nat} {ret : Option FieldType} {d : Nat} {f : Fn} {lv : List (Nat × Value)} {pc q : Nat} {st : List Value} {k : Nat} {fl : List Nat} {x : Int32} (C : CX Z la RX9 cc n ret d) (hk : la[k]? = some (.inl (9, fl))) (hf : fl[12]? = some 0) (hx : f k 12 = x) (hd : decode cc pc = .ok (.getfield 175, 3)) (hq : pc + 3 = q) (g : GG Z f lv q (.int x :: st)) : GG Z f lv pc (.ref (zad Z k) :: st) := g_get (T := TX9) (N := 26) C gwi9 rfl (by decide) rfl rfl rfl tw_806 hk hf hd hq (by rw [fvl_0, hx]; exact g)
theorem fg_X9_211I {Z : Zt} {la : List CD} {cc : ByteArray} {n : Nat} {ret : Option FieldType} {d : Nat} {f : Fn} {lv : List (Nat × Value)} {pc q : Nat} {st : List Value} {k : Nat} {fl : List Nat} {x : Int32} (C : CX Z la RX9 cc n ret d) (hk : la[k]? = some (.inl (9, fl))) (hf : fl[13]? = some 0) (hx : f k 13 = x) (hd : decode cc pc = .ok (.getfield 211, 3)) (hq : pc + 3 = q) (g : GG Z f lv q (.int x :: st)) : GG Z f lv pc (.ref (zad Z k) :: st) := g_get (T := TX9) (N := 26) C gwi9 rfl (by decide) rfl rfl rfl tw_807 hk hf hd hq (by rw [fvl_0, hx]; exact g)
theorem fg_X9_214I {Z : Zt} {la : List CD} {cc : ByteArray} {n : Nat} {ret : Option FieldType} {d : Nat} {f : Fn} {lv : List (Nat × Value)} {pc q : Nat} {st : List Value} {k : Nat} {fl : List Nat} {x : Int32} (C : CX Z la RX9 cc n ret d) (hk : la[k]? = some (.inl (9, fl))) (hf : fl[14]? = some 0) (hx : f k 14 = x) (hd : decode cc pc = .ok (.getfield 214, 3)) (hq : pc + 3 = q) (g : GG Z f lv q (.int x :: st)) : GG Z f lv pc (.ref (zad Z k) :: st) := g_get (T := TX9) (N := 26) C gwi9 rfl (by decide) rfl rfl rfl tw_808 hk hf hd hq (by rw [fvl_0, hx]; exact g)
theorem fg_X9_243I {Z : Zt} {la : List CD} {cc : ByteArray} {n : Nat} {ret : Option FieldType} {d : Nat} {f : Fn} {lv : List (Nat × Value)} {pc q : Nat} {st : List Value} {k : Nat} {fl : List Nat} {x : Int32} (C : CX Z la RX9 cc n ret d) (hk : la[k]? = some (.inl (9, fl))) (hf : fl[17]? = some 0) (hx : f k 17 = x) (hd : decode cc pc = .ok (.getfield 243, 3)) (hq : pc + 3 = q) (g : GG Z f lv q (.int x :: st)) : GG Z f lv pc (.ref (zad Z k) :: st) := g_get (T := TX9) (N := 26) C gwi9 rfl (by decide) rfl rfl rfl tw_811 hk hf hd hq (by rw [fvl_0, hx]; exact g)
theorem fg_X9_248L {Z : Zt} {la : List CD} {cc : ByteArray} {n : Nat} {ret : Option FieldType} {d : Nat} {f : Fn} {lv : List (Nat × Value)} {pc q : Nat} {st : List Value} {k : Nat} {fl : List Nat} (C : CX Z la RX9 cc n ret d) (hk : la[k]? = some (.inl (9, fl))) (hf : fl[16]? = some 1) (hd : decode cc pc = .ok (.getfield 248, 3)) (hq : pc + 3 = q) (g : GG Z f lv q (.long (mk64 (f k 16) (f k 116)) :: st)) : GG Z f lv pc (.ref (zad Z k) :: st) := g_get (T := TX9) (N := 26) C gwi9 rfl (by decide) rfl rfl rfl tw_810 hk hf hd hq (by rw [fvl_1]; exact g)
theorem fg_X9_259I {Z : Zt} {la : List CD} {cc : ByteArray} {n : Nat} {ret : Option FieldType} {d : Nat} {f : Fn} {lv : List (Nat × Value)} {pc q : Nat} {st : List Value} {k : Nat} {fl : List Nat} {x : Int32} (C : CX Z la RX9 cc n ret d) (hk : la[k]? = some (.inl (9, fl))) (hf : fl[15]? = some 0) (hx : f k 15 = x) (hd : decode cc pc = .ok (.getfield 259, 3)) (hq : pc + 3 = q) (g : GG Z f lv q (.int x :: st)) : GG Z f lv pc (.ref (zad Z k) :: st) := g_get (T := TX9) (N := 26) C gwi9 rfl (by decide) rfl rfl rfl tw_809 hk hf hd hq (by rw [fvl_0, hx]; exact g)
theorem fp_X9_49 {Z : Zt} {la : List CD} {cc : ByteArray} {n : Nat} {ret : Option FieldType} {d : Nat} {f : Fn} {lv : List (Nat × Value)} {pc q : Nat} {st : List Value} {k : Nat} {fl : List Nat} {v : Int32} (C : CX Z la RX9 cc n ret d) (hk : la[k]? = some (.inl (9, fl))) (hf : fl[5]? = some 0) (hlen : fl.length ≤ 100) (hd : decode cc pc = .ok (.putfield 49, 3)) (hq : pc + 3 = q) (g : GG Z (up2 f k 5 v) lv q st) : GG Z f lv pc (.int v :: .ref (zad Z k) :: st) := g_put (T := TX9) (N := 26) (j := 5) C gwi9 tyX9_ok nmX9 rfl (by decide) rfl rfl rfl rfl tw_799 rfl rfl hk hf hlen hd hq g
theorem fp_X9_52 {Z : Zt} {la : List CD} {cc : ByteArray} {n : Nat} {ret : Option FieldType} {d : Nat} {f : Fn} {lv : List (Nat × Value)} {pc q : Nat} {st : List Value} {k : Nat} {fl : List Nat} {v : Int32} (C : CX Z la RX9 cc n ret d) (hk : la[k]? = some (.inl (9, fl))) (hf : fl[6]? = some 0) (hlen : fl.length ≤ 100) (hd : decode cc pc = .ok (.putfield 52, 3)) (hq : pc + 3 = q) (g : GG Z (up2 f k 6 v) lv q st) : GG Z f lv pc (.int v :: .ref (zad Z k) :: st) := g_put (T := TX9) (N := 26) (j := 6) C gwi9 tyX9_ok nmX9 rfl (by decide) rfl rfl rfl rfl tw_800 rfl rfl hk hf hlen hd hq g
theorem fp_X9_55 {Z : Zt} {la : List CD} {cc : ByteArray} {n : Nat} {ret : Option FieldType} {d : Nat} {f : Fn} {lv : List (Nat × Value)} {pc q : Nat} {st : List Value} {k : Nat} {fl : List Nat} {v : Int32} (C : CX Z la RX9 cc n ret d) (hk : la[k]? = some (.inl (9, fl))) (hf : fl[7]? = some 0) (hlen : fl.length ≤ 100) (hd : decode cc pc = .ok (.putfield 55, 3)) (hq : pc + 3 = q) (g : GG Z (up2 f k 7 v) lv q st) : GG Z f lv pc (.int v :: .ref (zad Z k) :: st) := g_put (T := TX9) (N := 26) (j := 7) C gwi9 tyX9_ok nmX9 rfl (by decide) rfl rfl rfl rfl tw_801 rfl rfl hk hf hlen hd hq g
theorem fp_X9_58 {Z : Zt} {la : List CD} {cc : ByteArray} {n : Nat} {ret : Option FieldType} {d : Nat} {f : Fn} {lv : List (Nat × Value)} {pc q : Nat} {st : List Value} {k : Nat} {fl : List Nat} {v : Int32} (C : CX Z la RX9 cc n ret d) (hk : la[k]? = some (.inl (9, fl))) (hf : fl[4]? = some 0) (hlen : fl.length ≤ 100) (hd : decode cc pc = .ok (.putfield 58, 3)) (hq : pc + 3 = q) (g : GG Z (up2 f k 4 v) lv q st) : GG Z f lv pc (.int v :: .ref (zad Z k) :: st) := g_put (T := TX9) (N := 26) (j := 4) C gwi9 tyX9_ok nmX9 rfl (by decide) rfl rfl rfl rfl tw_798 rfl rfl hk hf hlen hd hq g
theorem fp_X9_84 {Z : Zt} {la : List CD} {cc : ByteArray} {n : Nat} {ret : Option FieldType} {d : Nat} {f : Fn} {lv : List (Nat × Value)} {pc q : Nat} {st : List Value} {k : Nat} {fl : List Nat} {v : Int32} (C : CX Z la RX9 cc n ret d) (hk : la[k]? = some (.inl (9, fl))) (hf : fl[8]? = some 0) (hlen : fl.length ≤ 100) (hd : decode cc pc = .ok (.putfield 84, 3)) (hq : pc + 3 = q) (g : GG Z (up2 f k 8 v) lv q st) : GG Z f lv pc (.int v :: .ref (zad Z k) :: st) := g_put (T := TX9) (N := 26) (j := 8) C gwi9 tyX9_ok nmX9 rfl (by decide) rfl rfl rfl rfl tw_802 rfl rfl hk hf hlen hd hq g
theorem fp_X9_172 {Z : Zt} {la : List CD} {cc : ByteArray} {n : Nat} {ret : Option FieldType} {d : Nat} {f : Fn} {lv : List (Nat × Value)} {pc q : Nat} {st : List Value} {k : Nat} {fl : List Nat} {v : Int32} (C : CX Z la RX9 cc n ret d) (hk : la[k]? = some (.inl (9, fl))) (hf : fl[11]? = some 0) (hlen : fl.length ≤ 100) (hd : decode cc pc = .ok (.putfield 172, 3)) (hq : pc + 3 = q) (g : GG Z (up2 f k 11 v) lv q st) : GG Z f lv pc (.int v :: .ref (zad Z k) :: st) := g_put (T := TX9) (N := 26) (j := 11) C gwi9 tyX9_ok nmX9 rfl (by decide) rfl rfl rfl rfl tw_805 rfl rfl hk hf hlen hd hq g
theorem fp_X9_175 {Z : Zt} {la : List CD} {cc : ByteArray} {n : Nat} {ret : Option FieldType} {d : Nat} {f : Fn} {lv : List (Nat × Value)} {pc q : Nat} {st : List Value} {k : Nat} {fl : List Nat} {v : Int32} (C : CX Z la RX9 cc n ret d) (hk : la[k]? = some (.inl (9, fl))) (hf : fl[12]? = some 0) (hlen : fl.length ≤ 100) (hd : decode cc pc = .ok (.putfield 175, 3)) (hq : pc + 3 = q) (g : GG Z (up2 f k 12 v) lv q st) : GG Z f lv pc (.int v :: .ref (zad Z k) :: st) := g_put (T := TX9) (N := 26) (j := 12) C gwi9 tyX9_ok nmX9 rfl (by decide) rfl rfl rfl rfl tw_806 rfl rfl hk hf hlen hd hq g
theorem fp_X9_211 {Z : Zt} {la : List CD} {cc : ByteArray} {n : Nat} {ret : Option FieldType} {d : Nat} {f : Fn} {lv : List (Nat × Value)} {pc q : Nat} {st : List Value} {k : Nat} {fl : List Nat} {v : Int32} (C : CX Z la RX9 cc n ret d) (hk : la[k]? = some (.inl (9, fl))) (hf : fl[13]? = some 0) (hlen : fl.length ≤ 100) (hd : decode cc pc = .ok (.putfield 211, 3)) (hq : pc + 3 = q) (g : GG Z (up2 f k 13 v) lv q st) : GG Z f lv pc (.int v :: .ref (zad Z k) :: st) := g_put (T := TX9) (N := 26) (j := 13) C gwi9 tyX9_ok nmX9 rfl (by decide) rfl rfl rfl rfl tw_807 rfl rfl hk hf hlen hd hq g
theorem fp_X9_214 {Z : Zt} {la : List CD} {cc : ByteArray} {n : Nat} {ret : Option FieldType} {d : Nat} {f : Fn} {lv : List (Nat × Value)} {pc q : Nat} {st : List Value} {k : Nat} {fl : List Nat} {v : Int32} (C : CX Z la RX9 cc n ret d) (hk : la[k]? = some (.inl (9, fl))) (hf : fl[14]? = some 0) (hlen : fl.length ≤ 100) (hd : decode cc pc = .ok (.putfield 214, 3)) (hq : pc + 3 = q) (g : GG Z (up2 f k 14 v) lv q st) : GG Z f lv pc (.int v :: .ref (zad Z k) :: st) := g_put (T := TX9) (N := 26) (j := 14) C gwi9 tyX9_ok nmX9 rfl (by decide) rfl rfl rfl rfl tw_808 rfl rfl hk hf hlen hd hq g
theorem fp_X9_243 {Z : Zt} {la : List CD} {cc : ByteArray} {n : Nat} {ret : Option FieldType} {d : Nat} {f : Fn} {lv : List (Nat × Value)} {pc q : Nat} {st : List Value} {k : Nat} {fl : List Nat} {v : Int32} (C : CX Z la RX9 cc n ret d) (hk : la[k]? = some (.inl (9, fl))) (hf : fl[17]? = some 0) (hlen : fl.length ≤ 100) (hd : decode cc pc = .ok (.putfield 243, 3)) (hq : pc + 3 = q) (g : GG Z (up2 f k 17 v) lv q st) : GG Z f lv pc (.int v :: .ref (zad Z k) :: st) := g_put (T := TX9) (N := 26) (j := 17) C gwi9 tyX9_ok nmX9 rfl (by decide) rfl rfl rfl rfl tw_811 rfl rfl hk hf hlen hd hq g
theorem fp_X9_248 {Z : Zt} {la : List CD} {cc : ByteArray} {n : Nat} {ret : Option FieldType} {d : Nat} {f : Fn} {lv : List (Nat × Value)} {pc q : Nat} {st : List Value} {k : Nat} {fl : List Nat} {v : Int64} (C : CX Z la RX9 cc n ret d) (hk : la[k]? = some (.inl (9, fl))) (hf : fl[16]? = some 1) (hone : (List.range fl.length).all (fun i => !(fl[i]? == some 1) || i == 16) = true ∧ fl.length ≤ 100) (hd : decode cc pc = .ok (.putfield 248, 3)) (hq : pc + 3 = q) (g : GG Z (up2 (up2 f k 16 (hi64 v)) k 116 (lo64 v)) lv q st) : GG Z f lv pc (.long v :: .ref (zad Z k) :: st) := g_putL (T := TX9) (N := 26) (j := 16) C gwi9 tyX9_ok nmX9 rfl (by decide) rfl rfl rfl rfl tw_810 rfl hk hf (one_of hone.1) hone.2 hd hq g
theorem fp_X9_259 {Z : Zt} {la : List CD} {cc : ByteArray} {n : Nat} {ret : Option FieldType} {d : Nat} {f : Fn} {lv : List (Nat × Value)} {pc q : Nat} {st : List Value} {k : Nat} {fl : List Nat} {v : Int32} (C : CX Z la RX9 cc n ret d) (hk : la[k]? = some (.inl (9, fl))) (hf : fl[15]? = some 0) (hlen : fl.length ≤ 100) (hd : decode cc pc = .ok (.putfield 259, 3)) (hq : pc + 3 = q) (g : GG Z (up2 f k 15 v) lv q st) : GG Z f lv pc (.int v :: .ref (zad Z k) :: st) := g_put (T := TX9) (N := 26) (j := 15) C gwi9 tyX9_ok nmX9 rfl (by decide) rfl rfl rfl rfl tw_809 rfl rfl hk hf hlen hd hq g
theorem hy_X9_above : yX9_above.cls ≠ "java/lang/invoke/MethodHandle" ∧ yX9_above.cls ≠ "java/lang/invoke/VarHandle" ∧ (parseMethodDescriptor yX9_above.desc).map (fun d => d.parameters.length) = some 1 := by decide +kernel
theorem hy_X9_barOf : yX9_barOf.cls ≠ "java/lang/invoke/MethodHandle" ∧ yX9_barOf.cls ≠ "java/lang/invoke/VarHandle" ∧ (parseMethodDescriptor yX9_barOf.desc).map (fun d => d.parameters.length) = some 2 := by decide +kernel
theorem hy_X9_both : yX9_both.cls ≠ "java/lang/invoke/MethodHandle" ∧ yX9_both.cls ≠ "java/lang/invoke/VarHandle" ∧ (parseMethodDescriptor yX9_both.desc).map (fun d => d.parameters.length) = some 0 := by decide +kernel
theorem hy_X9_casesAt : yX9_casesAt.cls ≠ "java/lang/invoke/MethodHandle" ∧ yX9_casesAt.cls ≠ "java/lang/invoke/VarHandle" ∧ (parseMethodDescriptor yX9_casesAt.desc).map (fun d => d.parameters.length) = some 2 := by decide +kernel
theorem hy_X9_catcherAt : yX9_catcherAt.cls ≠ "java/lang/invoke/MethodHandle" ∧ yX9_catcherAt.cls ≠ "java/lang/invoke/VarHandle" ∧ (parseMethodDescriptor yX9_catcherAt.desc).map (fun d => d.parameters.length) = some 1 := by decide +kernel
theorem hy_X9_common : yX9_common.cls ≠ "java/lang/invoke/MethodHandle" ∧ yX9_common.cls ≠ "java/lang/invoke/VarHandle" ∧ (parseMethodDescriptor yX9_common.desc).map (fun d => d.parameters.length) = some 2 := by decide +kernel
theorem hy_X9_compared : yX9_compared.cls ≠ "java/lang/invoke/MethodHandle" ∧ yX9_compared.cls ≠ "java/lang/invoke/VarHandle" ∧ (parseMethodDescriptor yX9_compared.desc).map (fun d => d.parameters.length) = some 0 := by decide +kernel
theorem hy_X9_drawn : yX9_drawn.cls ≠ "java/lang/invoke/MethodHandle" ∧ yX9_drawn.cls ≠ "java/lang/invoke/VarHandle" ∧ (parseMethodDescriptor yX9_drawn.desc).map (fun d => d.parameters.length) = some 0 := by decide +kernel
theorem hy_X9_either : yX9_either.cls ≠ "java/lang/invoke/MethodHandle" ∧ yX9_either.cls ≠ "java/lang/invoke/VarHandle" ∧ (parseMethodDescriptor yX9_either.desc).map (fun d => d.parameters.length) = some 0 := by decide +kernel
theorem hy_X9_fallHarm : yX9_fallHarm.cls ≠ "java/lang/invoke/MethodHandle" ∧ yX9_fallHarm.cls ≠ "java/lang/invoke/VarHandle" ∧ (parseMethodDescriptor yX9_fallHarm.desc).map (fun d => d.parameters.length) = some 2 := by decide +kernel
theorem hy_X9_findCan : yX9_findCan.cls ≠ "java/lang/invoke/MethodHandle" ∧ yX9_findCan.cls ≠ "java/lang/invoke/VarHandle" ∧ (parseMethodDescriptor yX9_findCan.desc).map (fun d => d.parameters.length) = some 2 := by decide +kernel
theorem hy_X9_findFalls : yX9_findFalls.cls ≠ "java/lang/invoke/MethodHandle" ∧ yX9_findFalls.cls ≠ "java/lang/invoke/VarHandle" ∧ (parseMethodDescriptor yX9_findFalls.desc).map (fun d => d.parameters.length) = some 2 := by decide +kernel
theorem hy_X9_finds : yX9_finds.cls ≠ "java/lang/invoke/MethodHandle" ∧ yX9_finds.cls ≠ "java/lang/invoke/VarHandle" ∧ (parseMethodDescriptor yX9_finds.desc).map (fun d => d.parameters.length) = some 1 := by decide +kernel
theorem hy_X9_goes : yX9_goes.cls ≠ "java/lang/invoke/MethodHandle" ∧ yX9_goes.cls ≠ "java/lang/invoke/VarHandle" ∧ (parseMethodDescriptor yX9_goes.desc).map (fun d => d.parameters.length) = some 2 := by decide +kernel
theorem hy_X9_harmBy : yX9_harmBy.cls ≠ "java/lang/invoke/MethodHandle" ∧ yX9_harmBy.cls ≠ "java/lang/invoke/VarHandle" ∧ (parseMethodDescriptor yX9_harmBy.desc).map (fun d => d.parameters.length) = some 2 := by decide +kernel
theorem hy_X9_harmOf : yX9_harmOf.cls ≠ "java/lang/invoke/MethodHandle" ∧ yX9_harmOf.cls ≠ "java/lang/invoke/VarHandle" ∧ (parseMethodDescriptor yX9_harmOf.desc).map (fun d => d.parameters.length) = some 2 := by decide +kernel
theorem hy_X9_hasNext : yX9_hasNext.cls ≠ "java/lang/invoke/MethodHandle" ∧ yX9_hasNext.cls ≠ "java/lang/invoke/VarHandle" ∧ (parseMethodDescriptor yX9_hasNext.desc).map (fun d => d.parameters.length) = some 2 := by decide +kernel
theorem hy_X9_held : yX9_held.cls ≠ "java/lang/invoke/MethodHandle" ∧ yX9_held.cls ≠ "java/lang/invoke/VarHandle" ∧ (parseMethodDescriptor yX9_held.desc).map (fun d => d.parameters.length) = some 3 := by decide +kernel
theorem hy_X9_here : yX9_here.cls ≠ "java/lang/invoke/MethodHandle" ∧ yX9_here.cls ≠ "java/lang/invoke/VarHandle" ∧ (parseMethodDescriptor yX9_here.desc).map (fun d => d.parameters.length) = some 0 := by decide +kernel
theorem hy_X9_holdsOf : yX9_holdsOf.cls ≠ "java/lang/invoke/MethodHandle" ∧ yX9_holdsOf.cls ≠ "java/lang/invoke/VarHandle" ∧ (parseMethodDescriptor yX9_holdsOf.desc).map (fun d => d.parameters.length) = some 1 := by decide +kernel
theorem hy_X9_in : yX9_in.cls ≠ "java/lang/invoke/MethodHandle" ∧ yX9_in.cls ≠ "java/lang/invoke/VarHandle" ∧ (parseMethodDescriptor yX9_in.desc).map (fun d => d.parameters.length) = some 3 := by decide +kernel
theorem hy_X9_isCaught : yX9_isCaught.cls ≠ "java/lang/invoke/MethodHandle" ∧ yX9_isCaught.cls ≠ "java/lang/invoke/VarHandle" ∧ (parseMethodDescriptor yX9_isCaught.desc).map (fun d => d.parameters.length) = some 1 := by decide +kernel
theorem hy_X9_isFlyer : yX9_isFlyer.cls ≠ "java/lang/invoke/MethodHandle" ∧ yX9_isFlyer.cls ≠ "java/lang/invoke/VarHandle" ∧ (parseMethodDescriptor yX9_isFlyer.desc).map (fun d => d.parameters.length) = some 1 := by decide +kernel
theorem hy_X9_isSoon : yX9_isSoon.cls ≠ "java/lang/invoke/MethodHandle" ∧ yX9_isSoon.cls ≠ "java/lang/invoke/VarHandle" ∧ (parseMethodDescriptor yX9_isSoon.desc).map (fun d => d.parameters.length) = some 1 := by decide +kernel
theorem hy_X9_isSpan : yX9_isSpan.cls ≠ "java/lang/invoke/MethodHandle" ∧ yX9_isSpan.cls ≠ "java/lang/invoke/VarHandle" ∧ (parseMethodDescriptor yX9_isSpan.desc).map (fun d => d.parameters.length) = some 1 := by decide +kernel
theorem hy_X9_isSwing : yX9_isSwing.cls ≠ "java/lang/invoke/MethodHandle" ∧ yX9_isSwing.cls ≠ "java/lang/invoke/VarHandle" ∧ (parseMethodDescriptor yX9_isSwing.desc).map (fun d => d.parameters.length) = some 1 := by decide +kernel
theorem hy_X9_isTold : yX9_isTold.cls ≠ "java/lang/invoke/MethodHandle" ∧ yX9_isTold.cls ≠ "java/lang/invoke/VarHandle" ∧ (parseMethodDescriptor yX9_isTold.desc).map (fun d => d.parameters.length) = some 2 := by decide +kernel
theorem hy_X9_lagOf : yX9_lagOf.cls ≠ "java/lang/invoke/MethodHandle" ∧ yX9_lagOf.cls ≠ "java/lang/invoke/VarHandle" ∧ (parseMethodDescriptor yX9_lagOf.desc).map (fun d => d.parameters.length) = some 1 := by decide +kernel
theorem hy_X9_letsGo : yX9_letsGo.cls ≠ "java/lang/invoke/MethodHandle" ∧ yX9_letsGo.cls ≠ "java/lang/invoke/VarHandle" ∧ (parseMethodDescriptor yX9_letsGo.desc).map (fun d => d.parameters.length) = some 2 := by decide +kernel
theorem hy_X9_nameOf : yX9_nameOf.cls ≠ "java/lang/invoke/MethodHandle" ∧ yX9_nameOf.cls ≠ "java/lang/invoke/VarHandle" ∧ (parseMethodDescriptor yX9_nameOf.desc).map (fun d => d.parameters.length) = some 1 := by decide +kernel
theorem hy_X9_of : yX9_of.cls ≠ "java/lang/invoke/MethodHandle" ∧ yX9_of.cls ≠ "java/lang/invoke/VarHandle" ∧ (parseMethodDescriptor yX9_of.desc).map (fun d => d.parameters.length) = some 2 := by decide +kernel
theorem hy_X9_offNow : yX9_offNow.cls ≠ "java/lang/invoke/MethodHandle" ∧ yX9_offNow.cls ≠ "java/lang/invoke/VarHandle" ∧ (parseMethodDescriptor yX9_offNow.desc).map (fun d => d.parameters.length) = some 0 := by decide +kernel
theorem hy_X9_product : yX9_product.cls ≠ "java/lang/invoke/MethodHandle" ∧ yX9_product.cls ≠ "java/lang/invoke/VarHandle" ∧ (parseMethodDescriptor yX9_product.desc).map (fun d => d.parameters.length) = some 0 := by decide +kernel
theorem hy_X9_sets : yX9_sets.cls ≠ "java/lang/invoke/MethodHandle" ∧ yX9_sets.cls ≠ "java/lang/invoke/VarHandle" ∧ (parseMethodDescriptor yX9_sets.desc).map (fun d => d.parameters.length) = some 3 := by decide +kernel
theorem hy_X9_size0 : yX9_size0.cls ≠ "java/lang/invoke/MethodHandle" ∧ yX9_size0.cls ≠ "java/lang/invoke/VarHandle" ∧ (parseMethodDescriptor yX9_size0.desc).map (fun d => d.parameters.length) = some 1 := by decide +kernel
theorem hy_X9_sum : yX9_sum.cls ≠ "java/lang/invoke/MethodHandle" ∧ yX9_sum.cls ≠ "java/lang/invoke/VarHandle" ∧ (parseMethodDescriptor yX9_sum.desc).map (fun d => d.parameters.length) = some 0 := by decide +kernel
theorem hy_X9_surestOf : yX9_surestOf.cls ≠ "java/lang/invoke/MethodHandle" ∧ yX9_surestOf.cls ≠ "java/lang/invoke/VarHandle" ∧ (parseMethodDescriptor yX9_surestOf.desc).map (fun d => d.parameters.length) = some 2 := by decide +kernel
theorem hy_X9_takes : yX9_takes.cls ≠ "java/lang/invoke/MethodHandle" ∧ yX9_takes.cls ≠ "java/lang/invoke/VarHandle" ∧ (parseMethodDescriptor yX9_takes.desc).map (fun d => d.parameters.length) = some 1 := by decide +kernel
theorem hy_X9_textGives : yX9_textGives.cls ≠ "java/lang/invoke/MethodHandle" ∧ yX9_textGives.cls ≠ "java/lang/invoke/VarHandle" ∧ (parseMethodDescriptor yX9_textGives.desc).map (fun d => d.parameters.length) = some 4 := by decide +kernel
theorem hy_X9_unit : yX9_unit.cls ≠ "java/lang/invoke/MethodHandle" ∧ yX9_unit.cls ≠ "java/lang/invoke/VarHandle" ∧ (parseMethodDescriptor yX9_unit.desc).map (fun d => d.parameters.length) = some 0 := by decide +kernel
theorem hy_X9_worked : yX9_worked.cls ≠ "java/lang/invoke/MethodHandle" ∧ yX9_worked.cls ≠ "java/lang/invoke/VarHandle" ∧ (parseMethodDescriptor yX9_worked.desc).map (fun d => d.parameters.length) = some 3 := by decide +kernel
theorem hy_X9_wrong : yX9_wrong.cls ≠ "java/lang/invoke/MethodHandle" ∧ yX9_wrong.cls ≠ "java/lang/invoke/VarHandle" ∧ (parseMethodDescriptor yX9_wrong.desc).map (fun d => d.parameters.length) = some 0 := by decide +kernel
set_option maxHeartbeats 4000000 in
set_option maxRecDepth 100000 in
theorem wk_X9_finds (V_l1 : VC_l1) (V_l2 : VC_l2) (V_m1 : VC_m1) {Z : Zt}  (C : CX Z layM RX9 cX9_finds 2 (some .int) 0)     (f : Fn) (a1 : Int32) (h : wp_X9_finds  f a1 (zp Z)) : GG Z f [(0, .ref (zad Z 0)), (1, .int a1)] 0 [] := by
  refine g_aload_n C rfl dX9_finds_0 rfl ?_
  refine fg_X9_16R (k := 0) (p := 3) C rfl rfl dX9_finds_1 rfl ?_
  refine g_iload_n C rfl dX9_finds_4 rfl ?_
  refine g_dup2 C rfl rfl dX9_finds_5 rfl ?_
  have hs1 := h.1
  replace h := h.2
  refine g_ialdx (k := 3) (j := a1.toNatClampNeg) (x := (f 3 a1.toNatClampNeg)) C rfl hs1 rfl rfl dX9_finds_6 rfl ?_
  refine g_iconst C ki_1 dX9_finds_7 rfl ?_
  refine g_iadd C dX9_finds_8 rfl ?_
  have hs2 := h.1
  replace h := h.2
  refine g_iastx (k := 3) (j := a1.toNatClampNeg) C rfl hs2 rfl dX9_finds_9 rfl ?_
  refine g_ldc C tw_885 dX9_finds_10 rfl ?_
  refine g_iload_n C rfl dX9_finds_12 rfl ?_
  refine g_isub C dX9_finds_13 rfl ?_
  exact g_iret C dX9_finds_14 h
set_option maxRecDepth 100000 in
theorem ct_X9_finds (V_l1 : VC_l1) (V_l2 : VC_l2) (V_m1 : VC_m1) {l : Launch} {E : Ev}   (f : Fn) (a1 : Int32) (hpre : Pre_X9_finds f a1) : CT l E layM yX9_finds cX9_finds 2 (some .int) 0 [.ref (E.2.1 0), .int a1] f (pI (Post_X9_finds f a1)) := by
  refine CT.of (by decide +kernel) (Nat.le_of_ble_eq_true rfl) (fun Z hl9 hE9 hp9 C => ?_)
  subst hl9
  subst hE9
  exact wk_X9_finds V_l1 V_l2 V_m1 C   f a1 (by rw [hp9]; exact V_m1.1  f a1  hpre)
set_option maxHeartbeats 4000000 in
set_option maxRecDepth 100000 in
theorem wk_X9_in (V_l1 : VC_l1) (V_l2 : VC_l2) (V_m1 : VC_m1) {Z : Zt}  (C : CX Z layM RX9 cX9_in 6 (some .boolean) 0)     (f : Fn) (a1 : Int64) (a2 : Int64) (a3 : Int64) (h : wp_X9_in  f a1 a2 a3 (zp Z)) : GG Z f [(0, .long a1), (2, .long a2), (4, .long a3)] 0 [] := by
  refine g_lload_n C rfl dX9_in_0 rfl ?_
  refine g_lload_n C rfl dX9_in_1 rfl ?_
  refine g_lcmp C dX9_in_2 rfl ?_
  refine g_if_lt (tgt := 17) C dX9_in_3 (by decide) rfl (fun hc1 => ?_) (fun hc1 => ?_)
  · replace h := h.1 hc1
    refine g_iconst C ki_0 dX9_in_17 rfl ?_
    exact g_zret C (Or.inl rfl) dX9_in_18 h
  · replace h := h.2 hc1
    refine g_lload_n C rfl dX9_in_6 rfl ?_
    refine g_lload C rfl dX9_in_7 rfl ?_
    refine g_lcmp C dX9_in_9 rfl ?_
    refine g_if_gt (tgt := 17) C dX9_in_10 (by decide) rfl (fun hc2 => ?_) (fun hc2 => ?_)
    · replace h := h.1 hc2
      refine g_iconst C ki_0 dX9_in_17 rfl ?_
      exact g_zret C (Or.inl rfl) dX9_in_18 h
    · replace h := h.2 hc2
      refine g_iconst C ki_1 dX9_in_13 rfl ?_
      refine g_goto (q := 18) C dX9_in_14 (by decide) ?_
      exact g_zret C (Or.inr rfl) dX9_in_18 h
set_option maxRecDepth 100000 in
theorem ct_X9_in (V_l1 : VC_l1) (V_l2 : VC_l2) (V_m1 : VC_m1) {l : Launch} {E : Ev}   (f : Fn) (a1 : Int64) (a2 : Int64) (a3 : Int64)  : CT l E layM yX9_in cX9_in 6 (some .boolean) 0 [.long a1, .long a2, .long a3] f (pI (fun r9 f9 => r9 = Val_X9_in f a1 a2 a3 ∧ f9 = f)) := by
  refine CT.of (by decide +kernel) (Nat.le_of_ble_eq_true rfl) (fun Z hl9 hE9 hp9 C => ?_)
  subst hl9
  subst hE9
  exact wk_X9_in V_l1 V_l2 V_m1 C   f a1 a2 a3 (by rw [hp9]; exact V_m1.2.1  f a1 a2 a3  )
set_option maxHeartbeats 4000000 in
set_option maxRecDepth 100000 in
theorem wk_X9_held (V_l1 : VC_l1) (V_l2 : VC_l2) (V_m1 : VC_m1) {Z : Zt}  (C : CX Z layM RX9 cX9_held 3 (some .int) 0)     (f : Fn) (a1 : Int32) (a2 : Int32) (a3 : Int32) (h : wp_X9_held  f a1 a2 a3 (zp Z)) : GG Z f [(0, .int a1), (1, .int a2), (2, .int a3)] 0 [] := by
  refine g_iload_n C rfl dX9_held_0 rfl ?_
  refine g_iload_n C rfl dX9_held_1 rfl ?_
  refine g_icmp_ge (tgt := 9) C dX9_held_2 (by decide) rfl (fun hc1 => ?_) (fun hc1 => ?_)
  · replace h := h.1 hc1
    refine g_iload_n C rfl dX9_held_9 rfl ?_
    refine g_iload_n C rfl dX9_held_10 rfl ?_
    refine g_icmp_le (tgt := 18) C dX9_held_11 (by decide) rfl (fun hc2 => ?_) (fun hc2 => ?_)
    · replace h := h.1 hc2
      refine g_iload_n C rfl dX9_held_18 rfl ?_
      exact g_iret C dX9_held_19 h
    · replace h := h.2 hc2
      refine g_iload_n C rfl dX9_held_14 rfl ?_
      refine g_goto (q := 19) C dX9_held_15 (by decide) ?_
      exact g_iret C dX9_held_19 h
  · replace h := h.2 hc1
    refine g_iload_n C rfl dX9_held_5 rfl ?_
    refine g_goto (q := 19) C dX9_held_6 (by decide) ?_
    exact g_iret C dX9_held_19 h
set_option maxRecDepth 100000 in
theorem ct_X9_held (V_l1 : VC_l1) (V_l2 : VC_l2) (V_m1 : VC_m1) {l : Launch} {E : Ev}   (f : Fn) (a1 : Int32) (a2 : Int32) (a3 : Int32)  : CT l E layM yX9_held cX9_held 3 (some .int) 0 [.int a1, .int a2, .int a3] f (pI (fun r9 f9 => r9 = Val_X9_held f a1 a2 a3 ∧ f9 = f)) := by
  refine CT.of (by decide +kernel) (Nat.le_of_ble_eq_true rfl) (fun Z hl9 hE9 hp9 C => ?_)
  subst hl9
  subst hE9
  exact wk_X9_held V_l1 V_l2 V_m1 C   f a1 a2 a3 (by rw [hp9]; exact V_m1.2.2.1  f a1 a2 a3  )
set_option maxHeartbeats 4000000 in
set_option maxRecDepth 100000 in
theorem wk_X9_isFlyer (V_l1 : VC_l1) (V_l2 : VC_l2) (V_m1 : VC_m1) {Z : Zt}  (C : CX Z layM RX9 cX9_isFlyer 2 (some .boolean) 1)     (f : Fn) (a1 : Int32) (h : wp_X9_isFlyer  f a1 (zp Z)) : GG Z f [(0, .ref (zad Z 0)), (1, .int a1)] 0 [] := by
  refine g_iload_n C rfl dX9_isFlyer_0 rfl ?_
  refine g_i2l C dX9_isFlyer_1 rfl ?_
  refine g_lconst C kl_0 dX9_isFlyer_2 rfl ?_
  refine g_aload_n C rfl dX9_isFlyer_3 rfl ?_
  refine fg_X9_7R (k := 0) (p := 1) C rfl rfl dX9_isFlyer_4 rfl ?_
  refine g_iconst C ki_0 dX9_isFlyer_7 rfl ?_
  refine g_ialdx (k := 1) (j := 0) (x := (f 1 0)) C rfl vi_0_264 kc_0 rfl dX9_isFlyer_8 rfl ?_
  refine g_iconst C ki_1 dX9_isFlyer_9 rfl ?_
  refine g_isub C dX9_isFlyer_10 rfl ?_
  refine g_i2l C dX9_isFlyer_11 rfl ?_
  refine g_callSD C tw_878 tw_879 tw_10 tw_880 hy_X9_in (by decide) (by decide) rfl (Nat.le_of_ble_eq_true rfl) (ct_X9_in V_l1 V_l2 V_m1   f a1.toInt64 (0 : Int64) ((f 1 0) - (1 : Int32)).toInt64 ) dX9_isFlyer_12 rfl rfl ?_
  have hs1 := h.1
  replace h := h.2
  exact g_zret C hs1 dX9_isFlyer_15 h
set_option maxRecDepth 100000 in
theorem ct_X9_isFlyer (V_l1 : VC_l1) (V_l2 : VC_l2) (V_m1 : VC_m1) {l : Launch} {E : Ev}   (f : Fn) (a1 : Int32)  : CT l E layM yX9_isFlyer cX9_isFlyer 2 (some .boolean) 1 [.ref (E.2.1 0), .int a1] f (pI (fun r9 f9 => r9 = Val_X9_isFlyer f a1 ∧ f9 = f)) := by
  refine CT.of (by decide +kernel) (Nat.le_of_ble_eq_true rfl) (fun Z hl9 hE9 hp9 C => ?_)
  subst hl9
  subst hE9
  exact wk_X9_isFlyer V_l1 V_l2 V_m1 C   f a1 (by rw [hp9]; exact V_m1.2.2.2.1  f a1  )
set_option maxHeartbeats 4000000 in
set_option maxRecDepth 100000 in
theorem wk_X9_of (V_l1 : VC_l1) (V_l2 : VC_l2) (V_m1 : VC_m1) {Z : Zt}  (C : CX Z layM RX9 cX9_of 3 (some .int) 0)     (f : Fn) (a1 : Int32) (a2 : Int32) (h : wp_X9_of  f a1 a2 (zp Z)) : GG Z f [(0, .ref (zad Z 0)), (1, .int a1), (2, .int a2)] 0 [] := by
  refine g_aload_n C rfl dX9_of_0 rfl ?_
  refine fg_X9_7R (k := 0) (p := 1) C rfl rfl dX9_of_1 rfl ?_
  refine g_bipush C kb_18 dX9_of_4 rfl ?_
  refine g_iconst C ki_4 dX9_of_6 rfl ?_
  refine g_iload_n C rfl dX9_of_7 rfl ?_
  refine g_imul C dX9_of_8 rfl ?_
  refine g_iadd C dX9_of_9 rfl ?_
  refine g_iload_n C rfl dX9_of_10 rfl ?_
  refine g_iadd C dX9_of_11 rfl ?_
  have hs1 := h.1
  replace h := h.2
  refine g_ialdx (k := 1) (j := (((18 : Int32) + ((4 : Int32) * a1)) + a2).toNatClampNeg) (x := (f 1 (((18 : Int32) + ((4 : Int32) * a1)) + a2).toNatClampNeg)) C rfl hs1 rfl rfl dX9_of_12 rfl ?_
  exact g_iret C dX9_of_13 h
set_option maxRecDepth 100000 in
theorem ct_X9_of (V_l1 : VC_l1) (V_l2 : VC_l2) (V_m1 : VC_m1) {l : Launch} {E : Ev}   (f : Fn) (a1 : Int32) (a2 : Int32) (hpre : Pre_X9_of f a1 a2) : CT l E layM yX9_of cX9_of 3 (some .int) 0 [.ref (E.2.1 0), .int a1, .int a2] f (pI (fun r9 f9 => r9 = Val_X9_of f a1 a2 ∧ f9 = f)) := by
  refine CT.of (by decide +kernel) (Nat.le_of_ble_eq_true rfl) (fun Z hl9 hE9 hp9 C => ?_)
  subst hl9
  subst hE9
  exact wk_X9_of V_l1 V_l2 V_m1 C   f a1 a2 (by rw [hp9]; exact V_m1.2.2.2.2.1  f a1 a2  hpre)
set_option maxHeartbeats 4000000 in
set_option maxRecDepth 100000 in
theorem wk_X9_sets (V_l1 : VC_l1) (V_l2 : VC_l2) (V_m1 : VC_m1) {Z : Zt}  (C : CX Z layM RX9 cX9_sets 4 none 0)     (f : Fn) (a1 : Int32) (a2 : Int32) (a3 : Int32) (h : wp_X9_sets  f a1 a2 a3 (zp Z)) : GG Z f [(0, .ref (zad Z 0)), (1, .int a1), (2, .int a2), (3, .int a3)] 0 [] := by
  refine g_aload_n C rfl dX9_sets_0 rfl ?_
  refine fg_X9_7R (k := 0) (p := 1) C rfl rfl dX9_sets_1 rfl ?_
  refine g_bipush C kb_18 dX9_sets_4 rfl ?_
  refine g_iconst C ki_4 dX9_sets_6 rfl ?_
  refine g_iload_n C rfl dX9_sets_7 rfl ?_
  refine g_imul C dX9_sets_8 rfl ?_
  refine g_iadd C dX9_sets_9 rfl ?_
  refine g_iload_n C rfl dX9_sets_10 rfl ?_
  refine g_iadd C dX9_sets_11 rfl ?_
  refine g_iload_n C rfl dX9_sets_12 rfl ?_
  have hs1 := h.1
  replace h := h.2
  refine g_iastx (k := 1) (j := (((18 : Int32) + ((4 : Int32) * a1)) + a2).toNatClampNeg) C rfl hs1 rfl dX9_sets_13 rfl ?_
  exact g_vret C dX9_sets_14 h
set_option maxRecDepth 100000 in
theorem ct_X9_sets (V_l1 : VC_l1) (V_l2 : VC_l2) (V_m1 : VC_m1) {l : Launch} {E : Ev}   (f : Fn) (a1 : Int32) (a2 : Int32) (a3 : Int32) (hpre : Pre_X9_sets f a1 a2 a3) : CT l E layM yX9_sets cX9_sets 4 none 0 [.ref (E.2.1 0), .int a1, .int a2, .int a3] f (pV (Post_X9_sets f a1 a2 a3)) := by
  refine CT.of (by decide +kernel) (Nat.le_of_ble_eq_true rfl) (fun Z hl9 hE9 hp9 C => ?_)
  subst hl9
  subst hE9
  exact wk_X9_sets V_l1 V_l2 V_m1 C   f a1 a2 a3 (by rw [hp9]; exact V_m1.2.2.2.2.2.1  f a1 a2 a3  hpre)
set_option maxHeartbeats 4000000 in
set_option maxRecDepth 100000 in
theorem wk_X9_here (V_l1 : VC_l1) (V_l2 : VC_l2) (V_m1 : VC_m1) {Z : Zt}  (C : CX Z layM RX9 cX9_here 1 (some .int) 0)     (f : Fn)  (h : wp_X9_here  f  (zp Z)) : GG Z f [(0, .ref (zad Z 0))] 0 [] := by
  refine g_aload_n C rfl dX9_here_0 rfl ?_
  refine fg_X9_49I (k := 0) (x := (f 0 5)) C rfl rfl rfl dX9_here_1 rfl ?_
  refine g_aload_n C rfl dX9_here_4 rfl ?_
  refine fg_X9_52I (k := 0) (x := (f 0 6)) C rfl rfl rfl dX9_here_5 rfl ?_
  refine g_icmp_ge (tgt := 35) C dX9_here_8 (by decide) rfl (fun hc1 => ?_) (fun hc1 => ?_)
  · replace h := h.1 hc1
    refine g_iconst C ki_m1 dX9_here_35 rfl ?_
    exact g_iret C dX9_here_36 h
  · replace h := h.2 hc1
    refine g_aload_n C rfl dX9_here_11 rfl ?_
    refine fg_X9_55I (k := 0) (x := (f 0 7)) C rfl rfl rfl dX9_here_12 rfl ?_
    refine g_if_ge (tgt := 35) C dX9_here_15 (by decide) rfl (fun hc2 => ?_) (fun hc2 => ?_)
    · replace h := h.1 hc2
      refine g_iconst C ki_m1 dX9_here_35 rfl ?_
      exact g_iret C dX9_here_36 h
    · replace h := h.2 hc2
      refine g_aload_n C rfl dX9_here_18 rfl ?_
      refine fg_X9_7R (k := 0) (p := 1) C rfl rfl dX9_here_19 rfl ?_
      refine g_aload_n C rfl dX9_here_22 rfl ?_
      refine fg_X9_58I (k := 0) (x := (f 0 4)) C rfl rfl rfl dX9_here_23 rfl ?_
      refine g_aload_n C rfl dX9_here_26 rfl ?_
      refine fg_X9_49I (k := 0) (x := (f 0 5)) C rfl rfl rfl dX9_here_27 rfl ?_
      refine g_iadd C dX9_here_30 rfl ?_
      have hs3 := h.1
      replace h := h.2
      refine g_ialdx (k := 1) (j := ((f 0 4) + (f 0 5)).toNatClampNeg) (x := (f 1 ((f 0 4) + (f 0 5)).toNatClampNeg)) C rfl hs3 rfl rfl dX9_here_31 rfl ?_
      refine g_goto (q := 36) C dX9_here_32 (by decide) ?_
      exact g_iret C dX9_here_36 h
set_option maxRecDepth 100000 in
theorem ct_X9_here (V_l1 : VC_l1) (V_l2 : VC_l2) (V_m1 : VC_m1) {l : Launch} {E : Ev}   (f : Fn)  (hpre : Pre_X9_here f) : CT l E layM yX9_here cX9_here 1 (some .int) 0 [.ref (E.2.1 0)] f (pI (fun r9 f9 => r9 = Val_X9_here f ∧ f9 = f)) := by
  refine CT.of (by decide +kernel) (Nat.le_of_ble_eq_true rfl) (fun Z hl9 hE9 hp9 C => ?_)
  subst hl9
  subst hE9
  exact wk_X9_here V_l1 V_l2 V_m1 C   f  (by rw [hp9]; exact V_m1.2.2.2.2.2.2.1  f   hpre)
set_option maxHeartbeats 4000000 in
set_option maxRecDepth 100000 in
theorem wk_X9_wrong_L19 (V_l1 : VC_l1) (V_l2 : VC_l2) (V_m1 : VC_m1) {Z : Zt}  (C : CX Z layM RX9 cX9_wrong 1 (some .int) 0)     (f : Fn) (s0 : Int32) (h : wp_X9_wrong_L19   f s0 (zp Z)) : GG Z f [] 19 [.int s0, .ref (zad Z 0)] := by
  refine fp_X9_55 (k := 0) C rfl rfl (Nat.le_of_ble_eq_true rfl) dX9_wrong_19 rfl ?_
  refine g_iconst C ki_0 dX9_wrong_22 rfl ?_
  exact g_iret C dX9_wrong_23 h
set_option maxHeartbeats 4000000 in
set_option maxRecDepth 100000 in
theorem wk_X9_wrong (V_l1 : VC_l1) (V_l2 : VC_l2) (V_m1 : VC_m1) {Z : Zt}  (C : CX Z layM RX9 cX9_wrong 1 (some .int) 0)     (f : Fn)  (h : wp_X9_wrong  f  (zp Z)) : GG Z f [(0, .ref (zad Z 0))] 0 [] := by
  refine g_aload_n C rfl dX9_wrong_0 rfl ?_
  refine g_aload_n C rfl dX9_wrong_1 rfl ?_
  refine fg_X9_55I (k := 0) (x := (f 0 7)) C rfl rfl rfl dX9_wrong_2 rfl ?_
  refine g_if_ge (tgt := 15) C dX9_wrong_5 (by decide) rfl (fun hc1 => ?_) (fun hc1 => ?_)
  · replace h := h.1 hc1
    refine g_aload_n C rfl dX9_wrong_15 rfl ?_
    refine fg_X9_55I (k := 0) (x := (f 0 7)) C rfl rfl rfl dX9_wrong_16 rfl ?_
    refine g_lps [] rfl ?_
    exact wk_X9_wrong_L19 V_l1 V_l2 V_m1  C    _ _ h
  · replace h := h.2 hc1
    refine g_aload_n C rfl dX9_wrong_8 rfl ?_
    refine fg_X9_49I (k := 0) (x := (f 0 5)) C rfl rfl rfl dX9_wrong_9 rfl ?_
    refine g_goto (q := 19) C dX9_wrong_12 (by decide) ?_
    refine g_lps [] rfl ?_
    exact wk_X9_wrong_L19 V_l1 V_l2 V_m1  C    _ _ h
set_option maxRecDepth 100000 in
theorem ct_X9_wrong (V_l1 : VC_l1) (V_l2 : VC_l2) (V_m1 : VC_m1) {l : Launch} {E : Ev}   (f : Fn)   : CT l E layM yX9_wrong cX9_wrong 1 (some .int) 0 [.ref (E.2.1 0)] f (pI (Post_X9_wrong f)) := by
  refine CT.of (by decide +kernel) (Nat.le_of_ble_eq_true rfl) (fun Z hl9 hE9 hp9 C => ?_)
  subst hl9
  subst hE9
  exact wk_X9_wrong V_l1 V_l2 V_m1 C   f  (by rw [hp9]; exact V_m1.2.2.2.2.2.2.2.1  f   )
set_option maxHeartbeats 4000000 in
set_option maxRecDepth 100000 in
theorem wk_X9_takes (V_l1 : VC_l1) (V_l2 : VC_l2) (V_m1 : VC_m1) {Z : Zt}  (C : CX Z layM RX9 cX9_takes 2 (some .boolean) 1)     (f : Fn) (a1 : Int32) (h : wp_X9_takes  f a1 (zp Z)) : GG Z f [(0, .ref (zad Z 0)), (1, .int a1)] 0 [] := by
  refine g_aload_n C rfl dX9_takes_0 rfl ?_
  have hs1 := h.1
  replace h := h.2
  refine g_callVD C tw_919 tw_921 tp_23 tw_10 tw_922 hy_X9_here (by decide) (by decide) rfl (Nat.le_of_ble_eq_true rfl) rfl rfl (ct_X9_here V_l1 V_l2 V_m1   f hs1) dX9_takes_1 rfl rfl ?_
  refine g_iload_n C rfl dX9_takes_4 rfl ?_
  refine g_icmp_eq (tgt := 10) C dX9_takes_5 (by decide) rfl (fun hc2 => ?_) (fun hc2 => ?_)
  · replace h := h.1 hc2
    refine g_aload_n C rfl dX9_takes_10 rfl ?_
    refine g_dup C rfl dX9_takes_11 rfl ?_
    refine fg_X9_49I (k := 0) (x := (f 0 5)) C rfl rfl rfl dX9_takes_12 rfl ?_
    refine g_iconst C ki_1 dX9_takes_15 rfl ?_
    refine g_iadd C dX9_takes_16 rfl ?_
    refine fp_X9_49 (k := 0) C rfl rfl (Nat.le_of_ble_eq_true rfl) dX9_takes_17 rfl ?_
    refine g_iconst C ki_1 dX9_takes_20 rfl ?_
    exact g_zret C (Or.inr rfl) dX9_takes_21 h
  · replace h := h.2 hc2
    refine g_iconst C ki_0 dX9_takes_8 rfl ?_
    exact g_zret C (Or.inl rfl) dX9_takes_9 h
set_option maxRecDepth 100000 in
theorem ct_X9_takes (V_l1 : VC_l1) (V_l2 : VC_l2) (V_m1 : VC_m1) {l : Launch} {E : Ev}   (f : Fn) (a1 : Int32) (hpre : Pre_X9_takes f a1) : CT l E layM yX9_takes cX9_takes 2 (some .boolean) 1 [.ref (E.2.1 0), .int a1] f (pI (Post_X9_takes f a1)) := by
  refine CT.of (by decide +kernel) (Nat.le_of_ble_eq_true rfl) (fun Z hl9 hE9 hp9 C => ?_)
  subst hl9
  subst hE9
  exact wk_X9_takes V_l1 V_l2 V_m1 C   f a1 (by rw [hp9]; exact V_m1.2.2.2.2.2.2.2.2.1  f a1  hpre)
set_option maxHeartbeats 4000000 in
set_option maxRecDepth 100000 in
theorem wk_X9_nameOf (V_l1 : VC_l1) (V_l2 : VC_l2) (V_m1 : VC_m1) {Z : Zt}  (C : CX Z layM RX9 cX9_nameOf 1 (some .int) 0)     (f : Fn) (a1 : Int32) (h : wp_X9_nameOf  f a1 (zp Z)) : GG Z f [(0, .int a1)] 0 [] := by
  refine g_iload_n C rfl dX9_nameOf_0 rfl ?_
  refine g_bipush C kb_107 dX9_nameOf_1 rfl ?_
  refine g_icmp_ne (tgt := 10) C dX9_nameOf_3 (by decide) rfl (fun hc1 => ?_) (fun hc1 => ?_)
  · replace h := h.1 hc1
    refine g_iload_n C rfl dX9_nameOf_10 rfl ?_
    refine g_bipush C kb_118 dX9_nameOf_11 rfl ?_
    refine g_icmp_ne (tgt := 20) C dX9_nameOf_13 (by decide) rfl (fun hc2 => ?_) (fun hc2 => ?_)
    · replace h := h.1 hc2
      refine g_iload_n C rfl dX9_nameOf_20 rfl ?_
      refine g_bipush C kb_109 dX9_nameOf_21 rfl ?_
      refine g_icmp_ne (tgt := 30) C dX9_nameOf_23 (by decide) rfl (fun hc3 => ?_) (fun hc3 => ?_)
      · replace h := h.1 hc3
        refine g_iconst C ki_m1 dX9_nameOf_30 rfl ?_
        exact g_iret C dX9_nameOf_31 h
      · replace h := h.2 hc3
        refine g_iconst C ki_2 dX9_nameOf_26 rfl ?_
        refine g_goto (q := 31) C dX9_nameOf_27 (by decide) ?_
        exact g_iret C dX9_nameOf_31 h
    · replace h := h.2 hc2
      refine g_iconst C ki_1 dX9_nameOf_16 rfl ?_
      refine g_goto (q := 31) C dX9_nameOf_17 (by decide) ?_
      exact g_iret C dX9_nameOf_31 h
  · replace h := h.2 hc1
    refine g_iconst C ki_0 dX9_nameOf_6 rfl ?_
    refine g_goto (q := 31) C dX9_nameOf_7 (by decide) ?_
    exact g_iret C dX9_nameOf_31 h
set_option maxRecDepth 100000 in
theorem ct_X9_nameOf (V_l1 : VC_l1) (V_l2 : VC_l2) (V_m1 : VC_m1) {l : Launch} {E : Ev}   (f : Fn) (a1 : Int32)  : CT l E layM yX9_nameOf cX9_nameOf 1 (some .int) 0 [.int a1] f (pI (fun r9 f9 => r9 = Val_X9_nameOf f a1 ∧ f9 = f)) := by
  refine CT.of (by decide +kernel) (Nat.le_of_ble_eq_true rfl) (fun Z hl9 hE9 hp9 C => ?_)
  subst hl9
  subst hE9
  exact wk_X9_nameOf V_l1 V_l2 V_m1 C   f a1 (by rw [hp9]; exact V_m1.2.2.2.2.2.2.2.2.2.1  f a1  )
set_option maxHeartbeats 4000000 in
set_option maxRecDepth 100000 in
theorem wk_X9_either_L32 (V_l1 : VC_l1) (V_l2 : VC_l2) (V_m1 : VC_m1) {Z : Zt} {m0 dd de : Nat} (hde : de + 1 ≤ dd) (hd1 : 3 ≤ dd) (hr_X9_either : ∀ (f : Fn) , Pre_X9_either f  → mu_X9_either f  < m0 → CT (zl Z) (zE Z) layM yX9_either cX9_either 3 (some .int) de [.ref (zad Z 0)] f (pI (Post_X9_either f ))) (hr_X9_both : ∀ (f : Fn) , Pre_X9_both f  → mu_X9_both f  < m0 → CT (zl Z) (zE Z) layM yX9_both cX9_both 3 (some .int) de [.ref (zad Z 0)] f (pI (Post_X9_both f ))) (hr_X9_compared : ∀ (f : Fn) , Pre_X9_compared f  → mu_X9_compared f  < m0 → CT (zl Z) (zE Z) layM yX9_compared cX9_compared 4 (some .int) de [.ref (zad Z 0)] f (pI (Post_X9_compared f ))) (hr_X9_sum : ∀ (f : Fn) , Pre_X9_sum f  → mu_X9_sum f  < m0 → CT (zl Z) (zE Z) layM yX9_sum cX9_sum 4 (some .int) de [.ref (zad Z 0)] f (pI (Post_X9_sum f ))) (hr_X9_product : ∀ (f : Fn) , Pre_X9_product f  → mu_X9_product f  < m0 → CT (zl Z) (zE Z) layM yX9_product cX9_product 4 (some .int) de [.ref (zad Z 0)] f (pI (Post_X9_product f ))) (hr_X9_unit : ∀ (f : Fn) , Pre_X9_unit f  → mu_X9_unit f  < m0 → CT (zl Z) (zE Z) layM yX9_unit cX9_unit 5 (some .int) de [.ref (zad Z 0)] f (pI (Post_X9_unit f ))) (C : CX Z layM RX9 cX9_either 3 (some .int) dd)   {K5 : Fn → Int32 → Prop} (hK5 : ∀ (f : Fn) (x1 : Int32), K5 f x1 → GG Z f [(0, .ref (zad Z 0)), (1, .int x1)] 5 []) (f : Fn) (s0 : Int32) (h : wp_X9_either_L32 m0  K5 f s0 (zp Z)) : GG Z f [(0, .ref (zad Z 0))] 32 [.int s0] := by
  refine g_istore_n (lv' := [(1, .int s0), (0, .ref (zad Z 0))]) C dX9_either_32 (by decide) rfl rfl ?_
  refine g_goto (q := 5) C dX9_either_33 (by decide) ?_
  refine g_lps [0, 1] rfl ?_
  exact hK5 _ _ h
set_option maxHeartbeats 4000000 in
set_option maxRecDepth 100000 in
theorem wk_X9_either_L27 (V_l1 : VC_l1) (V_l2 : VC_l2) (V_m1 : VC_m1) {Z : Zt} {m0 dd de : Nat} (hde : de + 1 ≤ dd) (hd1 : 3 ≤ dd) (hr_X9_either : ∀ (f : Fn) , Pre_X9_either f  → mu_X9_either f  < m0 → CT (zl Z) (zE Z) layM yX9_either cX9_either 3 (some .int) de [.ref (zad Z 0)] f (pI (Post_X9_either f ))) (hr_X9_both : ∀ (f : Fn) , Pre_X9_both f  → mu_X9_both f  < m0 → CT (zl Z) (zE Z) layM yX9_both cX9_both 3 (some .int) de [.ref (zad Z 0)] f (pI (Post_X9_both f ))) (hr_X9_compared : ∀ (f : Fn) , Pre_X9_compared f  → mu_X9_compared f  < m0 → CT (zl Z) (zE Z) layM yX9_compared cX9_compared 4 (some .int) de [.ref (zad Z 0)] f (pI (Post_X9_compared f ))) (hr_X9_sum : ∀ (f : Fn) , Pre_X9_sum f  → mu_X9_sum f  < m0 → CT (zl Z) (zE Z) layM yX9_sum cX9_sum 4 (some .int) de [.ref (zad Z 0)] f (pI (Post_X9_sum f ))) (hr_X9_product : ∀ (f : Fn) , Pre_X9_product f  → mu_X9_product f  < m0 → CT (zl Z) (zE Z) layM yX9_product cX9_product 4 (some .int) de [.ref (zad Z 0)] f (pI (Post_X9_product f ))) (hr_X9_unit : ∀ (f : Fn) , Pre_X9_unit f  → mu_X9_unit f  < m0 → CT (zl Z) (zE Z) layM yX9_unit cX9_unit 5 (some .int) de [.ref (zad Z 0)] f (pI (Post_X9_unit f ))) (C : CX Z layM RX9 cX9_either 3 (some .int) dd)   {K5 : Fn → Int32 → Prop} (hK5 : ∀ (f : Fn) (x1 : Int32), K5 f x1 → GG Z f [(0, .ref (zad Z 0)), (1, .int x1)] 5 []) (f : Fn)  (h : wp_X9_either_L27 m0  K5 f  (zp Z)) : GG Z f [(0, .ref (zad Z 0))] 27 [] := by
  refine g_iconst C ki_1 dX9_either_27 rfl ?_
  refine g_goto (q := 32) C dX9_either_28 (by decide) ?_
  exact wk_X9_either_L32 V_l1 V_l2 V_m1 hde hd1 hr_X9_either hr_X9_both hr_X9_compared hr_X9_sum hr_X9_product hr_X9_unit C   hK5 _ _ h
set_option maxHeartbeats 4000000 in
set_option maxRecDepth 100000 in
theorem wkb_X9_either_L5 (V_l1 : VC_l1) (V_l2 : VC_l2) (V_m1 : VC_m1) {Z : Zt} {m0 dd de : Nat} (hde : de + 1 ≤ dd) (hd1 : 3 ≤ dd) (hr_X9_either : ∀ (f : Fn) , Pre_X9_either f  → mu_X9_either f  < m0 → CT (zl Z) (zE Z) layM yX9_either cX9_either 3 (some .int) de [.ref (zad Z 0)] f (pI (Post_X9_either f ))) (hr_X9_both : ∀ (f : Fn) , Pre_X9_both f  → mu_X9_both f  < m0 → CT (zl Z) (zE Z) layM yX9_both cX9_both 3 (some .int) de [.ref (zad Z 0)] f (pI (Post_X9_both f ))) (hr_X9_compared : ∀ (f : Fn) , Pre_X9_compared f  → mu_X9_compared f  < m0 → CT (zl Z) (zE Z) layM yX9_compared cX9_compared 4 (some .int) de [.ref (zad Z 0)] f (pI (Post_X9_compared f ))) (hr_X9_sum : ∀ (f : Fn) , Pre_X9_sum f  → mu_X9_sum f  < m0 → CT (zl Z) (zE Z) layM yX9_sum cX9_sum 4 (some .int) de [.ref (zad Z 0)] f (pI (Post_X9_sum f ))) (hr_X9_product : ∀ (f : Fn) , Pre_X9_product f  → mu_X9_product f  < m0 → CT (zl Z) (zE Z) layM yX9_product cX9_product 4 (some .int) de [.ref (zad Z 0)] f (pI (Post_X9_product f ))) (hr_X9_unit : ∀ (f : Fn) , Pre_X9_unit f  → mu_X9_unit f  < m0 → CT (zl Z) (zE Z) layM yX9_unit cX9_unit 5 (some .int) de [.ref (zad Z 0)] f (pI (Post_X9_unit f ))) (C : CX Z layM RX9 cX9_either 3 (some .int) dd)   {K5 : Fn → Int32 → Prop} (hK5 : ∀ (f : Fn) (x1 : Int32), K5 f x1 → GG Z f [(0, .ref (zad Z 0)), (1, .int x1)] 5 []) (f : Fn) (x1 : Int32) (h : wpb_X9_either_L5 m0   K5 f x1 (zp Z)) : GG Z f [(0, .ref (zad Z 0)), (1, .int x1)] 5 [] := by
  refine g_aload_n C rfl dX9_either_5 rfl ?_
  refine g_bipush C kb_124 dX9_either_6 rfl ?_
  have hs6 := h.1
  replace h := h.2
  refine g_callVI C tw_927 tw_929 tp_25 tw_10 tw_930 hy_X9_takes (by decide) (by omega) rfl (Nat.le_of_ble_eq_true rfl) rfl rfl (ct_X9_takes V_l1 V_l2 V_m1   f (124 : Int32) hs6) dX9_either_8 rfl rfl (fun r7 f8 hp9 => ?_)
  replace h := h r7 f8 hp9
  refine g_if_eq (tgt := 36) C dX9_either_11 (by decide) rfl (fun hc10 => ?_) (fun hc10 => ?_)
  · replace h := h.1 hc10
    refine g_iload_n C rfl dX9_either_36 rfl ?_
    exact g_iret C dX9_either_37 h
  · replace h := h.2 hc10
    refine g_aload_n C rfl dX9_either_14 rfl ?_
    have hs11 := h.1
    replace h := h.2
    have hs12 := h.1
    replace h := h.2
    refine g_callVI C tw_899 tw_901 tp_18 tw_10 tw_902 hy_X9_both (by decide) hde rfl (Nat.le_of_ble_eq_true rfl) rfl rfl (hr_X9_both f8  hs11 hs12) dX9_either_15 rfl rfl (fun r13 f14 hp15 => ?_)
    replace h := h r13 f14 hp15
    refine g_istore_n (lv' := [(2, .int r13), (0, .ref (zad Z 0)), (1, .int x1)]) C dX9_either_18 (by decide) rfl rfl ?_
    refine g_iload_n C rfl dX9_either_19 rfl ?_
    refine g_if_ne (tgt := 27) C dX9_either_20 (by decide) rfl (fun hc16 => ?_) (fun hc16 => ?_)
    · replace h := h.1 hc16
      refine g_lps [0] rfl ?_
      exact wk_X9_either_L27 V_l1 V_l2 V_m1 hde hd1 hr_X9_either hr_X9_both hr_X9_compared hr_X9_sum hr_X9_product hr_X9_unit C   hK5 _  h
    · replace h := h.2 hc16
      refine g_iload_n C rfl dX9_either_23 rfl ?_
      refine g_if_eq (tgt := 31) C dX9_either_24 (by decide) rfl (fun hc17 => ?_) (fun hc17 => ?_)
      · replace h := h.1 hc17
        refine g_iconst C ki_0 dX9_either_31 rfl ?_
        refine g_lps [0] rfl ?_
        exact wk_X9_either_L32 V_l1 V_l2 V_m1 hde hd1 hr_X9_either hr_X9_both hr_X9_compared hr_X9_sum hr_X9_product hr_X9_unit C   hK5 _ _ h
      · replace h := h.2 hc17
        refine g_lps [0] rfl ?_
        exact wk_X9_either_L27 V_l1 V_l2 V_m1 hde hd1 hr_X9_either hr_X9_both hr_X9_compared hr_X9_sum hr_X9_product hr_X9_unit C   hK5 _  h
set_option maxHeartbeats 4000000 in
set_option maxRecDepth 100000 in
theorem wk_X9_either_L5 (V_l1 : VC_l1) (V_l2 : VC_l2) (V_m1 : VC_m1) {Z : Zt} {m0 dd de : Nat} (hde : de + 1 ≤ dd) (hd1 : 3 ≤ dd) (hr_X9_either : ∀ (f : Fn) , Pre_X9_either f  → mu_X9_either f  < m0 → CT (zl Z) (zE Z) layM yX9_either cX9_either 3 (some .int) de [.ref (zad Z 0)] f (pI (Post_X9_either f ))) (hr_X9_both : ∀ (f : Fn) , Pre_X9_both f  → mu_X9_both f  < m0 → CT (zl Z) (zE Z) layM yX9_both cX9_both 3 (some .int) de [.ref (zad Z 0)] f (pI (Post_X9_both f ))) (hr_X9_compared : ∀ (f : Fn) , Pre_X9_compared f  → mu_X9_compared f  < m0 → CT (zl Z) (zE Z) layM yX9_compared cX9_compared 4 (some .int) de [.ref (zad Z 0)] f (pI (Post_X9_compared f ))) (hr_X9_sum : ∀ (f : Fn) , Pre_X9_sum f  → mu_X9_sum f  < m0 → CT (zl Z) (zE Z) layM yX9_sum cX9_sum 4 (some .int) de [.ref (zad Z 0)] f (pI (Post_X9_sum f ))) (hr_X9_product : ∀ (f : Fn) , Pre_X9_product f  → mu_X9_product f  < m0 → CT (zl Z) (zE Z) layM yX9_product cX9_product 4 (some .int) de [.ref (zad Z 0)] f (pI (Post_X9_product f ))) (hr_X9_unit : ∀ (f : Fn) , Pre_X9_unit f  → mu_X9_unit f  < m0 → CT (zl Z) (zE Z) layM yX9_unit cX9_unit 5 (some .int) de [.ref (zad Z 0)] f (pI (Post_X9_unit f ))) (C : CX Z layM RX9 cX9_either 3 (some .int) dd)     (f : Fn) (x1 : Int32) (h : wp_X9_either_L5 m0   f x1 (zp Z)) : GG Z f [(0, .ref (zad Z 0)), (1, .int x1)] 5 [] := by
  obtain ⟨I, μ, h0, hs⟩ := h
  suffices H : ∀ (N : Nat) (f : Fn) (x1 : Int32), μ f x1 < N → I f x1 → GG Z f [(0, .ref (zad Z 0)), (1, .int x1)] 5 [] from H _ f x1 (Nat.lt_succ_self _) h0
  clear h0
  intro N
  induction N with
  | zero => intro f x1 hm; exact absurd hm (Nat.not_lt_zero _)
  | succ N ih =>
    intro f x1 hm hi
    exact wkb_X9_either_L5 V_l1 V_l2 V_m1 hde hd1 hr_X9_either hr_X9_both hr_X9_compared hr_X9_sum hr_X9_product hr_X9_unit C    (fun f9 x19 hk => ih f9 x19 (Nat.lt_of_lt_of_le hk.2 (Nat.le_of_lt_succ hm)) hk.1) f x1 (hs f x1 hi)
set_option maxHeartbeats 4000000 in
set_option maxRecDepth 100000 in
theorem wk_X9_either (V_l1 : VC_l1) (V_l2 : VC_l2) (V_m1 : VC_m1) {Z : Zt} {m0 dd de : Nat} (hde : de + 1 ≤ dd) (hd1 : 3 ≤ dd) (hr_X9_either : ∀ (f : Fn) , Pre_X9_either f  → mu_X9_either f  < m0 → CT (zl Z) (zE Z) layM yX9_either cX9_either 3 (some .int) de [.ref (zad Z 0)] f (pI (Post_X9_either f ))) (hr_X9_both : ∀ (f : Fn) , Pre_X9_both f  → mu_X9_both f  < m0 → CT (zl Z) (zE Z) layM yX9_both cX9_both 3 (some .int) de [.ref (zad Z 0)] f (pI (Post_X9_both f ))) (hr_X9_compared : ∀ (f : Fn) , Pre_X9_compared f  → mu_X9_compared f  < m0 → CT (zl Z) (zE Z) layM yX9_compared cX9_compared 4 (some .int) de [.ref (zad Z 0)] f (pI (Post_X9_compared f ))) (hr_X9_sum : ∀ (f : Fn) , Pre_X9_sum f  → mu_X9_sum f  < m0 → CT (zl Z) (zE Z) layM yX9_sum cX9_sum 4 (some .int) de [.ref (zad Z 0)] f (pI (Post_X9_sum f ))) (hr_X9_product : ∀ (f : Fn) , Pre_X9_product f  → mu_X9_product f  < m0 → CT (zl Z) (zE Z) layM yX9_product cX9_product 4 (some .int) de [.ref (zad Z 0)] f (pI (Post_X9_product f ))) (hr_X9_unit : ∀ (f : Fn) , Pre_X9_unit f  → mu_X9_unit f  < m0 → CT (zl Z) (zE Z) layM yX9_unit cX9_unit 5 (some .int) de [.ref (zad Z 0)] f (pI (Post_X9_unit f ))) (C : CX Z layM RX9 cX9_either 3 (some .int) dd)     (f : Fn)  (h : wp_X9_either m0  f  (zp Z)) : GG Z f [(0, .ref (zad Z 0))] 0 [] := by
  refine g_aload_n C rfl dX9_either_0 rfl ?_
  have hs1 := h.1
  replace h := h.2
  have hs2 := h.1
  replace h := h.2
  refine g_callVI C tw_899 tw_901 tp_18 tw_10 tw_902 hy_X9_both (by decide) hde rfl (Nat.le_of_ble_eq_true rfl) rfl rfl (hr_X9_both f  hs1 hs2) dX9_either_1 rfl rfl (fun r3 f4 hp5 => ?_)
  replace h := h r3 f4 hp5
  refine g_istore_n (lv' := [(1, .int r3), (0, .ref (zad Z 0))]) C dX9_either_4 (by decide) rfl rfl ?_
  refine g_lps [0, 1] rfl ?_
  exact wk_X9_either_L5 V_l1 V_l2 V_m1 hde hd1 hr_X9_either hr_X9_both hr_X9_compared hr_X9_sum hr_X9_product hr_X9_unit C    _ _ h
set_option maxHeartbeats 4000000 in
set_option maxRecDepth 100000 in
theorem wk_X9_both_L32 (V_l1 : VC_l1) (V_l2 : VC_l2) (V_m1 : VC_m1) {Z : Zt} {m0 dd de : Nat} (hde : de + 1 ≤ dd) (hd1 : 3 ≤ dd) (hr_X9_either : ∀ (f : Fn) , Pre_X9_either f  → mu_X9_either f  < m0 → CT (zl Z) (zE Z) layM yX9_either cX9_either 3 (some .int) de [.ref (zad Z 0)] f (pI (Post_X9_either f ))) (hr_X9_both : ∀ (f : Fn) , Pre_X9_both f  → mu_X9_both f  < m0 → CT (zl Z) (zE Z) layM yX9_both cX9_both 3 (some .int) de [.ref (zad Z 0)] f (pI (Post_X9_both f ))) (hr_X9_compared : ∀ (f : Fn) , Pre_X9_compared f  → mu_X9_compared f  < m0 → CT (zl Z) (zE Z) layM yX9_compared cX9_compared 4 (some .int) de [.ref (zad Z 0)] f (pI (Post_X9_compared f ))) (hr_X9_sum : ∀ (f : Fn) , Pre_X9_sum f  → mu_X9_sum f  < m0 → CT (zl Z) (zE Z) layM yX9_sum cX9_sum 4 (some .int) de [.ref (zad Z 0)] f (pI (Post_X9_sum f ))) (hr_X9_product : ∀ (f : Fn) , Pre_X9_product f  → mu_X9_product f  < m0 → CT (zl Z) (zE Z) layM yX9_product cX9_product 4 (some .int) de [.ref (zad Z 0)] f (pI (Post_X9_product f ))) (hr_X9_unit : ∀ (f : Fn) , Pre_X9_unit f  → mu_X9_unit f  < m0 → CT (zl Z) (zE Z) layM yX9_unit cX9_unit 5 (some .int) de [.ref (zad Z 0)] f (pI (Post_X9_unit f ))) (C : CX Z layM RX9 cX9_both 3 (some .int) dd)   {K5 : Fn → Int32 → Prop} (hK5 : ∀ (f : Fn) (x1 : Int32), K5 f x1 → GG Z f [(0, .ref (zad Z 0)), (1, .int x1)] 5 []) (f : Fn) (s0 : Int32) (h : wp_X9_both_L32 m0  K5 f s0 (zp Z)) : GG Z f [(0, .ref (zad Z 0))] 32 [.int s0] := by
  refine g_istore_n (lv' := [(1, .int s0), (0, .ref (zad Z 0))]) C dX9_both_32 (by decide) rfl rfl ?_
  refine g_goto (q := 5) C dX9_both_33 (by decide) ?_
  refine g_lps [0, 1] rfl ?_
  exact hK5 _ _ h
set_option maxHeartbeats 4000000 in
set_option maxRecDepth 100000 in
theorem wk_X9_both_L31 (V_l1 : VC_l1) (V_l2 : VC_l2) (V_m1 : VC_m1) {Z : Zt} {m0 dd de : Nat} (hde : de + 1 ≤ dd) (hd1 : 3 ≤ dd) (hr_X9_either : ∀ (f : Fn) , Pre_X9_either f  → mu_X9_either f  < m0 → CT (zl Z) (zE Z) layM yX9_either cX9_either 3 (some .int) de [.ref (zad Z 0)] f (pI (Post_X9_either f ))) (hr_X9_both : ∀ (f : Fn) , Pre_X9_both f  → mu_X9_both f  < m0 → CT (zl Z) (zE Z) layM yX9_both cX9_both 3 (some .int) de [.ref (zad Z 0)] f (pI (Post_X9_both f ))) (hr_X9_compared : ∀ (f : Fn) , Pre_X9_compared f  → mu_X9_compared f  < m0 → CT (zl Z) (zE Z) layM yX9_compared cX9_compared 4 (some .int) de [.ref (zad Z 0)] f (pI (Post_X9_compared f ))) (hr_X9_sum : ∀ (f : Fn) , Pre_X9_sum f  → mu_X9_sum f  < m0 → CT (zl Z) (zE Z) layM yX9_sum cX9_sum 4 (some .int) de [.ref (zad Z 0)] f (pI (Post_X9_sum f ))) (hr_X9_product : ∀ (f : Fn) , Pre_X9_product f  → mu_X9_product f  < m0 → CT (zl Z) (zE Z) layM yX9_product cX9_product 4 (some .int) de [.ref (zad Z 0)] f (pI (Post_X9_product f ))) (hr_X9_unit : ∀ (f : Fn) , Pre_X9_unit f  → mu_X9_unit f  < m0 → CT (zl Z) (zE Z) layM yX9_unit cX9_unit 5 (some .int) de [.ref (zad Z 0)] f (pI (Post_X9_unit f ))) (C : CX Z layM RX9 cX9_both 3 (some .int) dd)   {K5 : Fn → Int32 → Prop} (hK5 : ∀ (f : Fn) (x1 : Int32), K5 f x1 → GG Z f [(0, .ref (zad Z 0)), (1, .int x1)] 5 []) (f : Fn)  (h : wp_X9_both_L31 m0  K5 f  (zp Z)) : GG Z f [(0, .ref (zad Z 0))] 31 [] := by
  refine g_iconst C ki_0 dX9_both_31 rfl ?_
  exact wk_X9_both_L32 V_l1 V_l2 V_m1 hde hd1 hr_X9_either hr_X9_both hr_X9_compared hr_X9_sum hr_X9_product hr_X9_unit C   hK5 _ _ h
set_option maxHeartbeats 4000000 in
set_option maxRecDepth 100000 in
theorem wkb_X9_both_L5 (V_l1 : VC_l1) (V_l2 : VC_l2) (V_m1 : VC_m1) {Z : Zt} {m0 dd de : Nat} (hde : de + 1 ≤ dd) (hd1 : 3 ≤ dd) (hr_X9_either : ∀ (f : Fn) , Pre_X9_either f  → mu_X9_either f  < m0 → CT (zl Z) (zE Z) layM yX9_either cX9_either 3 (some .int) de [.ref (zad Z 0)] f (pI (Post_X9_either f ))) (hr_X9_both : ∀ (f : Fn) , Pre_X9_both f  → mu_X9_both f  < m0 → CT (zl Z) (zE Z) layM yX9_both cX9_both 3 (some .int) de [.ref (zad Z 0)] f (pI (Post_X9_both f ))) (hr_X9_compared : ∀ (f : Fn) , Pre_X9_compared f  → mu_X9_compared f  < m0 → CT (zl Z) (zE Z) layM yX9_compared cX9_compared 4 (some .int) de [.ref (zad Z 0)] f (pI (Post_X9_compared f ))) (hr_X9_sum : ∀ (f : Fn) , Pre_X9_sum f  → mu_X9_sum f  < m0 → CT (zl Z) (zE Z) layM yX9_sum cX9_sum 4 (some .int) de [.ref (zad Z 0)] f (pI (Post_X9_sum f ))) (hr_X9_product : ∀ (f : Fn) , Pre_X9_product f  → mu_X9_product f  < m0 → CT (zl Z) (zE Z) layM yX9_product cX9_product 4 (some .int) de [.ref (zad Z 0)] f (pI (Post_X9_product f ))) (hr_X9_unit : ∀ (f : Fn) , Pre_X9_unit f  → mu_X9_unit f  < m0 → CT (zl Z) (zE Z) layM yX9_unit cX9_unit 5 (some .int) de [.ref (zad Z 0)] f (pI (Post_X9_unit f ))) (C : CX Z layM RX9 cX9_both 3 (some .int) dd)   {K5 : Fn → Int32 → Prop} (hK5 : ∀ (f : Fn) (x1 : Int32), K5 f x1 → GG Z f [(0, .ref (zad Z 0)), (1, .int x1)] 5 []) (f : Fn) (x1 : Int32) (h : wpb_X9_both_L5 m0   K5 f x1 (zp Z)) : GG Z f [(0, .ref (zad Z 0)), (1, .int x1)] 5 [] := by
  refine g_aload_n C rfl dX9_both_5 rfl ?_
  refine g_bipush C kb_38 dX9_both_6 rfl ?_
  have hs6 := h.1
  replace h := h.2
  refine g_callVI C tw_927 tw_929 tp_25 tw_10 tw_930 hy_X9_takes (by decide) (by omega) rfl (Nat.le_of_ble_eq_true rfl) rfl rfl (ct_X9_takes V_l1 V_l2 V_m1   f (38 : Int32) hs6) dX9_both_8 rfl rfl (fun r7 f8 hp9 => ?_)
  replace h := h r7 f8 hp9
  refine g_if_eq (tgt := 36) C dX9_both_11 (by decide) rfl (fun hc10 => ?_) (fun hc10 => ?_)
  · replace h := h.1 hc10
    refine g_iload_n C rfl dX9_both_36 rfl ?_
    exact g_iret C dX9_both_37 h
  · replace h := h.2 hc10
    refine g_aload_n C rfl dX9_both_14 rfl ?_
    have hs11 := h.1
    replace h := h.2
    have hs12 := h.1
    replace h := h.2
    refine g_callVI C tw_903 tw_905 tp_19 tw_10 tw_906 hy_X9_compared (by decide) hde rfl (Nat.le_of_ble_eq_true rfl) rfl rfl (hr_X9_compared f8  hs11 hs12) dX9_both_15 rfl rfl (fun r13 f14 hp15 => ?_)
    replace h := h r13 f14 hp15
    refine g_istore_n (lv' := [(2, .int r13), (0, .ref (zad Z 0)), (1, .int x1)]) C dX9_both_18 (by decide) rfl rfl ?_
    refine g_iload_n C rfl dX9_both_19 rfl ?_
    refine g_if_eq (tgt := 31) C dX9_both_20 (by decide) rfl (fun hc16 => ?_) (fun hc16 => ?_)
    · replace h := h.1 hc16
      refine g_lps [0] rfl ?_
      exact wk_X9_both_L31 V_l1 V_l2 V_m1 hde hd1 hr_X9_either hr_X9_both hr_X9_compared hr_X9_sum hr_X9_product hr_X9_unit C   hK5 _  h
    · replace h := h.2 hc16
      refine g_iload_n C rfl dX9_both_23 rfl ?_
      refine g_if_eq (tgt := 31) C dX9_both_24 (by decide) rfl (fun hc17 => ?_) (fun hc17 => ?_)
      · replace h := h.1 hc17
        refine g_lps [0] rfl ?_
        exact wk_X9_both_L31 V_l1 V_l2 V_m1 hde hd1 hr_X9_either hr_X9_both hr_X9_compared hr_X9_sum hr_X9_product hr_X9_unit C   hK5 _  h
      · replace h := h.2 hc17
        refine g_iconst C ki_1 dX9_both_27 rfl ?_
        refine g_goto (q := 32) C dX9_both_28 (by decide) ?_
        refine g_lps [0] rfl ?_
        exact wk_X9_both_L32 V_l1 V_l2 V_m1 hde hd1 hr_X9_either hr_X9_both hr_X9_compared hr_X9_sum hr_X9_product hr_X9_unit C   hK5 _ _ h
set_option maxHeartbeats 4000000 in
set_option maxRecDepth 100000 in
theorem wk_X9_both_L5 (V_l1 : VC_l1) (V_l2 : VC_l2) (V_m1 : VC_m1) {Z : Zt} {m0 dd de : Nat} (hde : de + 1 ≤ dd) (hd1 : 3 ≤ dd) (hr_X9_either : ∀ (f : Fn) , Pre_X9_either f  → mu_X9_either f  < m0 → CT (zl Z) (zE Z) layM yX9_either cX9_either 3 (some .int) de [.ref (zad Z 0)] f (pI (Post_X9_either f ))) (hr_X9_both : ∀ (f : Fn) , Pre_X9_both f  → mu_X9_both f  < m0 → CT (zl Z) (zE Z) layM yX9_both cX9_both 3 (some .int) de [.ref (zad Z 0)] f (pI (Post_X9_both f ))) (hr_X9_compared : ∀ (f : Fn) , Pre_X9_compared f  → mu_X9_compared f  < m0 → CT (zl Z) (zE Z) layM yX9_compared cX9_compared 4 (some .int) de [.ref (zad Z 0)] f (pI (Post_X9_compared f ))) (hr_X9_sum : ∀ (f : Fn) , Pre_X9_sum f  → mu_X9_sum f  < m0 → CT (zl Z) (zE Z) layM yX9_sum cX9_sum 4 (some .int) de [.ref (zad Z 0)] f (pI (Post_X9_sum f ))) (hr_X9_product : ∀ (f : Fn) , Pre_X9_product f  → mu_X9_product f  < m0 → CT (zl Z) (zE Z) layM yX9_product cX9_product 4 (some .int) de [.ref (zad Z 0)] f (pI (Post_X9_product f ))) (hr_X9_unit : ∀ (f : Fn) , Pre_X9_unit f  → mu_X9_unit f  < m0 → CT (zl Z) (zE Z) layM yX9_unit cX9_unit 5 (some .int) de [.ref (zad Z 0)] f (pI (Post_X9_unit f ))) (C : CX Z layM RX9 cX9_both 3 (some .int) dd)     (f : Fn) (x1 : Int32) (h : wp_X9_both_L5 m0   f x1 (zp Z)) : GG Z f [(0, .ref (zad Z 0)), (1, .int x1)] 5 [] := by
  obtain ⟨I, μ, h0, hs⟩ := h
  suffices H : ∀ (N : Nat) (f : Fn) (x1 : Int32), μ f x1 < N → I f x1 → GG Z f [(0, .ref (zad Z 0)), (1, .int x1)] 5 [] from H _ f x1 (Nat.lt_succ_self _) h0
  clear h0
  intro N
  induction N with
  | zero => intro f x1 hm; exact absurd hm (Nat.not_lt_zero _)
  | succ N ih =>
    intro f x1 hm hi
    exact wkb_X9_both_L5 V_l1 V_l2 V_m1 hde hd1 hr_X9_either hr_X9_both hr_X9_compared hr_X9_sum hr_X9_product hr_X9_unit C    (fun f9 x19 hk => ih f9 x19 (Nat.lt_of_lt_of_le hk.2 (Nat.le_of_lt_succ hm)) hk.1) f x1 (hs f x1 hi)
set_option maxHeartbeats 4000000 in
set_option maxRecDepth 100000 in
theorem wk_X9_both (V_l1 : VC_l1) (V_l2 : VC_l2) (V_m1 : VC_m1) {Z : Zt} {m0 dd de : Nat} (hde : de + 1 ≤ dd) (hd1 : 3 ≤ dd) (hr_X9_either : ∀ (f : Fn) , Pre_X9_either f  → mu_X9_either f  < m0 → CT (zl Z) (zE Z) layM yX9_either cX9_either 3 (some .int) de [.ref (zad Z 0)] f (pI (Post_X9_either f ))) (hr_X9_both : ∀ (f : Fn) , Pre_X9_both f  → mu_X9_both f  < m0 → CT (zl Z) (zE Z) layM yX9_both cX9_both 3 (some .int) de [.ref (zad Z 0)] f (pI (Post_X9_both f ))) (hr_X9_compared : ∀ (f : Fn) , Pre_X9_compared f  → mu_X9_compared f  < m0 → CT (zl Z) (zE Z) layM yX9_compared cX9_compared 4 (some .int) de [.ref (zad Z 0)] f (pI (Post_X9_compared f ))) (hr_X9_sum : ∀ (f : Fn) , Pre_X9_sum f  → mu_X9_sum f  < m0 → CT (zl Z) (zE Z) layM yX9_sum cX9_sum 4 (some .int) de [.ref (zad Z 0)] f (pI (Post_X9_sum f ))) (hr_X9_product : ∀ (f : Fn) , Pre_X9_product f  → mu_X9_product f  < m0 → CT (zl Z) (zE Z) layM yX9_product cX9_product 4 (some .int) de [.ref (zad Z 0)] f (pI (Post_X9_product f ))) (hr_X9_unit : ∀ (f : Fn) , Pre_X9_unit f  → mu_X9_unit f  < m0 → CT (zl Z) (zE Z) layM yX9_unit cX9_unit 5 (some .int) de [.ref (zad Z 0)] f (pI (Post_X9_unit f ))) (C : CX Z layM RX9 cX9_both 3 (some .int) dd)     (f : Fn)  (h : wp_X9_both m0  f  (zp Z)) : GG Z f [(0, .ref (zad Z 0))] 0 [] := by
  refine g_aload_n C rfl dX9_both_0 rfl ?_
  have hs1 := h.1
  replace h := h.2
  have hs2 := h.1
  replace h := h.2
  refine g_callVI C tw_903 tw_905 tp_19 tw_10 tw_906 hy_X9_compared (by decide) hde rfl (Nat.le_of_ble_eq_true rfl) rfl rfl (hr_X9_compared f  hs1 hs2) dX9_both_1 rfl rfl (fun r3 f4 hp5 => ?_)
  replace h := h r3 f4 hp5
  refine g_istore_n (lv' := [(1, .int r3), (0, .ref (zad Z 0))]) C dX9_both_4 (by decide) rfl rfl ?_
  refine g_lps [0, 1] rfl ?_
  exact wk_X9_both_L5 V_l1 V_l2 V_m1 hde hd1 hr_X9_either hr_X9_both hr_X9_compared hr_X9_sum hr_X9_product hr_X9_unit C    _ _ h
set_option maxHeartbeats 4000000 in
set_option maxRecDepth 100000 in
theorem wk_X9_compared_L30 (V_l1 : VC_l1) (V_l2 : VC_l2) (V_m1 : VC_m1) {Z : Zt} {m0 dd de : Nat} (hde : de + 1 ≤ dd) (hd1 : 3 ≤ dd) (hr_X9_either : ∀ (f : Fn) , Pre_X9_either f  → mu_X9_either f  < m0 → CT (zl Z) (zE Z) layM yX9_either cX9_either 3 (some .int) de [.ref (zad Z 0)] f (pI (Post_X9_either f ))) (hr_X9_both : ∀ (f : Fn) , Pre_X9_both f  → mu_X9_both f  < m0 → CT (zl Z) (zE Z) layM yX9_both cX9_both 3 (some .int) de [.ref (zad Z 0)] f (pI (Post_X9_both f ))) (hr_X9_compared : ∀ (f : Fn) , Pre_X9_compared f  → mu_X9_compared f  < m0 → CT (zl Z) (zE Z) layM yX9_compared cX9_compared 4 (some .int) de [.ref (zad Z 0)] f (pI (Post_X9_compared f ))) (hr_X9_sum : ∀ (f : Fn) , Pre_X9_sum f  → mu_X9_sum f  < m0 → CT (zl Z) (zE Z) layM yX9_sum cX9_sum 4 (some .int) de [.ref (zad Z 0)] f (pI (Post_X9_sum f ))) (hr_X9_product : ∀ (f : Fn) , Pre_X9_product f  → mu_X9_product f  < m0 → CT (zl Z) (zE Z) layM yX9_product cX9_product 4 (some .int) de [.ref (zad Z 0)] f (pI (Post_X9_product f ))) (hr_X9_unit : ∀ (f : Fn) , Pre_X9_unit f  → mu_X9_unit f  < m0 → CT (zl Z) (zE Z) layM yX9_unit cX9_unit 5 (some .int) de [.ref (zad Z 0)] f (pI (Post_X9_unit f ))) (C : CX Z layM RX9 cX9_compared 4 (some .int) dd)     (f : Fn) (x1 : Int32) (x2 : Int32) (h : wp_X9_compared_L30 m0   f x1 x2 (zp Z)) : GG Z f [(0, .ref (zad Z 0)), (1, .int x1), (2, .int x2)] 30 [] := by
  refine g_aload_n C rfl dX9_compared_30 rfl ?_
  refine g_dup C rfl dX9_compared_31 rfl ?_
  refine fg_X9_49I (k := 0) (x := (f 0 5)) C rfl rfl rfl dX9_compared_32 rfl ?_
  refine g_iconst C ki_1 dX9_compared_35 rfl ?_
  refine g_iadd C dX9_compared_36 rfl ?_
  refine fp_X9_49 (k := 0) C rfl rfl (Nat.le_of_ble_eq_true rfl) dX9_compared_37 rfl ?_
  refine g_aload_n C rfl dX9_compared_40 rfl ?_
  have hs8 := h.1
  replace h := h.2
  have hs9 := h.1
  replace h := h.2
  refine g_callVI C tw_907 tw_909 tp_20 tw_10 tw_910 hy_X9_sum (by decide) hde rfl (Nat.le_of_ble_eq_true rfl) rfl rfl (hr_X9_sum (up2 f 0 5 ((f 0 5) + (1 : Int32)))  hs8 hs9) dX9_compared_41 rfl rfl (fun r10 f11 hp12 => ?_)
  replace h := h r10 f11 hp12
  refine g_istore_n (lv' := [(3, .int r10), (0, .ref (zad Z 0)), (1, .int x1), (2, .int x2)]) C dX9_compared_44 (by decide) rfl rfl ?_
  refine g_iload_n C rfl dX9_compared_45 rfl ?_
  refine g_bipush C kb_60 dX9_compared_46 rfl ?_
  refine g_icmp_ne (tgt := 59) C dX9_compared_48 (by decide) rfl (fun hc13 => ?_) (fun hc13 => ?_)
  · replace h := h.1 hc13
    refine g_iload_n C rfl dX9_compared_59 rfl ?_
    refine g_bipush C kb_61 dX9_compared_60 rfl ?_
    refine g_icmp_ne (tgt := 73) C dX9_compared_62 (by decide) rfl (fun hc14 => ?_) (fun hc14 => ?_)
    · replace h := h.1 hc14
      refine g_iload_n C rfl dX9_compared_73 rfl ?_
      refine g_iload_n C rfl dX9_compared_74 rfl ?_
      refine g_icmp_le (tgt := 82) C dX9_compared_75 (by decide) rfl (fun hc15 => ?_) (fun hc15 => ?_)
      · replace h := h.1 hc15
        refine g_iconst C ki_0 dX9_compared_82 rfl ?_
        exact g_iret C dX9_compared_83 h
      · replace h := h.2 hc15
        refine g_iconst C ki_1 dX9_compared_78 rfl ?_
        refine g_goto (q := 83) C dX9_compared_79 (by decide) ?_
        exact g_iret C dX9_compared_83 h
    · replace h := h.2 hc14
      refine g_iload_n C rfl dX9_compared_65 rfl ?_
      refine g_iload_n C rfl dX9_compared_66 rfl ?_
      refine g_icmp_ne (tgt := 82) C dX9_compared_67 (by decide) rfl (fun hc16 => ?_) (fun hc16 => ?_)
      · replace h := h.1 hc16
        refine g_iconst C ki_0 dX9_compared_82 rfl ?_
        exact g_iret C dX9_compared_83 h
      · replace h := h.2 hc16
        refine g_goto (q := 78) C dX9_compared_70 (by decide) ?_
        refine g_iconst C ki_1 dX9_compared_78 rfl ?_
        refine g_goto (q := 83) C dX9_compared_79 (by decide) ?_
        exact g_iret C dX9_compared_83 h
  · replace h := h.2 hc13
    refine g_iload_n C rfl dX9_compared_51 rfl ?_
    refine g_iload_n C rfl dX9_compared_52 rfl ?_
    refine g_icmp_ge (tgt := 82) C dX9_compared_53 (by decide) rfl (fun hc17 => ?_) (fun hc17 => ?_)
    · replace h := h.1 hc17
      refine g_iconst C ki_0 dX9_compared_82 rfl ?_
      exact g_iret C dX9_compared_83 h
    · replace h := h.2 hc17
      refine g_goto (q := 78) C dX9_compared_56 (by decide) ?_
      refine g_iconst C ki_1 dX9_compared_78 rfl ?_
      refine g_goto (q := 83) C dX9_compared_79 (by decide) ?_
      exact g_iret C dX9_compared_83 h
set_option maxHeartbeats 4000000 in
set_option maxRecDepth 100000 in
theorem wk_X9_compared (V_l1 : VC_l1) (V_l2 : VC_l2) (V_m1 : VC_m1) {Z : Zt} {m0 dd de : Nat} (hde : de + 1 ≤ dd) (hd1 : 3 ≤ dd) (hr_X9_either : ∀ (f : Fn) , Pre_X9_either f  → mu_X9_either f  < m0 → CT (zl Z) (zE Z) layM yX9_either cX9_either 3 (some .int) de [.ref (zad Z 0)] f (pI (Post_X9_either f ))) (hr_X9_both : ∀ (f : Fn) , Pre_X9_both f  → mu_X9_both f  < m0 → CT (zl Z) (zE Z) layM yX9_both cX9_both 3 (some .int) de [.ref (zad Z 0)] f (pI (Post_X9_both f ))) (hr_X9_compared : ∀ (f : Fn) , Pre_X9_compared f  → mu_X9_compared f  < m0 → CT (zl Z) (zE Z) layM yX9_compared cX9_compared 4 (some .int) de [.ref (zad Z 0)] f (pI (Post_X9_compared f ))) (hr_X9_sum : ∀ (f : Fn) , Pre_X9_sum f  → mu_X9_sum f  < m0 → CT (zl Z) (zE Z) layM yX9_sum cX9_sum 4 (some .int) de [.ref (zad Z 0)] f (pI (Post_X9_sum f ))) (hr_X9_product : ∀ (f : Fn) , Pre_X9_product f  → mu_X9_product f  < m0 → CT (zl Z) (zE Z) layM yX9_product cX9_product 4 (some .int) de [.ref (zad Z 0)] f (pI (Post_X9_product f ))) (hr_X9_unit : ∀ (f : Fn) , Pre_X9_unit f  → mu_X9_unit f  < m0 → CT (zl Z) (zE Z) layM yX9_unit cX9_unit 5 (some .int) de [.ref (zad Z 0)] f (pI (Post_X9_unit f ))) (C : CX Z layM RX9 cX9_compared 4 (some .int) dd)     (f : Fn)  (h : wp_X9_compared m0  f  (zp Z)) : GG Z f [(0, .ref (zad Z 0))] 0 [] := by
  refine g_aload_n C rfl dX9_compared_0 rfl ?_
  have hs1 := h.1
  replace h := h.2
  have hs2 := h.1
  replace h := h.2
  refine g_callVI C tw_907 tw_909 tp_20 tw_10 tw_910 hy_X9_sum (by decide) hde rfl (Nat.le_of_ble_eq_true rfl) rfl rfl (hr_X9_sum f  hs1 hs2) dX9_compared_1 rfl rfl (fun r3 f4 hp5 => ?_)
  replace h := h r3 f4 hp5
  refine g_istore_n (lv' := [(1, .int r3), (0, .ref (zad Z 0))]) C dX9_compared_4 (by decide) rfl rfl ?_
  refine g_aload_n C rfl dX9_compared_5 rfl ?_
  have hs6 := h.1
  replace h := h.2
  refine g_callVD C tw_919 tw_921 tp_23 tw_10 tw_922 hy_X9_here (by decide) (by omega) rfl (Nat.le_of_ble_eq_true rfl) rfl rfl (ct_X9_here V_l1 V_l2 V_m1   f4 hs6) dX9_compared_6 rfl rfl ?_
  refine g_istore_n (lv' := [(2, .int (Val_X9_here f4)), (1, .int r3), (0, .ref (zad Z 0))]) C dX9_compared_9 (by decide) rfl rfl ?_
  refine g_iload_n C rfl dX9_compared_10 rfl ?_
  refine g_bipush C kb_60 dX9_compared_11 rfl ?_
  refine g_icmp_eq (tgt := 30) C dX9_compared_13 (by decide) rfl (fun hc7 => ?_) (fun hc7 => ?_)
  · replace h := h.1 hc7
    refine g_lps [0, 1, 2] rfl ?_
    exact wk_X9_compared_L30 V_l1 V_l2 V_m1 hde hd1 hr_X9_either hr_X9_both hr_X9_compared hr_X9_sum hr_X9_product hr_X9_unit C    _ _ _ h
  · replace h := h.2 hc7
    refine g_iload_n C rfl dX9_compared_16 rfl ?_
    refine g_bipush C kb_61 dX9_compared_17 rfl ?_
    refine g_icmp_eq (tgt := 30) C dX9_compared_19 (by decide) rfl (fun hc18 => ?_) (fun hc18 => ?_)
    · replace h := h.1 hc18
      refine g_lps [0, 1, 2] rfl ?_
      exact wk_X9_compared_L30 V_l1 V_l2 V_m1 hde hd1 hr_X9_either hr_X9_both hr_X9_compared hr_X9_sum hr_X9_product hr_X9_unit C    _ _ _ h
    · replace h := h.2 hc18
      refine g_iload_n C rfl dX9_compared_22 rfl ?_
      refine g_bipush C kb_62 dX9_compared_23 rfl ?_
      refine g_icmp_eq (tgt := 30) C dX9_compared_25 (by decide) rfl (fun hc19 => ?_) (fun hc19 => ?_)
      · replace h := h.1 hc19
        refine g_lps [0, 1, 2] rfl ?_
        exact wk_X9_compared_L30 V_l1 V_l2 V_m1 hde hd1 hr_X9_either hr_X9_both hr_X9_compared hr_X9_sum hr_X9_product hr_X9_unit C    _ _ _ h
      · replace h := h.2 hc19
        refine g_iload_n C rfl dX9_compared_28 rfl ?_
        exact g_iret C dX9_compared_29 h
set_option maxHeartbeats 4000000 in
set_option maxRecDepth 100000 in
theorem wk_X9_sum_L58 (V_l1 : VC_l1) (V_l2 : VC_l2) (V_m1 : VC_m1) {Z : Zt} {m0 dd de : Nat} (hde : de + 1 ≤ dd) (hd1 : 3 ≤ dd) (hr_X9_either : ∀ (f : Fn) , Pre_X9_either f  → mu_X9_either f  < m0 → CT (zl Z) (zE Z) layM yX9_either cX9_either 3 (some .int) de [.ref (zad Z 0)] f (pI (Post_X9_either f ))) (hr_X9_both : ∀ (f : Fn) , Pre_X9_both f  → mu_X9_both f  < m0 → CT (zl Z) (zE Z) layM yX9_both cX9_both 3 (some .int) de [.ref (zad Z 0)] f (pI (Post_X9_both f ))) (hr_X9_compared : ∀ (f : Fn) , Pre_X9_compared f  → mu_X9_compared f  < m0 → CT (zl Z) (zE Z) layM yX9_compared cX9_compared 4 (some .int) de [.ref (zad Z 0)] f (pI (Post_X9_compared f ))) (hr_X9_sum : ∀ (f : Fn) , Pre_X9_sum f  → mu_X9_sum f  < m0 → CT (zl Z) (zE Z) layM yX9_sum cX9_sum 4 (some .int) de [.ref (zad Z 0)] f (pI (Post_X9_sum f ))) (hr_X9_product : ∀ (f : Fn) , Pre_X9_product f  → mu_X9_product f  < m0 → CT (zl Z) (zE Z) layM yX9_product cX9_product 4 (some .int) de [.ref (zad Z 0)] f (pI (Post_X9_product f ))) (hr_X9_unit : ∀ (f : Fn) , Pre_X9_unit f  → mu_X9_unit f  < m0 → CT (zl Z) (zE Z) layM yX9_unit cX9_unit 5 (some .int) de [.ref (zad Z 0)] f (pI (Post_X9_unit f ))) (C : CX Z layM RX9 cX9_sum 4 (some .int) dd)   {K5 : Fn → Int32 → Prop} (hK5 : ∀ (f : Fn) (x1 : Int32), K5 f x1 → GG Z f [(0, .ref (zad Z 0)), (1, .int x1)] 5 []) (f : Fn) (s0 : Int32) (h : wp_X9_sum_L58 m0  K5 f s0 (zp Z)) : GG Z f [(0, .ref (zad Z 0))] 58 [.int s0] := by
  refine g_istore_n (lv' := [(1, .int s0), (0, .ref (zad Z 0))]) C dX9_sum_58 (by decide) rfl rfl ?_
  refine g_goto (q := 5) C dX9_sum_59 (by decide) ?_
  refine g_lps [0, 1] rfl ?_
  exact hK5 _ _ h
set_option maxHeartbeats 4000000 in
set_option maxRecDepth 100000 in
theorem wk_X9_sum_L23 (V_l1 : VC_l1) (V_l2 : VC_l2) (V_m1 : VC_m1) {Z : Zt} {m0 dd de : Nat} (hde : de + 1 ≤ dd) (hd1 : 3 ≤ dd) (hr_X9_either : ∀ (f : Fn) , Pre_X9_either f  → mu_X9_either f  < m0 → CT (zl Z) (zE Z) layM yX9_either cX9_either 3 (some .int) de [.ref (zad Z 0)] f (pI (Post_X9_either f ))) (hr_X9_both : ∀ (f : Fn) , Pre_X9_both f  → mu_X9_both f  < m0 → CT (zl Z) (zE Z) layM yX9_both cX9_both 3 (some .int) de [.ref (zad Z 0)] f (pI (Post_X9_both f ))) (hr_X9_compared : ∀ (f : Fn) , Pre_X9_compared f  → mu_X9_compared f  < m0 → CT (zl Z) (zE Z) layM yX9_compared cX9_compared 4 (some .int) de [.ref (zad Z 0)] f (pI (Post_X9_compared f ))) (hr_X9_sum : ∀ (f : Fn) , Pre_X9_sum f  → mu_X9_sum f  < m0 → CT (zl Z) (zE Z) layM yX9_sum cX9_sum 4 (some .int) de [.ref (zad Z 0)] f (pI (Post_X9_sum f ))) (hr_X9_product : ∀ (f : Fn) , Pre_X9_product f  → mu_X9_product f  < m0 → CT (zl Z) (zE Z) layM yX9_product cX9_product 4 (some .int) de [.ref (zad Z 0)] f (pI (Post_X9_product f ))) (hr_X9_unit : ∀ (f : Fn) , Pre_X9_unit f  → mu_X9_unit f  < m0 → CT (zl Z) (zE Z) layM yX9_unit cX9_unit 5 (some .int) de [.ref (zad Z 0)] f (pI (Post_X9_unit f ))) (C : CX Z layM RX9 cX9_sum 4 (some .int) dd)   {K5 : Fn → Int32 → Prop} (hK5 : ∀ (f : Fn) (x1 : Int32), K5 f x1 → GG Z f [(0, .ref (zad Z 0)), (1, .int x1)] 5 []) (f : Fn) (x1 : Int32) (h : wp_X9_sum_L23 m0  K5 f x1 (zp Z)) : GG Z f [(0, .ref (zad Z 0)), (1, .int x1)] 23 [] := by
  refine g_aload_n C rfl dX9_sum_23 rfl ?_
  have hs8 := h.1
  replace h := h.2
  refine g_callVD C tw_919 tw_921 tp_23 tw_10 tw_922 hy_X9_here (by decide) (by omega) rfl (Nat.le_of_ble_eq_true rfl) rfl rfl (ct_X9_here V_l1 V_l2 V_m1   f hs8) dX9_sum_24 rfl rfl ?_
  refine g_istore_n (lv' := [(2, .int (Val_X9_here f)), (0, .ref (zad Z 0)), (1, .int x1)]) C dX9_sum_27 (by decide) rfl rfl ?_
  refine g_aload_n C rfl dX9_sum_28 rfl ?_
  refine g_dup C rfl dX9_sum_29 rfl ?_
  refine fg_X9_49I (k := 0) (x := (f 0 5)) C rfl rfl rfl dX9_sum_30 rfl ?_
  refine g_iconst C ki_1 dX9_sum_33 rfl ?_
  refine g_iadd C dX9_sum_34 rfl ?_
  refine fp_X9_49 (k := 0) C rfl rfl (Nat.le_of_ble_eq_true rfl) dX9_sum_35 rfl ?_
  refine g_aload_n C rfl dX9_sum_38 rfl ?_
  have hs9 := h.1
  replace h := h.2
  have hs10 := h.1
  replace h := h.2
  refine g_callVI C tw_911 tw_913 tp_21 tw_10 tw_914 hy_X9_product (by decide) hde rfl (Nat.le_of_ble_eq_true rfl) rfl rfl (hr_X9_product (up2 f 0 5 ((f 0 5) + (1 : Int32)))  hs9 hs10) dX9_sum_39 rfl rfl (fun r11 f12 hp13 => ?_)
  replace h := h r11 f12 hp13
  refine g_istore_n (lv' := [(3, .int r11), (2, .int (Val_X9_here f)), (0, .ref (zad Z 0)), (1, .int x1)]) C dX9_sum_42 (by decide) rfl rfl ?_
  refine g_iload_n C rfl dX9_sum_43 rfl ?_
  refine g_bipush C kb_43 dX9_sum_44 rfl ?_
  refine g_icmp_ne (tgt := 55) C dX9_sum_46 (by decide) rfl (fun hc14 => ?_) (fun hc14 => ?_)
  · replace h := h.1 hc14
    refine g_iload_n C rfl dX9_sum_55 rfl ?_
    refine g_iload_n C rfl dX9_sum_56 rfl ?_
    refine g_isub C dX9_sum_57 rfl ?_
    refine g_lps [0] rfl ?_
    exact wk_X9_sum_L58 V_l1 V_l2 V_m1 hde hd1 hr_X9_either hr_X9_both hr_X9_compared hr_X9_sum hr_X9_product hr_X9_unit C   hK5 _ _ h
  · replace h := h.2 hc14
    refine g_iload_n C rfl dX9_sum_49 rfl ?_
    refine g_iload_n C rfl dX9_sum_50 rfl ?_
    refine g_iadd C dX9_sum_51 rfl ?_
    refine g_goto (q := 58) C dX9_sum_52 (by decide) ?_
    refine g_lps [0] rfl ?_
    exact wk_X9_sum_L58 V_l1 V_l2 V_m1 hde hd1 hr_X9_either hr_X9_both hr_X9_compared hr_X9_sum hr_X9_product hr_X9_unit C   hK5 _ _ h
set_option maxHeartbeats 4000000 in
set_option maxRecDepth 100000 in
theorem wkb_X9_sum_L5 (V_l1 : VC_l1) (V_l2 : VC_l2) (V_m1 : VC_m1) {Z : Zt} {m0 dd de : Nat} (hde : de + 1 ≤ dd) (hd1 : 3 ≤ dd) (hr_X9_either : ∀ (f : Fn) , Pre_X9_either f  → mu_X9_either f  < m0 → CT (zl Z) (zE Z) layM yX9_either cX9_either 3 (some .int) de [.ref (zad Z 0)] f (pI (Post_X9_either f ))) (hr_X9_both : ∀ (f : Fn) , Pre_X9_both f  → mu_X9_both f  < m0 → CT (zl Z) (zE Z) layM yX9_both cX9_both 3 (some .int) de [.ref (zad Z 0)] f (pI (Post_X9_both f ))) (hr_X9_compared : ∀ (f : Fn) , Pre_X9_compared f  → mu_X9_compared f  < m0 → CT (zl Z) (zE Z) layM yX9_compared cX9_compared 4 (some .int) de [.ref (zad Z 0)] f (pI (Post_X9_compared f ))) (hr_X9_sum : ∀ (f : Fn) , Pre_X9_sum f  → mu_X9_sum f  < m0 → CT (zl Z) (zE Z) layM yX9_sum cX9_sum 4 (some .int) de [.ref (zad Z 0)] f (pI (Post_X9_sum f ))) (hr_X9_product : ∀ (f : Fn) , Pre_X9_product f  → mu_X9_product f  < m0 → CT (zl Z) (zE Z) layM yX9_product cX9_product 4 (some .int) de [.ref (zad Z 0)] f (pI (Post_X9_product f ))) (hr_X9_unit : ∀ (f : Fn) , Pre_X9_unit f  → mu_X9_unit f  < m0 → CT (zl Z) (zE Z) layM yX9_unit cX9_unit 5 (some .int) de [.ref (zad Z 0)] f (pI (Post_X9_unit f ))) (C : CX Z layM RX9 cX9_sum 4 (some .int) dd)   {K5 : Fn → Int32 → Prop} (hK5 : ∀ (f : Fn) (x1 : Int32), K5 f x1 → GG Z f [(0, .ref (zad Z 0)), (1, .int x1)] 5 []) (f : Fn) (x1 : Int32) (h : wpb_X9_sum_L5 m0   K5 f x1 (zp Z)) : GG Z f [(0, .ref (zad Z 0)), (1, .int x1)] 5 [] := by
  refine g_aload_n C rfl dX9_sum_5 rfl ?_
  have hs6 := h.1
  replace h := h.2
  refine g_callVD C tw_919 tw_921 tp_23 tw_10 tw_922 hy_X9_here (by decide) (by omega) rfl (Nat.le_of_ble_eq_true rfl) rfl rfl (ct_X9_here V_l1 V_l2 V_m1   f hs6) dX9_sum_6 rfl rfl ?_
  refine g_bipush C kb_43 dX9_sum_9 rfl ?_
  refine g_icmp_eq (tgt := 23) C dX9_sum_11 (by decide) rfl (fun hc7 => ?_) (fun hc7 => ?_)
  · replace h := h.1 hc7
    exact wk_X9_sum_L23 V_l1 V_l2 V_m1 hde hd1 hr_X9_either hr_X9_both hr_X9_compared hr_X9_sum hr_X9_product hr_X9_unit C   hK5 _ _ h
  · replace h := h.2 hc7
    refine g_aload_n C rfl dX9_sum_14 rfl ?_
    have hs15 := h.1
    replace h := h.2
    refine g_callVD C tw_919 tw_921 tp_23 tw_10 tw_922 hy_X9_here (by decide) (by omega) rfl (Nat.le_of_ble_eq_true rfl) rfl rfl (ct_X9_here V_l1 V_l2 V_m1   f hs15) dX9_sum_15 rfl rfl ?_
    refine g_bipush C kb_45 dX9_sum_18 rfl ?_
    refine g_icmp_ne (tgt := 62) C dX9_sum_20 (by decide) rfl (fun hc16 => ?_) (fun hc16 => ?_)
    · replace h := h.1 hc16
      refine g_iload_n C rfl dX9_sum_62 rfl ?_
      exact g_iret C dX9_sum_63 h
    · replace h := h.2 hc16
      exact wk_X9_sum_L23 V_l1 V_l2 V_m1 hde hd1 hr_X9_either hr_X9_both hr_X9_compared hr_X9_sum hr_X9_product hr_X9_unit C   hK5 _ _ h
set_option maxHeartbeats 4000000 in
set_option maxRecDepth 100000 in
theorem wk_X9_sum_L5 (V_l1 : VC_l1) (V_l2 : VC_l2) (V_m1 : VC_m1) {Z : Zt} {m0 dd de : Nat} (hde : de + 1 ≤ dd) (hd1 : 3 ≤ dd) (hr_X9_either : ∀ (f : Fn) , Pre_X9_either f  → mu_X9_either f  < m0 → CT (zl Z) (zE Z) layM yX9_either cX9_either 3 (some .int) de [.ref (zad Z 0)] f (pI (Post_X9_either f ))) (hr_X9_both : ∀ (f : Fn) , Pre_X9_both f  → mu_X9_both f  < m0 → CT (zl Z) (zE Z) layM yX9_both cX9_both 3 (some .int) de [.ref (zad Z 0)] f (pI (Post_X9_both f ))) (hr_X9_compared : ∀ (f : Fn) , Pre_X9_compared f  → mu_X9_compared f  < m0 → CT (zl Z) (zE Z) layM yX9_compared cX9_compared 4 (some .int) de [.ref (zad Z 0)] f (pI (Post_X9_compared f ))) (hr_X9_sum : ∀ (f : Fn) , Pre_X9_sum f  → mu_X9_sum f  < m0 → CT (zl Z) (zE Z) layM yX9_sum cX9_sum 4 (some .int) de [.ref (zad Z 0)] f (pI (Post_X9_sum f ))) (hr_X9_product : ∀ (f : Fn) , Pre_X9_product f  → mu_X9_product f  < m0 → CT (zl Z) (zE Z) layM yX9_product cX9_product 4 (some .int) de [.ref (zad Z 0)] f (pI (Post_X9_product f ))) (hr_X9_unit : ∀ (f : Fn) , Pre_X9_unit f  → mu_X9_unit f  < m0 → CT (zl Z) (zE Z) layM yX9_unit cX9_unit 5 (some .int) de [.ref (zad Z 0)] f (pI (Post_X9_unit f ))) (C : CX Z layM RX9 cX9_sum 4 (some .int) dd)     (f : Fn) (x1 : Int32) (h : wp_X9_sum_L5 m0   f x1 (zp Z)) : GG Z f [(0, .ref (zad Z 0)), (1, .int x1)] 5 [] := by
  obtain ⟨I, μ, h0, hs⟩ := h
  suffices H : ∀ (N : Nat) (f : Fn) (x1 : Int32), μ f x1 < N → I f x1 → GG Z f [(0, .ref (zad Z 0)), (1, .int x1)] 5 [] from H _ f x1 (Nat.lt_succ_self _) h0
  clear h0
  intro N
  induction N with
  | zero => intro f x1 hm; exact absurd hm (Nat.not_lt_zero _)
  | succ N ih =>
    intro f x1 hm hi
    exact wkb_X9_sum_L5 V_l1 V_l2 V_m1 hde hd1 hr_X9_either hr_X9_both hr_X9_compared hr_X9_sum hr_X9_product hr_X9_unit C    (fun f9 x19 hk => ih f9 x19 (Nat.lt_of_lt_of_le hk.2 (Nat.le_of_lt_succ hm)) hk.1) f x1 (hs f x1 hi)
set_option maxHeartbeats 4000000 in
set_option maxRecDepth 100000 in
theorem wk_X9_sum (V_l1 : VC_l1) (V_l2 : VC_l2) (V_m1 : VC_m1) {Z : Zt} {m0 dd de : Nat} (hde : de + 1 ≤ dd) (hd1 : 3 ≤ dd) (hr_X9_either : ∀ (f : Fn) , Pre_X9_either f  → mu_X9_either f  < m0 → CT (zl Z) (zE Z) layM yX9_either cX9_either 3 (some .int) de [.ref (zad Z 0)] f (pI (Post_X9_either f ))) (hr_X9_both : ∀ (f : Fn) , Pre_X9_both f  → mu_X9_both f  < m0 → CT (zl Z) (zE Z) layM yX9_both cX9_both 3 (some .int) de [.ref (zad Z 0)] f (pI (Post_X9_both f ))) (hr_X9_compared : ∀ (f : Fn) , Pre_X9_compared f  → mu_X9_compared f  < m0 → CT (zl Z) (zE Z) layM yX9_compared cX9_compared 4 (some .int) de [.ref (zad Z 0)] f (pI (Post_X9_compared f ))) (hr_X9_sum : ∀ (f : Fn) , Pre_X9_sum f  → mu_X9_sum f  < m0 → CT (zl Z) (zE Z) layM yX9_sum cX9_sum 4 (some .int) de [.ref (zad Z 0)] f (pI (Post_X9_sum f ))) (hr_X9_product : ∀ (f : Fn) , Pre_X9_product f  → mu_X9_product f  < m0 → CT (zl Z) (zE Z) layM yX9_product cX9_product 4 (some .int) de [.ref (zad Z 0)] f (pI (Post_X9_product f ))) (hr_X9_unit : ∀ (f : Fn) , Pre_X9_unit f  → mu_X9_unit f  < m0 → CT (zl Z) (zE Z) layM yX9_unit cX9_unit 5 (some .int) de [.ref (zad Z 0)] f (pI (Post_X9_unit f ))) (C : CX Z layM RX9 cX9_sum 4 (some .int) dd)     (f : Fn)  (h : wp_X9_sum m0  f  (zp Z)) : GG Z f [(0, .ref (zad Z 0))] 0 [] := by
  refine g_aload_n C rfl dX9_sum_0 rfl ?_
  have hs1 := h.1
  replace h := h.2
  have hs2 := h.1
  replace h := h.2
  refine g_callVI C tw_911 tw_913 tp_21 tw_10 tw_914 hy_X9_product (by decide) hde rfl (Nat.le_of_ble_eq_true rfl) rfl rfl (hr_X9_product f  hs1 hs2) dX9_sum_1 rfl rfl (fun r3 f4 hp5 => ?_)
  replace h := h r3 f4 hp5
  refine g_istore_n (lv' := [(1, .int r3), (0, .ref (zad Z 0))]) C dX9_sum_4 (by decide) rfl rfl ?_
  refine g_lps [0, 1] rfl ?_
  exact wk_X9_sum_L5 V_l1 V_l2 V_m1 hde hd1 hr_X9_either hr_X9_both hr_X9_compared hr_X9_sum hr_X9_product hr_X9_unit C    _ _ h
set_option maxHeartbeats 4000000 in
set_option maxRecDepth 100000 in
theorem wk_X9_product_L87 (V_l1 : VC_l1) (V_l2 : VC_l2) (V_m1 : VC_m1) {Z : Zt} {m0 dd de : Nat} (hde : de + 1 ≤ dd) (hd1 : 3 ≤ dd) (hr_X9_either : ∀ (f : Fn) , Pre_X9_either f  → mu_X9_either f  < m0 → CT (zl Z) (zE Z) layM yX9_either cX9_either 3 (some .int) de [.ref (zad Z 0)] f (pI (Post_X9_either f ))) (hr_X9_both : ∀ (f : Fn) , Pre_X9_both f  → mu_X9_both f  < m0 → CT (zl Z) (zE Z) layM yX9_both cX9_both 3 (some .int) de [.ref (zad Z 0)] f (pI (Post_X9_both f ))) (hr_X9_compared : ∀ (f : Fn) , Pre_X9_compared f  → mu_X9_compared f  < m0 → CT (zl Z) (zE Z) layM yX9_compared cX9_compared 4 (some .int) de [.ref (zad Z 0)] f (pI (Post_X9_compared f ))) (hr_X9_sum : ∀ (f : Fn) , Pre_X9_sum f  → mu_X9_sum f  < m0 → CT (zl Z) (zE Z) layM yX9_sum cX9_sum 4 (some .int) de [.ref (zad Z 0)] f (pI (Post_X9_sum f ))) (hr_X9_product : ∀ (f : Fn) , Pre_X9_product f  → mu_X9_product f  < m0 → CT (zl Z) (zE Z) layM yX9_product cX9_product 4 (some .int) de [.ref (zad Z 0)] f (pI (Post_X9_product f ))) (hr_X9_unit : ∀ (f : Fn) , Pre_X9_unit f  → mu_X9_unit f  < m0 → CT (zl Z) (zE Z) layM yX9_unit cX9_unit 5 (some .int) de [.ref (zad Z 0)] f (pI (Post_X9_unit f ))) (C : CX Z layM RX9 cX9_product 4 (some .int) dd)   {K5 : Fn → Int32 → Prop} (hK5 : ∀ (f : Fn) (x1 : Int32), K5 f x1 → GG Z f [(0, .ref (zad Z 0)), (1, .int x1)] 5 []) (f : Fn) (s0 : Int32) (h : wp_X9_product_L87 m0  K5 f s0 (zp Z)) : GG Z f [(0, .ref (zad Z 0))] 87 [.int s0] := by
  refine g_istore_n (lv' := [(1, .int s0), (0, .ref (zad Z 0))]) C dX9_product_87 (by decide) rfl rfl ?_
  refine g_goto (q := 5) C dX9_product_88 (by decide) ?_
  refine g_lps [0, 1] rfl ?_
  exact hK5 _ _ h
set_option maxHeartbeats 4000000 in
set_option maxRecDepth 100000 in
theorem wk_X9_product_L32 (V_l1 : VC_l1) (V_l2 : VC_l2) (V_m1 : VC_m1) {Z : Zt} {m0 dd de : Nat} (hde : de + 1 ≤ dd) (hd1 : 3 ≤ dd) (hr_X9_either : ∀ (f : Fn) , Pre_X9_either f  → mu_X9_either f  < m0 → CT (zl Z) (zE Z) layM yX9_either cX9_either 3 (some .int) de [.ref (zad Z 0)] f (pI (Post_X9_either f ))) (hr_X9_both : ∀ (f : Fn) , Pre_X9_both f  → mu_X9_both f  < m0 → CT (zl Z) (zE Z) layM yX9_both cX9_both 3 (some .int) de [.ref (zad Z 0)] f (pI (Post_X9_both f ))) (hr_X9_compared : ∀ (f : Fn) , Pre_X9_compared f  → mu_X9_compared f  < m0 → CT (zl Z) (zE Z) layM yX9_compared cX9_compared 4 (some .int) de [.ref (zad Z 0)] f (pI (Post_X9_compared f ))) (hr_X9_sum : ∀ (f : Fn) , Pre_X9_sum f  → mu_X9_sum f  < m0 → CT (zl Z) (zE Z) layM yX9_sum cX9_sum 4 (some .int) de [.ref (zad Z 0)] f (pI (Post_X9_sum f ))) (hr_X9_product : ∀ (f : Fn) , Pre_X9_product f  → mu_X9_product f  < m0 → CT (zl Z) (zE Z) layM yX9_product cX9_product 4 (some .int) de [.ref (zad Z 0)] f (pI (Post_X9_product f ))) (hr_X9_unit : ∀ (f : Fn) , Pre_X9_unit f  → mu_X9_unit f  < m0 → CT (zl Z) (zE Z) layM yX9_unit cX9_unit 5 (some .int) de [.ref (zad Z 0)] f (pI (Post_X9_unit f ))) (C : CX Z layM RX9 cX9_product 4 (some .int) dd)   {K5 : Fn → Int32 → Prop} (hK5 : ∀ (f : Fn) (x1 : Int32), K5 f x1 → GG Z f [(0, .ref (zad Z 0)), (1, .int x1)] 5 []) (f : Fn) (x1 : Int32) (h : wp_X9_product_L32 m0  K5 f x1 (zp Z)) : GG Z f [(0, .ref (zad Z 0)), (1, .int x1)] 32 [] := by
  refine g_aload_n C rfl dX9_product_32 rfl ?_
  have hs8 := h.1
  replace h := h.2
  refine g_callVD C tw_919 tw_921 tp_23 tw_10 tw_922 hy_X9_here (by decide) (by omega) rfl (Nat.le_of_ble_eq_true rfl) rfl rfl (ct_X9_here V_l1 V_l2 V_m1   f hs8) dX9_product_33 rfl rfl ?_
  refine g_istore_n (lv' := [(2, .int (Val_X9_here f)), (0, .ref (zad Z 0)), (1, .int x1)]) C dX9_product_36 (by decide) rfl rfl ?_
  refine g_aload_n C rfl dX9_product_37 rfl ?_
  refine g_dup C rfl dX9_product_38 rfl ?_
  refine fg_X9_49I (k := 0) (x := (f 0 5)) C rfl rfl rfl dX9_product_39 rfl ?_
  refine g_iconst C ki_1 dX9_product_42 rfl ?_
  refine g_iadd C dX9_product_43 rfl ?_
  refine fp_X9_49 (k := 0) C rfl rfl (Nat.le_of_ble_eq_true rfl) dX9_product_44 rfl ?_
  refine g_aload_n C rfl dX9_product_47 rfl ?_
  have hs9 := h.1
  replace h := h.2
  have hs10 := h.1
  replace h := h.2
  refine g_callVI C tw_915 tw_917 tp_22 tw_10 tw_918 hy_X9_unit (by decide) hde rfl (Nat.le_of_ble_eq_true rfl) rfl rfl (hr_X9_unit (up2 f 0 5 ((f 0 5) + (1 : Int32)))  hs9 hs10) dX9_product_48 rfl rfl (fun r11 f12 hp13 => ?_)
  replace h := h r11 f12 hp13
  refine g_istore_n (lv' := [(3, .int r11), (2, .int (Val_X9_here f)), (0, .ref (zad Z 0)), (1, .int x1)]) C dX9_product_51 (by decide) rfl rfl ?_
  refine g_iload_n C rfl dX9_product_52 rfl ?_
  refine g_bipush C kb_42 dX9_product_53 rfl ?_
  refine g_icmp_ne (tgt := 64) C dX9_product_55 (by decide) rfl (fun hc14 => ?_) (fun hc14 => ?_)
  · replace h := h.1 hc14
    refine g_iload_n C rfl dX9_product_64 rfl ?_
    refine g_if_ne (tgt := 72) C dX9_product_65 (by decide) rfl (fun hc15 => ?_) (fun hc15 => ?_)
    · replace h := h.1 hc15
      refine g_iload_n C rfl dX9_product_72 rfl ?_
      refine g_bipush C kb_47 dX9_product_73 rfl ?_
      refine g_icmp_ne (tgt := 84) C dX9_product_75 (by decide) rfl (fun hc16 => ?_) (fun hc16 => ?_)
      · replace h := h.1 hc16
        refine g_iload_n C rfl dX9_product_84 rfl ?_
        refine g_iload_n C rfl dX9_product_85 rfl ?_
        have hs17 := h.1
        replace h := h.2
        refine g_irem C hs17 dX9_product_86 rfl ?_
        refine g_lps [0] rfl ?_
        exact wk_X9_product_L87 V_l1 V_l2 V_m1 hde hd1 hr_X9_either hr_X9_both hr_X9_compared hr_X9_sum hr_X9_product hr_X9_unit C   hK5 _ _ h
      · replace h := h.2 hc16
        refine g_iload_n C rfl dX9_product_78 rfl ?_
        refine g_iload_n C rfl dX9_product_79 rfl ?_
        have hs18 := h.1
        replace h := h.2
        refine g_idiv C hs18 dX9_product_80 rfl ?_
        refine g_goto (q := 87) C dX9_product_81 (by decide) ?_
        refine g_lps [0] rfl ?_
        exact wk_X9_product_L87 V_l1 V_l2 V_m1 hde hd1 hr_X9_either hr_X9_both hr_X9_compared hr_X9_sum hr_X9_product hr_X9_unit C   hK5 _ _ h
    · replace h := h.2 hc15
      refine g_iconst C ki_0 dX9_product_68 rfl ?_
      refine g_goto (q := 87) C dX9_product_69 (by decide) ?_
      refine g_lps [0] rfl ?_
      exact wk_X9_product_L87 V_l1 V_l2 V_m1 hde hd1 hr_X9_either hr_X9_both hr_X9_compared hr_X9_sum hr_X9_product hr_X9_unit C   hK5 _ _ h
  · replace h := h.2 hc14
    refine g_iload_n C rfl dX9_product_58 rfl ?_
    refine g_iload_n C rfl dX9_product_59 rfl ?_
    refine g_imul C dX9_product_60 rfl ?_
    refine g_goto (q := 87) C dX9_product_61 (by decide) ?_
    refine g_lps [0] rfl ?_
    exact wk_X9_product_L87 V_l1 V_l2 V_m1 hde hd1 hr_X9_either hr_X9_both hr_X9_compared hr_X9_sum hr_X9_product hr_X9_unit C   hK5 _ _ h
set_option maxHeartbeats 4000000 in
set_option maxRecDepth 100000 in
theorem wkb_X9_product_L5 (V_l1 : VC_l1) (V_l2 : VC_l2) (V_m1 : VC_m1) {Z : Zt} {m0 dd de : Nat} (hde : de + 1 ≤ dd) (hd1 : 3 ≤ dd) (hr_X9_either : ∀ (f : Fn) , Pre_X9_either f  → mu_X9_either f  < m0 → CT (zl Z) (zE Z) layM yX9_either cX9_either 3 (some .int) de [.ref (zad Z 0)] f (pI (Post_X9_either f ))) (hr_X9_both : ∀ (f : Fn) , Pre_X9_both f  → mu_X9_both f  < m0 → CT (zl Z) (zE Z) layM yX9_both cX9_both 3 (some .int) de [.ref (zad Z 0)] f (pI (Post_X9_both f ))) (hr_X9_compared : ∀ (f : Fn) , Pre_X9_compared f  → mu_X9_compared f  < m0 → CT (zl Z) (zE Z) layM yX9_compared cX9_compared 4 (some .int) de [.ref (zad Z 0)] f (pI (Post_X9_compared f ))) (hr_X9_sum : ∀ (f : Fn) , Pre_X9_sum f  → mu_X9_sum f  < m0 → CT (zl Z) (zE Z) layM yX9_sum cX9_sum 4 (some .int) de [.ref (zad Z 0)] f (pI (Post_X9_sum f ))) (hr_X9_product : ∀ (f : Fn) , Pre_X9_product f  → mu_X9_product f  < m0 → CT (zl Z) (zE Z) layM yX9_product cX9_product 4 (some .int) de [.ref (zad Z 0)] f (pI (Post_X9_product f ))) (hr_X9_unit : ∀ (f : Fn) , Pre_X9_unit f  → mu_X9_unit f  < m0 → CT (zl Z) (zE Z) layM yX9_unit cX9_unit 5 (some .int) de [.ref (zad Z 0)] f (pI (Post_X9_unit f ))) (C : CX Z layM RX9 cX9_product 4 (some .int) dd)   {K5 : Fn → Int32 → Prop} (hK5 : ∀ (f : Fn) (x1 : Int32), K5 f x1 → GG Z f [(0, .ref (zad Z 0)), (1, .int x1)] 5 []) (f : Fn) (x1 : Int32) (h : wpb_X9_product_L5 m0   K5 f x1 (zp Z)) : GG Z f [(0, .ref (zad Z 0)), (1, .int x1)] 5 [] := by
  refine g_aload_n C rfl dX9_product_5 rfl ?_
  have hs6 := h.1
  replace h := h.2
  refine g_callVD C tw_919 tw_921 tp_23 tw_10 tw_922 hy_X9_here (by decide) (by omega) rfl (Nat.le_of_ble_eq_true rfl) rfl rfl (ct_X9_here V_l1 V_l2 V_m1   f hs6) dX9_product_6 rfl rfl ?_
  refine g_bipush C kb_42 dX9_product_9 rfl ?_
  refine g_icmp_eq (tgt := 32) C dX9_product_11 (by decide) rfl (fun hc7 => ?_) (fun hc7 => ?_)
  · replace h := h.1 hc7
    exact wk_X9_product_L32 V_l1 V_l2 V_m1 hde hd1 hr_X9_either hr_X9_both hr_X9_compared hr_X9_sum hr_X9_product hr_X9_unit C   hK5 _ _ h
  · replace h := h.2 hc7
    refine g_aload_n C rfl dX9_product_14 rfl ?_
    have hs19 := h.1
    replace h := h.2
    refine g_callVD C tw_919 tw_921 tp_23 tw_10 tw_922 hy_X9_here (by decide) (by omega) rfl (Nat.le_of_ble_eq_true rfl) rfl rfl (ct_X9_here V_l1 V_l2 V_m1   f hs19) dX9_product_15 rfl rfl ?_
    refine g_bipush C kb_47 dX9_product_18 rfl ?_
    refine g_icmp_eq (tgt := 32) C dX9_product_20 (by decide) rfl (fun hc20 => ?_) (fun hc20 => ?_)
    · replace h := h.1 hc20
      exact wk_X9_product_L32 V_l1 V_l2 V_m1 hde hd1 hr_X9_either hr_X9_both hr_X9_compared hr_X9_sum hr_X9_product hr_X9_unit C   hK5 _ _ h
    · replace h := h.2 hc20
      refine g_aload_n C rfl dX9_product_23 rfl ?_
      have hs21 := h.1
      replace h := h.2
      refine g_callVD C tw_919 tw_921 tp_23 tw_10 tw_922 hy_X9_here (by decide) (by omega) rfl (Nat.le_of_ble_eq_true rfl) rfl rfl (ct_X9_here V_l1 V_l2 V_m1   f hs21) dX9_product_24 rfl rfl ?_
      refine g_bipush C kb_37 dX9_product_27 rfl ?_
      refine g_icmp_ne (tgt := 91) C dX9_product_29 (by decide) rfl (fun hc22 => ?_) (fun hc22 => ?_)
      · replace h := h.1 hc22
        refine g_iload_n C rfl dX9_product_91 rfl ?_
        exact g_iret C dX9_product_92 h
      · replace h := h.2 hc22
        exact wk_X9_product_L32 V_l1 V_l2 V_m1 hde hd1 hr_X9_either hr_X9_both hr_X9_compared hr_X9_sum hr_X9_product hr_X9_unit C   hK5 _ _ h
set_option maxHeartbeats 4000000 in
set_option maxRecDepth 100000 in
theorem wk_X9_product_L5 (V_l1 : VC_l1) (V_l2 : VC_l2) (V_m1 : VC_m1) {Z : Zt} {m0 dd de : Nat} (hde : de + 1 ≤ dd) (hd1 : 3 ≤ dd) (hr_X9_either : ∀ (f : Fn) , Pre_X9_either f  → mu_X9_either f  < m0 → CT (zl Z) (zE Z) layM yX9_either cX9_either 3 (some .int) de [.ref (zad Z 0)] f (pI (Post_X9_either f ))) (hr_X9_both : ∀ (f : Fn) , Pre_X9_both f  → mu_X9_both f  < m0 → CT (zl Z) (zE Z) layM yX9_both cX9_both 3 (some .int) de [.ref (zad Z 0)] f (pI (Post_X9_both f ))) (hr_X9_compared : ∀ (f : Fn) , Pre_X9_compared f  → mu_X9_compared f  < m0 → CT (zl Z) (zE Z) layM yX9_compared cX9_compared 4 (some .int) de [.ref (zad Z 0)] f (pI (Post_X9_compared f ))) (hr_X9_sum : ∀ (f : Fn) , Pre_X9_sum f  → mu_X9_sum f  < m0 → CT (zl Z) (zE Z) layM yX9_sum cX9_sum 4 (some .int) de [.ref (zad Z 0)] f (pI (Post_X9_sum f ))) (hr_X9_product : ∀ (f : Fn) , Pre_X9_product f  → mu_X9_product f  < m0 → CT (zl Z) (zE Z) layM yX9_product cX9_product 4 (some .int) de [.ref (zad Z 0)] f (pI (Post_X9_product f ))) (hr_X9_unit : ∀ (f : Fn) , Pre_X9_unit f  → mu_X9_unit f  < m0 → CT (zl Z) (zE Z) layM yX9_unit cX9_unit 5 (some .int) de [.ref (zad Z 0)] f (pI (Post_X9_unit f ))) (C : CX Z layM RX9 cX9_product 4 (some .int) dd)     (f : Fn) (x1 : Int32) (h : wp_X9_product_L5 m0   f x1 (zp Z)) : GG Z f [(0, .ref (zad Z 0)), (1, .int x1)] 5 [] := by
  obtain ⟨I, μ, h0, hs⟩ := h
  suffices H : ∀ (N : Nat) (f : Fn) (x1 : Int32), μ f x1 < N → I f x1 → GG Z f [(0, .ref (zad Z 0)), (1, .int x1)] 5 [] from H _ f x1 (Nat.lt_succ_self _) h0
  clear h0
  intro N
  induction N with
  | zero => intro f x1 hm; exact absurd hm (Nat.not_lt_zero _)
  | succ N ih =>
    intro f x1 hm hi
    exact wkb_X9_product_L5 V_l1 V_l2 V_m1 hde hd1 hr_X9_either hr_X9_both hr_X9_compared hr_X9_sum hr_X9_product hr_X9_unit C    (fun f9 x19 hk => ih f9 x19 (Nat.lt_of_lt_of_le hk.2 (Nat.le_of_lt_succ hm)) hk.1) f x1 (hs f x1 hi)
set_option maxHeartbeats 4000000 in
set_option maxRecDepth 100000 in
theorem wk_X9_product (V_l1 : VC_l1) (V_l2 : VC_l2) (V_m1 : VC_m1) {Z : Zt} {m0 dd de : Nat} (hde : de + 1 ≤ dd) (hd1 : 3 ≤ dd) (hr_X9_either : ∀ (f : Fn) , Pre_X9_either f  → mu_X9_either f  < m0 → CT (zl Z) (zE Z) layM yX9_either cX9_either 3 (some .int) de [.ref (zad Z 0)] f (pI (Post_X9_either f ))) (hr_X9_both : ∀ (f : Fn) , Pre_X9_both f  → mu_X9_both f  < m0 → CT (zl Z) (zE Z) layM yX9_both cX9_both 3 (some .int) de [.ref (zad Z 0)] f (pI (Post_X9_both f ))) (hr_X9_compared : ∀ (f : Fn) , Pre_X9_compared f  → mu_X9_compared f  < m0 → CT (zl Z) (zE Z) layM yX9_compared cX9_compared 4 (some .int) de [.ref (zad Z 0)] f (pI (Post_X9_compared f ))) (hr_X9_sum : ∀ (f : Fn) , Pre_X9_sum f  → mu_X9_sum f  < m0 → CT (zl Z) (zE Z) layM yX9_sum cX9_sum 4 (some .int) de [.ref (zad Z 0)] f (pI (Post_X9_sum f ))) (hr_X9_product : ∀ (f : Fn) , Pre_X9_product f  → mu_X9_product f  < m0 → CT (zl Z) (zE Z) layM yX9_product cX9_product 4 (some .int) de [.ref (zad Z 0)] f (pI (Post_X9_product f ))) (hr_X9_unit : ∀ (f : Fn) , Pre_X9_unit f  → mu_X9_unit f  < m0 → CT (zl Z) (zE Z) layM yX9_unit cX9_unit 5 (some .int) de [.ref (zad Z 0)] f (pI (Post_X9_unit f ))) (C : CX Z layM RX9 cX9_product 4 (some .int) dd)     (f : Fn)  (h : wp_X9_product m0  f  (zp Z)) : GG Z f [(0, .ref (zad Z 0))] 0 [] := by
  refine g_aload_n C rfl dX9_product_0 rfl ?_
  have hs1 := h.1
  replace h := h.2
  have hs2 := h.1
  replace h := h.2
  refine g_callVI C tw_915 tw_917 tp_22 tw_10 tw_918 hy_X9_unit (by decide) hde rfl (Nat.le_of_ble_eq_true rfl) rfl rfl (hr_X9_unit f  hs1 hs2) dX9_product_1 rfl rfl (fun r3 f4 hp5 => ?_)
  replace h := h r3 f4 hp5
  refine g_istore_n (lv' := [(1, .int r3), (0, .ref (zad Z 0))]) C dX9_product_4 (by decide) rfl rfl ?_
  refine g_lps [0, 1] rfl ?_
  exact wk_X9_product_L5 V_l1 V_l2 V_m1 hde hd1 hr_X9_either hr_X9_both hr_X9_compared hr_X9_sum hr_X9_product hr_X9_unit C    _ _ h
set_option maxHeartbeats 4000000 in
set_option maxRecDepth 100000 in
theorem wk_X9_unit_L88 (V_l1 : VC_l1) (V_l2 : VC_l2) (V_m1 : VC_m1) {Z : Zt} {m0 dd de : Nat} (hde : de + 1 ≤ dd) (hd1 : 3 ≤ dd) (hr_X9_either : ∀ (f : Fn) , Pre_X9_either f  → mu_X9_either f  < m0 → CT (zl Z) (zE Z) layM yX9_either cX9_either 3 (some .int) de [.ref (zad Z 0)] f (pI (Post_X9_either f ))) (hr_X9_both : ∀ (f : Fn) , Pre_X9_both f  → mu_X9_both f  < m0 → CT (zl Z) (zE Z) layM yX9_both cX9_both 3 (some .int) de [.ref (zad Z 0)] f (pI (Post_X9_both f ))) (hr_X9_compared : ∀ (f : Fn) , Pre_X9_compared f  → mu_X9_compared f  < m0 → CT (zl Z) (zE Z) layM yX9_compared cX9_compared 4 (some .int) de [.ref (zad Z 0)] f (pI (Post_X9_compared f ))) (hr_X9_sum : ∀ (f : Fn) , Pre_X9_sum f  → mu_X9_sum f  < m0 → CT (zl Z) (zE Z) layM yX9_sum cX9_sum 4 (some .int) de [.ref (zad Z 0)] f (pI (Post_X9_sum f ))) (hr_X9_product : ∀ (f : Fn) , Pre_X9_product f  → mu_X9_product f  < m0 → CT (zl Z) (zE Z) layM yX9_product cX9_product 4 (some .int) de [.ref (zad Z 0)] f (pI (Post_X9_product f ))) (hr_X9_unit : ∀ (f : Fn) , Pre_X9_unit f  → mu_X9_unit f  < m0 → CT (zl Z) (zE Z) layM yX9_unit cX9_unit 5 (some .int) de [.ref (zad Z 0)] f (pI (Post_X9_unit f ))) (C : CX Z layM RX9 cX9_unit 5 (some .int) dd)     (f : Fn) (x1 : Int32) (x2 : Int32) (h : wp_X9_unit_L88 m0   f x1 x2 (zp Z)) : GG Z f [(0, .ref (zad Z 0)), (1, .int x1), (2, .int x2)] 88 [] := by
  refine g_aload_n C rfl dX9_unit_88 rfl ?_
  refine g_dup C rfl dX9_unit_89 rfl ?_
  refine fg_X9_84I (k := 0) (x := (f 0 8)) C rfl rfl rfl dX9_unit_90 rfl ?_
  refine g_iconst C ki_1 dX9_unit_93 rfl ?_
  refine g_isub C dX9_unit_94 rfl ?_
  refine fp_X9_84 (k := 0) C rfl rfl (Nat.le_of_ble_eq_true rfl) dX9_unit_95 rfl ?_
  refine g_iload_n C rfl dX9_unit_98 rfl ?_
  refine g_bipush C kb_40 dX9_unit_99 rfl ?_
  refine g_icmp_ne (tgt := 108) C dX9_unit_101 (by decide) rfl (fun hc11 => ?_) (fun hc11 => ?_)
  · replace h := h.1 hc11
    refine g_iload_n C rfl dX9_unit_108 rfl ?_
    refine g_if_ne (tgt := 116) C dX9_unit_109 (by decide) rfl (fun hc12 => ?_) (fun hc12 => ?_)
    · replace h := h.1 hc12
      refine g_iconst C ki_0 dX9_unit_116 rfl ?_
      exact g_iret C dX9_unit_117 h
    · replace h := h.2 hc12
      refine g_iconst C ki_1 dX9_unit_112 rfl ?_
      refine g_goto (q := 117) C dX9_unit_113 (by decide) ?_
      exact g_iret C dX9_unit_117 h
  · replace h := h.2 hc11
    refine g_iload_n C rfl dX9_unit_104 rfl ?_
    refine g_goto (q := 117) C dX9_unit_105 (by decide) ?_
    exact g_iret C dX9_unit_117 h
set_option maxHeartbeats 4000000 in
set_option maxRecDepth 100000 in
theorem wk_X9_unit_L67 (V_l1 : VC_l1) (V_l2 : VC_l2) (V_m1 : VC_m1) {Z : Zt} {m0 dd de : Nat} (hde : de + 1 ≤ dd) (hd1 : 3 ≤ dd) (hr_X9_either : ∀ (f : Fn) , Pre_X9_either f  → mu_X9_either f  < m0 → CT (zl Z) (zE Z) layM yX9_either cX9_either 3 (some .int) de [.ref (zad Z 0)] f (pI (Post_X9_either f ))) (hr_X9_both : ∀ (f : Fn) , Pre_X9_both f  → mu_X9_both f  < m0 → CT (zl Z) (zE Z) layM yX9_both cX9_both 3 (some .int) de [.ref (zad Z 0)] f (pI (Post_X9_both f ))) (hr_X9_compared : ∀ (f : Fn) , Pre_X9_compared f  → mu_X9_compared f  < m0 → CT (zl Z) (zE Z) layM yX9_compared cX9_compared 4 (some .int) de [.ref (zad Z 0)] f (pI (Post_X9_compared f ))) (hr_X9_sum : ∀ (f : Fn) , Pre_X9_sum f  → mu_X9_sum f  < m0 → CT (zl Z) (zE Z) layM yX9_sum cX9_sum 4 (some .int) de [.ref (zad Z 0)] f (pI (Post_X9_sum f ))) (hr_X9_product : ∀ (f : Fn) , Pre_X9_product f  → mu_X9_product f  < m0 → CT (zl Z) (zE Z) layM yX9_product cX9_product 4 (some .int) de [.ref (zad Z 0)] f (pI (Post_X9_product f ))) (hr_X9_unit : ∀ (f : Fn) , Pre_X9_unit f  → mu_X9_unit f  < m0 → CT (zl Z) (zE Z) layM yX9_unit cX9_unit 5 (some .int) de [.ref (zad Z 0)] f (pI (Post_X9_unit f ))) (C : CX Z layM RX9 cX9_unit 5 (some .int) dd)     (f : Fn) (x1 : Int32) (s0 : Int32) (h : wp_X9_unit_L67 m0   f x1 s0 (zp Z)) : GG Z f [(0, .ref (zad Z 0)), (1, .int x1)] 67 [.int s0] := by
  refine g_istore_n (lv' := [(2, .int s0), (0, .ref (zad Z 0)), (1, .int x1)]) C dX9_unit_67 (by decide) rfl rfl ?_
  refine g_iload_n C rfl dX9_unit_68 rfl ?_
  refine g_bipush C kb_40 dX9_unit_69 rfl ?_
  refine g_icmp_ne (tgt := 88) C dX9_unit_71 (by decide) rfl (fun hc10 => ?_) (fun hc10 => ?_)
  · replace h := h.1 hc10
    refine g_lps [0, 1, 2] rfl ?_
    exact wk_X9_unit_L88 V_l1 V_l2 V_m1 hde hd1 hr_X9_either hr_X9_both hr_X9_compared hr_X9_sum hr_X9_product hr_X9_unit C    _ _ _ h
  · replace h := h.2 hc10
    refine g_aload_n C rfl dX9_unit_74 rfl ?_
    refine g_bipush C kb_41 dX9_unit_75 rfl ?_
    have hs13 := h.1
    replace h := h.2
    refine g_callVI C tw_927 tw_929 tp_25 tw_10 tw_930 hy_X9_takes (by decide) (by omega) rfl (Nat.le_of_ble_eq_true rfl) rfl rfl (ct_X9_takes V_l1 V_l2 V_m1   f (41 : Int32) hs13) dX9_unit_77 rfl rfl (fun r14 f15 hp16 => ?_)
    replace h := h r14 f15 hp16
    refine g_if_ne (tgt := 88) C dX9_unit_80 (by decide) rfl (fun hc17 => ?_) (fun hc17 => ?_)
    · replace h := h.1 hc17
      refine g_lps [0, 1, 2] rfl ?_
      exact wk_X9_unit_L88 V_l1 V_l2 V_m1 hde hd1 hr_X9_either hr_X9_both hr_X9_compared hr_X9_sum hr_X9_product hr_X9_unit C    _ _ _ h
    · replace h := h.2 hc17
      refine g_aload_n C rfl dX9_unit_83 rfl ?_
      refine g_callVI C tw_923 tw_925 tp_24 tw_10 tw_926 hy_X9_wrong (by decide) (by omega) rfl (Nat.le_of_ble_eq_true rfl) rfl rfl (ct_X9_wrong V_l1 V_l2 V_m1   f15 ) dX9_unit_84 rfl rfl (fun r18 f19 hp20 => ?_)
      replace h := h r18 f19 hp20
      exact g_iret C dX9_unit_87 h
set_option maxHeartbeats 4000000 in
set_option maxRecDepth 100000 in
theorem wk_X9_unit_L17 (V_l1 : VC_l1) (V_l2 : VC_l2) (V_m1 : VC_m1) {Z : Zt} {m0 dd de : Nat} (hde : de + 1 ≤ dd) (hd1 : 3 ≤ dd) (hr_X9_either : ∀ (f : Fn) , Pre_X9_either f  → mu_X9_either f  < m0 → CT (zl Z) (zE Z) layM yX9_either cX9_either 3 (some .int) de [.ref (zad Z 0)] f (pI (Post_X9_either f ))) (hr_X9_both : ∀ (f : Fn) , Pre_X9_both f  → mu_X9_both f  < m0 → CT (zl Z) (zE Z) layM yX9_both cX9_both 3 (some .int) de [.ref (zad Z 0)] f (pI (Post_X9_both f ))) (hr_X9_compared : ∀ (f : Fn) , Pre_X9_compared f  → mu_X9_compared f  < m0 → CT (zl Z) (zE Z) layM yX9_compared cX9_compared 4 (some .int) de [.ref (zad Z 0)] f (pI (Post_X9_compared f ))) (hr_X9_sum : ∀ (f : Fn) , Pre_X9_sum f  → mu_X9_sum f  < m0 → CT (zl Z) (zE Z) layM yX9_sum cX9_sum 4 (some .int) de [.ref (zad Z 0)] f (pI (Post_X9_sum f ))) (hr_X9_product : ∀ (f : Fn) , Pre_X9_product f  → mu_X9_product f  < m0 → CT (zl Z) (zE Z) layM yX9_product cX9_product 4 (some .int) de [.ref (zad Z 0)] f (pI (Post_X9_product f ))) (hr_X9_unit : ∀ (f : Fn) , Pre_X9_unit f  → mu_X9_unit f  < m0 → CT (zl Z) (zE Z) layM yX9_unit cX9_unit 5 (some .int) de [.ref (zad Z 0)] f (pI (Post_X9_unit f ))) (C : CX Z layM RX9 cX9_unit 5 (some .int) dd)     (f : Fn) (x1 : Int32) (h : wp_X9_unit_L17 m0   f x1 (zp Z)) : GG Z f [(0, .ref (zad Z 0)), (1, .int x1)] 17 [] := by
  refine g_aload_n C rfl dX9_unit_17 rfl ?_
  refine fg_X9_84I (k := 0) (x := (f 0 8)) C rfl rfl rfl dX9_unit_18 rfl ?_
  refine g_iconst C ki_5 dX9_unit_21 rfl ?_
  refine g_icmp_ne (tgt := 30) C dX9_unit_22 (by decide) rfl (fun hc3 => ?_) (fun hc3 => ?_)
  · replace h := h.1 hc3
    refine g_aload_n C rfl dX9_unit_30 rfl ?_
    refine g_dup C rfl dX9_unit_31 rfl ?_
    refine fg_X9_84I (k := 0) (x := (f 0 8)) C rfl rfl rfl dX9_unit_32 rfl ?_
    refine g_iconst C ki_1 dX9_unit_35 rfl ?_
    refine g_iadd C dX9_unit_36 rfl ?_
    refine fp_X9_84 (k := 0) C rfl rfl (Nat.le_of_ble_eq_true rfl) dX9_unit_37 rfl ?_
    refine g_aload_n C rfl dX9_unit_40 rfl ?_
    refine g_dup C rfl dX9_unit_41 rfl ?_
    refine fg_X9_49I (k := 0) (x := (f 0 5)) C rfl rfl (by simp [up2, upd]) dX9_unit_42 rfl ?_
    refine g_iconst C ki_1 dX9_unit_45 rfl ?_
    refine g_iadd C dX9_unit_46 rfl ?_
    refine fp_X9_49 (k := 0) C rfl rfl (Nat.le_of_ble_eq_true rfl) dX9_unit_47 rfl ?_
    refine g_iload_n C rfl dX9_unit_50 rfl ?_
    refine g_bipush C kb_40 dX9_unit_51 rfl ?_
    refine g_icmp_ne (tgt := 63) C dX9_unit_53 (by decide) rfl (fun hc4 => ?_) (fun hc4 => ?_)
    · replace h := h.1 hc4
      refine g_aload_n C rfl dX9_unit_63 rfl ?_
      have hs5 := h.1
      replace h := h.2
      have hs6 := h.1
      replace h := h.2
      refine g_callVI C tw_915 tw_917 tp_22 tw_10 tw_918 hy_X9_unit (by decide) hde rfl (Nat.le_of_ble_eq_true rfl) rfl rfl (hr_X9_unit (up2 (up2 f 0 8 ((f 0 8) + (1 : Int32))) 0 5 ((f 0 5) + (1 : Int32)))  hs5 hs6) dX9_unit_64 rfl rfl (fun r7 f8 hp9 => ?_)
      replace h := h r7 f8 hp9
      exact wk_X9_unit_L67 V_l1 V_l2 V_m1 hde hd1 hr_X9_either hr_X9_both hr_X9_compared hr_X9_sum hr_X9_product hr_X9_unit C    _ _ _ h
    · replace h := h.2 hc4
      refine g_aload_n C rfl dX9_unit_56 rfl ?_
      have hs21 := h.1
      replace h := h.2
      have hs22 := h.1
      replace h := h.2
      refine g_callVI C tw_895 tw_897 tp_17 tw_10 tw_898 hy_X9_either (by decide) hde rfl (Nat.le_of_ble_eq_true rfl) rfl rfl (hr_X9_either (up2 (up2 f 0 8 ((f 0 8) + (1 : Int32))) 0 5 ((f 0 5) + (1 : Int32)))  hs21 hs22) dX9_unit_57 rfl rfl (fun r23 f24 hp25 => ?_)
      replace h := h r23 f24 hp25
      refine g_goto (q := 67) C dX9_unit_60 (by decide) ?_
      exact wk_X9_unit_L67 V_l1 V_l2 V_m1 hde hd1 hr_X9_either hr_X9_both hr_X9_compared hr_X9_sum hr_X9_product hr_X9_unit C    _ _ _ h
  · replace h := h.2 hc3
    refine g_aload_n C rfl dX9_unit_25 rfl ?_
    refine g_callVI C tw_923 tw_925 tp_24 tw_10 tw_926 hy_X9_wrong (by decide) (by omega) rfl (Nat.le_of_ble_eq_true rfl) rfl rfl (ct_X9_wrong V_l1 V_l2 V_m1   f ) dX9_unit_26 rfl rfl (fun r26 f27 hp28 => ?_)
    replace h := h r26 f27 hp28
    exact g_iret C dX9_unit_29 h
set_option maxHeartbeats 4000000 in
set_option maxRecDepth 100000 in
theorem wk_X9_unit_L201 (V_l1 : VC_l1) (V_l2 : VC_l2) (V_m1 : VC_m1) {Z : Zt} {m0 dd de : Nat} (hde : de + 1 ≤ dd) (hd1 : 3 ≤ dd) (hr_X9_either : ∀ (f : Fn) , Pre_X9_either f  → mu_X9_either f  < m0 → CT (zl Z) (zE Z) layM yX9_either cX9_either 3 (some .int) de [.ref (zad Z 0)] f (pI (Post_X9_either f ))) (hr_X9_both : ∀ (f : Fn) , Pre_X9_both f  → mu_X9_both f  < m0 → CT (zl Z) (zE Z) layM yX9_both cX9_both 3 (some .int) de [.ref (zad Z 0)] f (pI (Post_X9_both f ))) (hr_X9_compared : ∀ (f : Fn) , Pre_X9_compared f  → mu_X9_compared f  < m0 → CT (zl Z) (zE Z) layM yX9_compared cX9_compared 4 (some .int) de [.ref (zad Z 0)] f (pI (Post_X9_compared f ))) (hr_X9_sum : ∀ (f : Fn) , Pre_X9_sum f  → mu_X9_sum f  < m0 → CT (zl Z) (zE Z) layM yX9_sum cX9_sum 4 (some .int) de [.ref (zad Z 0)] f (pI (Post_X9_sum f ))) (hr_X9_product : ∀ (f : Fn) , Pre_X9_product f  → mu_X9_product f  < m0 → CT (zl Z) (zE Z) layM yX9_product cX9_product 4 (some .int) de [.ref (zad Z 0)] f (pI (Post_X9_product f ))) (hr_X9_unit : ∀ (f : Fn) , Pre_X9_unit f  → mu_X9_unit f  < m0 → CT (zl Z) (zE Z) layM yX9_unit cX9_unit 5 (some .int) de [.ref (zad Z 0)] f (pI (Post_X9_unit f ))) (C : CX Z layM RX9 cX9_unit 5 (some .int) dd)     (f : Fn) (x3 : Int32) (x4 : Int32) (h : wp_X9_unit_L201 m0   f x3 x4 (zp Z)) : GG Z f [(0, .ref (zad Z 0)), (3, .int x3), (4, .int x4)] 201 [] := by
  refine g_iload C rfl dX9_unit_201 rfl ?_
  refine g_if_ne (tgt := 213) C dX9_unit_203 (by decide) rfl (fun hc32 => ?_) (fun hc32 => ?_)
  · replace h := h.1 hc32
    refine g_iload_n C rfl dX9_unit_213 rfl ?_
    exact g_iret C dX9_unit_214 h
  · replace h := h.2 hc32
    refine g_aload_n C rfl dX9_unit_206 rfl ?_
    refine g_callVI C tw_923 tw_925 tp_24 tw_10 tw_926 hy_X9_wrong (by decide) (by omega) rfl (Nat.le_of_ble_eq_true rfl) rfl rfl (ct_X9_wrong V_l1 V_l2 V_m1   f ) dX9_unit_207 rfl rfl (fun r33 f34 hp35 => ?_)
    replace h := h r33 f34 hp35
    refine g_goto (q := 214) C dX9_unit_210 (by decide) ?_
    exact g_iret C dX9_unit_214 h
set_option maxHeartbeats 4000000 in
set_option maxRecDepth 100000 in
theorem wkb_X9_unit_L149 (V_l1 : VC_l1) (V_l2 : VC_l2) (V_m1 : VC_m1) {Z : Zt} {m0 dd de : Nat} (hde : de + 1 ≤ dd) (hd1 : 3 ≤ dd) (hr_X9_either : ∀ (f : Fn) , Pre_X9_either f  → mu_X9_either f  < m0 → CT (zl Z) (zE Z) layM yX9_either cX9_either 3 (some .int) de [.ref (zad Z 0)] f (pI (Post_X9_either f ))) (hr_X9_both : ∀ (f : Fn) , Pre_X9_both f  → mu_X9_both f  < m0 → CT (zl Z) (zE Z) layM yX9_both cX9_both 3 (some .int) de [.ref (zad Z 0)] f (pI (Post_X9_both f ))) (hr_X9_compared : ∀ (f : Fn) , Pre_X9_compared f  → mu_X9_compared f  < m0 → CT (zl Z) (zE Z) layM yX9_compared cX9_compared 4 (some .int) de [.ref (zad Z 0)] f (pI (Post_X9_compared f ))) (hr_X9_sum : ∀ (f : Fn) , Pre_X9_sum f  → mu_X9_sum f  < m0 → CT (zl Z) (zE Z) layM yX9_sum cX9_sum 4 (some .int) de [.ref (zad Z 0)] f (pI (Post_X9_sum f ))) (hr_X9_product : ∀ (f : Fn) , Pre_X9_product f  → mu_X9_product f  < m0 → CT (zl Z) (zE Z) layM yX9_product cX9_product 4 (some .int) de [.ref (zad Z 0)] f (pI (Post_X9_product f ))) (hr_X9_unit : ∀ (f : Fn) , Pre_X9_unit f  → mu_X9_unit f  < m0 → CT (zl Z) (zE Z) layM yX9_unit cX9_unit 5 (some .int) de [.ref (zad Z 0)] f (pI (Post_X9_unit f ))) (C : CX Z layM RX9 cX9_unit 5 (some .int) dd)   {K149 : Fn → Int32 → Int32 → Prop} (hK149 : ∀ (f : Fn) (x3 : Int32) (x4 : Int32), K149 f x3 x4 → GG Z f [(0, .ref (zad Z 0)), (3, .int x3), (4, .int x4)] 149 []) (f : Fn) (x3 : Int32) (x4 : Int32) (h : wpb_X9_unit_L149 m0   K149 f x3 x4 (zp Z)) : GG Z f [(0, .ref (zad Z 0)), (3, .int x3), (4, .int x4)] 149 [] := by
  refine g_iload C rfl dX9_unit_149 rfl ?_
  refine g_iconst C ki_4 dX9_unit_151 rfl ?_
  refine g_icmp_ge (tgt := 201) C dX9_unit_152 (by decide) rfl (fun hc31 => ?_) (fun hc31 => ?_)
  · replace h := h.1 hc31
    exact wk_X9_unit_L201 V_l1 V_l2 V_m1 hde hd1 hr_X9_either hr_X9_both hr_X9_compared hr_X9_sum hr_X9_product hr_X9_unit C    _ _ _ h
  · replace h := h.2 hc31
    refine g_aload_n C rfl dX9_unit_155 rfl ?_
    have hs36 := h.1
    replace h := h.2
    refine g_callVD C tw_919 tw_921 tp_23 tw_10 tw_922 hy_X9_here (by decide) (by omega) rfl (Nat.le_of_ble_eq_true rfl) rfl rfl (ct_X9_here V_l1 V_l2 V_m1   f hs36) dX9_unit_156 rfl rfl ?_
    refine g_i2l C dX9_unit_159 rfl ?_
    refine g_ldc2 C tw_934 dX9_unit_160 rfl ?_
    refine g_ldc2 C tw_935 dX9_unit_163 rfl ?_
    refine g_callSD C tw_878 tw_879 tw_10 tw_880 hy_X9_in (by decide) (by omega) rfl (Nat.le_of_ble_eq_true rfl) (ct_X9_in V_l1 V_l2 V_m1   f (Val_X9_here f).toInt64 (48 : Int64) (57 : Int64) ) dX9_unit_166 rfl rfl ?_
    refine g_if_eq (tgt := 201) C dX9_unit_169 (by decide) rfl (fun hc37 => ?_) (fun hc37 => ?_)
    · replace h := h.1 hc37
      exact wk_X9_unit_L201 V_l1 V_l2 V_m1 hde hd1 hr_X9_either hr_X9_both hr_X9_compared hr_X9_sum hr_X9_product hr_X9_unit C    _ _ _ h
    · replace h := h.2 hc37
      refine g_bipush C kb_10 dX9_unit_172 rfl ?_
      refine g_iload_n C rfl dX9_unit_174 rfl ?_
      refine g_imul C dX9_unit_175 rfl ?_
      refine g_aload_n C rfl dX9_unit_176 rfl ?_
      have hs38 := h.1
      replace h := h.2
      refine g_callVD C tw_919 tw_921 tp_23 tw_10 tw_922 hy_X9_here (by decide) (by omega) rfl (Nat.le_of_ble_eq_true rfl) rfl rfl (ct_X9_here V_l1 V_l2 V_m1   f hs38) dX9_unit_177 rfl rfl ?_
      refine g_iadd C dX9_unit_180 rfl ?_
      refine g_bipush C kb_48 dX9_unit_181 rfl ?_
      refine g_isub C dX9_unit_183 rfl ?_
      refine g_istore_n (lv' := [(3, .int ((((10 : Int32) * x3) + (Val_X9_here f)) - (48 : Int32))), (0, .ref (zad Z 0)), (4, .int x4)]) C dX9_unit_184 (by decide) rfl rfl ?_
      refine g_aload_n C rfl dX9_unit_185 rfl ?_
      refine g_dup C rfl dX9_unit_186 rfl ?_
      refine fg_X9_49I (k := 0) (x := (f 0 5)) C rfl rfl rfl dX9_unit_187 rfl ?_
      refine g_iconst C ki_1 dX9_unit_190 rfl ?_
      refine g_iadd C dX9_unit_191 rfl ?_
      refine fp_X9_49 (k := 0) C rfl rfl (Nat.le_of_ble_eq_true rfl) dX9_unit_192 rfl ?_
      refine g_iinc (lv' := [(4, .int (x4 + (1 : Int32))), (3, .int ((((10 : Int32) * x3) + (Val_X9_here f)) - (48 : Int32))), (0, .ref (zad Z 0))]) C dX9_unit_195 rfl (inc_1 _) (by decide) rfl rfl ?_
      refine g_goto (q := 149) C dX9_unit_198 (by decide) ?_
      refine g_lps [0, 3, 4] rfl ?_
      exact hK149 _ _ _ h
set_option maxHeartbeats 4000000 in
set_option maxRecDepth 100000 in
theorem wk_X9_unit_L149 (V_l1 : VC_l1) (V_l2 : VC_l2) (V_m1 : VC_m1) {Z : Zt} {m0 dd de : Nat} (hde : de + 1 ≤ dd) (hd1 : 3 ≤ dd) (hr_X9_either : ∀ (f : Fn) , Pre_X9_either f  → mu_X9_either f  < m0 → CT (zl Z) (zE Z) layM yX9_either cX9_either 3 (some .int) de [.ref (zad Z 0)] f (pI (Post_X9_either f ))) (hr_X9_both : ∀ (f : Fn) , Pre_X9_both f  → mu_X9_both f  < m0 → CT (zl Z) (zE Z) layM yX9_both cX9_both 3 (some .int) de [.ref (zad Z 0)] f (pI (Post_X9_both f ))) (hr_X9_compared : ∀ (f : Fn) , Pre_X9_compared f  → mu_X9_compared f  < m0 → CT (zl Z) (zE Z) layM yX9_compared cX9_compared 4 (some .int) de [.ref (zad Z 0)] f (pI (Post_X9_compared f ))) (hr_X9_sum : ∀ (f : Fn) , Pre_X9_sum f  → mu_X9_sum f  < m0 → CT (zl Z) (zE Z) layM yX9_sum cX9_sum 4 (some .int) de [.ref (zad Z 0)] f (pI (Post_X9_sum f ))) (hr_X9_product : ∀ (f : Fn) , Pre_X9_product f  → mu_X9_product f  < m0 → CT (zl Z) (zE Z) layM yX9_product cX9_product 4 (some .int) de [.ref (zad Z 0)] f (pI (Post_X9_product f ))) (hr_X9_unit : ∀ (f : Fn) , Pre_X9_unit f  → mu_X9_unit f  < m0 → CT (zl Z) (zE Z) layM yX9_unit cX9_unit 5 (some .int) de [.ref (zad Z 0)] f (pI (Post_X9_unit f ))) (C : CX Z layM RX9 cX9_unit 5 (some .int) dd)     (f : Fn) (x3 : Int32) (x4 : Int32) (h : wp_X9_unit_L149 m0   f x3 x4 (zp Z)) : GG Z f [(0, .ref (zad Z 0)), (3, .int x3), (4, .int x4)] 149 [] := by
  obtain ⟨I, μ, h0, hs⟩ := h
  suffices H : ∀ (N : Nat) (f : Fn) (x3 : Int32) (x4 : Int32), μ f x3 x4 < N → I f x3 x4 → GG Z f [(0, .ref (zad Z 0)), (3, .int x3), (4, .int x4)] 149 [] from H _ f x3 x4 (Nat.lt_succ_self _) h0
  clear h0
  intro N
  induction N with
  | zero => intro f x3 x4 hm; exact absurd hm (Nat.not_lt_zero _)
  | succ N ih =>
    intro f x3 x4 hm hi
    exact wkb_X9_unit_L149 V_l1 V_l2 V_m1 hde hd1 hr_X9_either hr_X9_both hr_X9_compared hr_X9_sum hr_X9_product hr_X9_unit C    (fun f9 x39 x49 hk => ih f9 x39 x49 (Nat.lt_of_lt_of_le hk.2 (Nat.le_of_lt_succ hm)) hk.1) f x3 x4 (hs f x3 x4 hi)
set_option maxHeartbeats 4000000 in
set_option maxRecDepth 100000 in
theorem wk_X9_unit (V_l1 : VC_l1) (V_l2 : VC_l2) (V_m1 : VC_m1) {Z : Zt} {m0 dd de : Nat} (hde : de + 1 ≤ dd) (hd1 : 3 ≤ dd) (hr_X9_either : ∀ (f : Fn) , Pre_X9_either f  → mu_X9_either f  < m0 → CT (zl Z) (zE Z) layM yX9_either cX9_either 3 (some .int) de [.ref (zad Z 0)] f (pI (Post_X9_either f ))) (hr_X9_both : ∀ (f : Fn) , Pre_X9_both f  → mu_X9_both f  < m0 → CT (zl Z) (zE Z) layM yX9_both cX9_both 3 (some .int) de [.ref (zad Z 0)] f (pI (Post_X9_both f ))) (hr_X9_compared : ∀ (f : Fn) , Pre_X9_compared f  → mu_X9_compared f  < m0 → CT (zl Z) (zE Z) layM yX9_compared cX9_compared 4 (some .int) de [.ref (zad Z 0)] f (pI (Post_X9_compared f ))) (hr_X9_sum : ∀ (f : Fn) , Pre_X9_sum f  → mu_X9_sum f  < m0 → CT (zl Z) (zE Z) layM yX9_sum cX9_sum 4 (some .int) de [.ref (zad Z 0)] f (pI (Post_X9_sum f ))) (hr_X9_product : ∀ (f : Fn) , Pre_X9_product f  → mu_X9_product f  < m0 → CT (zl Z) (zE Z) layM yX9_product cX9_product 4 (some .int) de [.ref (zad Z 0)] f (pI (Post_X9_product f ))) (hr_X9_unit : ∀ (f : Fn) , Pre_X9_unit f  → mu_X9_unit f  < m0 → CT (zl Z) (zE Z) layM yX9_unit cX9_unit 5 (some .int) de [.ref (zad Z 0)] f (pI (Post_X9_unit f ))) (C : CX Z layM RX9 cX9_unit 5 (some .int) dd)     (f : Fn)  (h : wp_X9_unit m0  f  (zp Z)) : GG Z f [(0, .ref (zad Z 0))] 0 [] := by
  refine g_aload_n C rfl dX9_unit_0 rfl ?_
  have hs1 := h.1
  replace h := h.2
  refine g_callVD C tw_919 tw_921 tp_23 tw_10 tw_922 hy_X9_here (by decide) (by omega) rfl (Nat.le_of_ble_eq_true rfl) rfl rfl (ct_X9_here V_l1 V_l2 V_m1   f hs1) dX9_unit_1 rfl rfl ?_
  refine g_istore_n (lv' := [(1, .int (Val_X9_here f)), (0, .ref (zad Z 0))]) C dX9_unit_4 (by decide) rfl rfl ?_
  refine g_iload_n C rfl dX9_unit_5 rfl ?_
  refine g_bipush C kb_33 dX9_unit_6 rfl ?_
  refine g_icmp_eq (tgt := 17) C dX9_unit_8 (by decide) rfl (fun hc2 => ?_) (fun hc2 => ?_)
  · replace h := h.1 hc2
    refine g_lps [0, 1] rfl ?_
    exact wk_X9_unit_L17 V_l1 V_l2 V_m1 hde hd1 hr_X9_either hr_X9_both hr_X9_compared hr_X9_sum hr_X9_product hr_X9_unit C    _ _ h
  · replace h := h.2 hc2
    refine g_iload_n C rfl dX9_unit_11 rfl ?_
    refine g_bipush C kb_40 dX9_unit_12 rfl ?_
    refine g_icmp_ne (tgt := 118) C dX9_unit_14 (by decide) rfl (fun hc29 => ?_) (fun hc29 => ?_)
    · replace h := h.1 hc29
      refine g_iload_n C rfl dX9_unit_118 rfl ?_
      refine g_callSD C tw_931 tw_932 tw_10 tw_933 hy_X9_nameOf (by decide) (by omega) rfl (Nat.le_of_ble_eq_true rfl) (ct_X9_nameOf V_l1 V_l2 V_m1   f (Val_X9_here f) ) dX9_unit_119 rfl rfl ?_
      refine g_istore_n (lv' := [(2, .int (Val_X9_nameOf f (Val_X9_here f))), (1, .int (Val_X9_here f)), (0, .ref (zad Z 0))]) C dX9_unit_122 (by decide) rfl rfl ?_
      refine g_iload_n C rfl dX9_unit_123 rfl ?_
      refine g_if_lt (tgt := 144) C dX9_unit_124 (by decide) rfl (fun hc30 => ?_) (fun hc30 => ?_)
      · replace h := h.1 hc30
        refine g_iconst C ki_0 dX9_unit_144 rfl ?_
        refine g_istore_n (lv' := [(3, .int (0 : Int32)), (2, .int (Val_X9_nameOf f (Val_X9_here f))), (1, .int (Val_X9_here f)), (0, .ref (zad Z 0))]) C dX9_unit_145 (by decide) rfl rfl ?_
        refine g_iconst C ki_0 dX9_unit_146 rfl ?_
        refine g_istore (lv' := [(4, .int (0 : Int32)), (3, .int (0 : Int32)), (2, .int (Val_X9_nameOf f (Val_X9_here f))), (1, .int (Val_X9_here f)), (0, .ref (zad Z 0))]) C dX9_unit_147 (by decide) rfl rfl ?_
        refine g_lps [0, 3, 4] rfl ?_
        exact wk_X9_unit_L149 V_l1 V_l2 V_m1 hde hd1 hr_X9_either hr_X9_both hr_X9_compared hr_X9_sum hr_X9_product hr_X9_unit C    _ _ _ h
      · replace h := h.2 hc30
        refine g_aload_n C rfl dX9_unit_127 rfl ?_
        refine g_dup C rfl dX9_unit_128 rfl ?_
        refine fg_X9_49I (k := 0) (x := (f 0 5)) C rfl rfl rfl dX9_unit_129 rfl ?_
        refine g_iconst C ki_1 dX9_unit_132 rfl ?_
        refine g_iadd C dX9_unit_133 rfl ?_
        refine fp_X9_49 (k := 0) C rfl rfl (Nat.le_of_ble_eq_true rfl) dX9_unit_134 rfl ?_
        refine g_aload_n C rfl dX9_unit_137 rfl ?_
        refine fg_X9_19R (k := 0) (p := 4) C rfl rfl dX9_unit_138 rfl ?_
        refine g_iload_n C rfl dX9_unit_141 rfl ?_
        have hs39 := h.1
        replace h := h.2
        refine g_ialdx (k := 4) (j := (Val_X9_nameOf f (Val_X9_here f)).toNatClampNeg) (x := (f 4 (Val_X9_nameOf f (Val_X9_here f)).toNatClampNeg)) C rfl hs39 rfl (by simp [up2, upd]) dX9_unit_142 rfl ?_
        exact g_iret C dX9_unit_143 h
    · replace h := h.2 hc29
      refine g_lps [0, 1] rfl ?_
      exact wk_X9_unit_L17 V_l1 V_l2 V_m1 hde hd1 hr_X9_either hr_X9_both hr_X9_compared hr_X9_sum hr_X9_product hr_X9_unit C    _ _ h
set_option maxRecDepth 100000 in
theorem ctN_pm (V_l1 : VC_l1) (V_l2 : VC_l2) (V_m1 : VC_m1) {l : Launch} {E : Ev} : ∀ N : Nat, (∀ (f : Fn) , Pre_X9_either f → mu_X9_either f < N → CT l E layM yX9_either cX9_either 3 (some .int) (3 + N) [.ref (E.2.1 0)] f (pI (Post_X9_either f))) ∧ (∀ (f : Fn) , Pre_X9_both f → mu_X9_both f < N → CT l E layM yX9_both cX9_both 3 (some .int) (3 + N) [.ref (E.2.1 0)] f (pI (Post_X9_both f))) ∧ (∀ (f : Fn) , Pre_X9_compared f → mu_X9_compared f < N → CT l E layM yX9_compared cX9_compared 4 (some .int) (3 + N) [.ref (E.2.1 0)] f (pI (Post_X9_compared f))) ∧ (∀ (f : Fn) , Pre_X9_sum f → mu_X9_sum f < N → CT l E layM yX9_sum cX9_sum 4 (some .int) (3 + N) [.ref (E.2.1 0)] f (pI (Post_X9_sum f))) ∧ (∀ (f : Fn) , Pre_X9_product f → mu_X9_product f < N → CT l E layM yX9_product cX9_product 4 (some .int) (3 + N) [.ref (E.2.1 0)] f (pI (Post_X9_product f))) ∧ (∀ (f : Fn) , Pre_X9_unit f → mu_X9_unit f < N → CT l E layM yX9_unit cX9_unit 5 (some .int) (3 + N) [.ref (E.2.1 0)] f (pI (Post_X9_unit f))) ∧ True := by
  intro N
  induction N with
  | zero => exact ⟨fun f  _ h => absurd h (Nat.not_lt_zero _), fun f  _ h => absurd h (Nat.not_lt_zero _), fun f  _ h => absurd h (Nat.not_lt_zero _), fun f  _ h => absurd h (Nat.not_lt_zero _), fun f  _ h => absurd h (Nat.not_lt_zero _), fun f  _ h => absurd h (Nat.not_lt_zero _), trivial⟩
  | succ N ih =>
    obtain ⟨i_X9_either, i_X9_both, i_X9_compared, i_X9_sum, i_X9_product, i_X9_unit, -⟩ := ih
    refine ⟨?_, ?_, ?_, ?_, ?_, ?_, trivial⟩
    · intro f  hpre hmu
      refine CT.of (by decide +kernel) (Nat.le_of_ble_eq_true rfl) (fun Z hl9 hE9 hp9 C => ?_)
      subst hl9
      subst hE9
      exact wk_X9_either V_l1 V_l2 V_m1 (m0 := mu_X9_either f) (dd := 3 + (N + 1)) (de := 3 + N) (Nat.le_refl _) (by omega) (fun f9  h1 h2 => i_X9_either f9  h1 (by omega)) (fun f9  h1 h2 => i_X9_both f9  h1 (by omega)) (fun f9  h1 h2 => i_X9_compared f9  h1 (by omega)) (fun f9  h1 h2 => i_X9_sum f9  h1 (by omega)) (fun f9  h1 h2 => i_X9_product f9  h1 (by omega)) (fun f9  h1 h2 => i_X9_unit f9  h1 (by omega)) C f  (by rw [hp9]; exact (V_m1.2.2.2.2.2.2.2.2.2.2.1 f hpre).2)
    · intro f  hpre hmu
      refine CT.of (by decide +kernel) (Nat.le_of_ble_eq_true rfl) (fun Z hl9 hE9 hp9 C => ?_)
      subst hl9
      subst hE9
      exact wk_X9_both V_l1 V_l2 V_m1 (m0 := mu_X9_both f) (dd := 3 + (N + 1)) (de := 3 + N) (Nat.le_refl _) (by omega) (fun f9  h1 h2 => i_X9_either f9  h1 (by omega)) (fun f9  h1 h2 => i_X9_both f9  h1 (by omega)) (fun f9  h1 h2 => i_X9_compared f9  h1 (by omega)) (fun f9  h1 h2 => i_X9_sum f9  h1 (by omega)) (fun f9  h1 h2 => i_X9_product f9  h1 (by omega)) (fun f9  h1 h2 => i_X9_unit f9  h1 (by omega)) C f  (by rw [hp9]; exact (V_m1.2.2.2.2.2.2.2.2.2.2.2.1 f hpre).2)
    · intro f  hpre hmu
      refine CT.of (by decide +kernel) (Nat.le_of_ble_eq_true rfl) (fun Z hl9 hE9 hp9 C => ?_)
      subst hl9
      subst hE9
      exact wk_X9_compared V_l1 V_l2 V_m1 (m0 := mu_X9_compared f) (dd := 3 + (N + 1)) (de := 3 + N) (Nat.le_refl _) (by omega) (fun f9  h1 h2 => i_X9_either f9  h1 (by omega)) (fun f9  h1 h2 => i_X9_both f9  h1 (by omega)) (fun f9  h1 h2 => i_X9_compared f9  h1 (by omega)) (fun f9  h1 h2 => i_X9_sum f9  h1 (by omega)) (fun f9  h1 h2 => i_X9_product f9  h1 (by omega)) (fun f9  h1 h2 => i_X9_unit f9  h1 (by omega)) C f  (by rw [hp9]; exact (V_m1.2.2.2.2.2.2.2.2.2.2.2.2.1 f hpre).2)
    · intro f  hpre hmu
      refine CT.of (by decide +kernel) (Nat.le_of_ble_eq_true rfl) (fun Z hl9 hE9 hp9 C => ?_)
      subst hl9
      subst hE9
      exact wk_X9_sum V_l1 V_l2 V_m1 (m0 := mu_X9_sum f) (dd := 3 + (N + 1)) (de := 3 + N) (Nat.le_refl _) (by omega) (fun f9  h1 h2 => i_X9_either f9  h1 (by omega)) (fun f9  h1 h2 => i_X9_both f9  h1 (by omega)) (fun f9  h1 h2 => i_X9_compared f9  h1 (by omega)) (fun f9  h1 h2 => i_X9_sum f9  h1 (by omega)) (fun f9  h1 h2 => i_X9_product f9  h1 (by omega)) (fun f9  h1 h2 => i_X9_unit f9  h1 (by omega)) C f  (by rw [hp9]; exact (V_m1.2.2.2.2.2.2.2.2.2.2.2.2.2.1 f hpre).2)
    · intro f  hpre hmu
      refine CT.of (by decide +kernel) (Nat.le_of_ble_eq_true rfl) (fun Z hl9 hE9 hp9 C => ?_)
      subst hl9
      subst hE9
      exact wk_X9_product V_l1 V_l2 V_m1 (m0 := mu_X9_product f) (dd := 3 + (N + 1)) (de := 3 + N) (Nat.le_refl _) (by omega) (fun f9  h1 h2 => i_X9_either f9  h1 (by omega)) (fun f9  h1 h2 => i_X9_both f9  h1 (by omega)) (fun f9  h1 h2 => i_X9_compared f9  h1 (by omega)) (fun f9  h1 h2 => i_X9_sum f9  h1 (by omega)) (fun f9  h1 h2 => i_X9_product f9  h1 (by omega)) (fun f9  h1 h2 => i_X9_unit f9  h1 (by omega)) C f  (by rw [hp9]; exact (V_m1.2.2.2.2.2.2.2.2.2.2.2.2.2.2.1 f hpre).2)
    · intro f  hpre hmu
      refine CT.of (by decide +kernel) (Nat.le_of_ble_eq_true rfl) (fun Z hl9 hE9 hp9 C => ?_)
      subst hl9
      subst hE9
      exact wk_X9_unit V_l1 V_l2 V_m1 (m0 := mu_X9_unit f) (dd := 3 + (N + 1)) (de := 3 + N) (Nat.le_refl _) (by omega) (fun f9  h1 h2 => i_X9_either f9  h1 (by omega)) (fun f9  h1 h2 => i_X9_both f9  h1 (by omega)) (fun f9  h1 h2 => i_X9_compared f9  h1 (by omega)) (fun f9  h1 h2 => i_X9_sum f9  h1 (by omega)) (fun f9  h1 h2 => i_X9_product f9  h1 (by omega)) (fun f9  h1 h2 => i_X9_unit f9  h1 (by omega)) C f  (by rw [hp9]; exact (V_m1.2.2.2.2.2.2.2.2.2.2.2.2.2.2.2.1 f hpre).2)
theorem ct_X9_either (V_l1 : VC_l1) (V_l2 : VC_l2) (V_m1 : VC_m1) {l : Launch} {E : Ev} (f : Fn)  (hpre : Pre_X9_either f) : CT l E layM yX9_either cX9_either 3 (some .int) 51 [.ref (E.2.1 0)] f (pI (Post_X9_either f)) := (ctN_pm V_l1 V_l2 V_m1 48).1 f hpre (V_m1.2.2.2.2.2.2.2.2.2.2.1 f hpre).1
theorem ct_X9_both (V_l1 : VC_l1) (V_l2 : VC_l2) (V_m1 : VC_m1) {l : Launch} {E : Ev} (f : Fn)  (hpre : Pre_X9_both f) : CT l E layM yX9_both cX9_both 3 (some .int) 51 [.ref (E.2.1 0)] f (pI (Post_X9_both f)) := (ctN_pm V_l1 V_l2 V_m1 48).2.1 f hpre (V_m1.2.2.2.2.2.2.2.2.2.2.2.1 f hpre).1
theorem ct_X9_compared (V_l1 : VC_l1) (V_l2 : VC_l2) (V_m1 : VC_m1) {l : Launch} {E : Ev} (f : Fn)  (hpre : Pre_X9_compared f) : CT l E layM yX9_compared cX9_compared 4 (some .int) 51 [.ref (E.2.1 0)] f (pI (Post_X9_compared f)) := (ctN_pm V_l1 V_l2 V_m1 48).2.2.1 f hpre (V_m1.2.2.2.2.2.2.2.2.2.2.2.2.1 f hpre).1
theorem ct_X9_sum (V_l1 : VC_l1) (V_l2 : VC_l2) (V_m1 : VC_m1) {l : Launch} {E : Ev} (f : Fn)  (hpre : Pre_X9_sum f) : CT l E layM yX9_sum cX9_sum 4 (some .int) 51 [.ref (E.2.1 0)] f (pI (Post_X9_sum f)) := (ctN_pm V_l1 V_l2 V_m1 48).2.2.2.1 f hpre (V_m1.2.2.2.2.2.2.2.2.2.2.2.2.2.1 f hpre).1
theorem ct_X9_product (V_l1 : VC_l1) (V_l2 : VC_l2) (V_m1 : VC_m1) {l : Launch} {E : Ev} (f : Fn)  (hpre : Pre_X9_product f) : CT l E layM yX9_product cX9_product 4 (some .int) 51 [.ref (E.2.1 0)] f (pI (Post_X9_product f)) := (ctN_pm V_l1 V_l2 V_m1 48).2.2.2.2.1 f hpre (V_m1.2.2.2.2.2.2.2.2.2.2.2.2.2.2.1 f hpre).1
theorem ct_X9_unit (V_l1 : VC_l1) (V_l2 : VC_l2) (V_m1 : VC_m1) {l : Launch} {E : Ev} (f : Fn)  (hpre : Pre_X9_unit f) : CT l E layM yX9_unit cX9_unit 5 (some .int) 51 [.ref (E.2.1 0)] f (pI (Post_X9_unit f)) := (ctN_pm V_l1 V_l2 V_m1 48).2.2.2.2.2.1 f hpre (V_m1.2.2.2.2.2.2.2.2.2.2.2.2.2.2.2.1 f hpre).1
set_option maxHeartbeats 4000000 in
set_option maxRecDepth 100000 in
theorem wk_X9_worked (V_l1 : VC_l1) (V_l2 : VC_l2) (V_m1 : VC_m1) {Z : Zt}  (C : CX Z layM RX9 cX9_worked 5 (some .int) 52)     (f : Fn) (a1 : Int32) (a2 : Int32) (a3 : Int32) (h : wp_X9_worked  f a1 a2 a3 (zp Z)) : GG Z f [(0, .ref (zad Z 0)), (1, .int a1), (2, .int a2), (3, .int a3)] 0 [] := by
  refine g_aload_n C rfl dX9_worked_0 rfl ?_
  refine g_iload_n C rfl dX9_worked_1 rfl ?_
  refine fp_X9_58 (k := 0) C rfl rfl (Nat.le_of_ble_eq_true rfl) dX9_worked_2 rfl ?_
  refine g_aload_n C rfl dX9_worked_5 rfl ?_
  refine g_iconst C ki_0 dX9_worked_6 rfl ?_
  refine fp_X9_49 (k := 0) C rfl rfl (Nat.le_of_ble_eq_true rfl) dX9_worked_7 rfl ?_
  refine g_aload_n C rfl dX9_worked_10 rfl ?_
  refine g_iload_n C rfl dX9_worked_11 rfl ?_
  refine fp_X9_52 (k := 0) C rfl rfl (Nat.le_of_ble_eq_true rfl) dX9_worked_12 rfl ?_
  refine g_aload_n C rfl dX9_worked_15 rfl ?_
  refine g_iconst C ki_m1 dX9_worked_16 rfl ?_
  refine fp_X9_55 (k := 0) C rfl rfl (Nat.le_of_ble_eq_true rfl) dX9_worked_17 rfl ?_
  refine g_aload_n C rfl dX9_worked_20 rfl ?_
  refine g_iconst C ki_0 dX9_worked_21 rfl ?_
  refine fp_X9_84 (k := 0) C rfl rfl (Nat.le_of_ble_eq_true rfl) dX9_worked_22 rfl ?_
  refine g_aload_n C rfl dX9_worked_25 rfl ?_
  have hs1 := h.1
  replace h := h.2
  refine g_callVI C tw_895 tw_897 tp_17 tw_10 tw_898 hy_X9_either (by decide) (by decide) rfl (Nat.le_of_ble_eq_true rfl) rfl rfl (ct_X9_either V_l1 V_l2 V_m1   (up2 (up2 (up2 (up2 (up2 f 0 4 a1) 0 5 (0 : Int32)) 0 6 a2) 0 7 (-1 : Int32)) 0 8 (0 : Int32)) hs1) dX9_worked_26 rfl rfl (fun r2 f3 hp4 => ?_)
  replace h := h r2 f3 hp4
  refine g_istore (lv' := [(4, .int r2), (0, .ref (zad Z 0)), (1, .int a1), (2, .int a2), (3, .int a3)]) C dX9_worked_29 (by decide) rfl rfl ?_
  refine g_aload_n C rfl dX9_worked_31 rfl ?_
  refine fg_X9_55I (k := 0) (x := (f3 0 7)) C rfl rfl rfl dX9_worked_32 rfl ?_
  refine g_if_ge (tgt := 54) C dX9_worked_35 (by decide) rfl (fun hc5 => ?_) (fun hc5 => ?_)
  · replace h := h.1 hc5
    refine g_iload C rfl dX9_worked_54 rfl ?_
    exact g_iret C dX9_worked_56 h
  · replace h := h.2 hc5
    refine g_aload_n C rfl dX9_worked_38 rfl ?_
    refine fg_X9_49I (k := 0) (x := (f3 0 5)) C rfl rfl rfl dX9_worked_39 rfl ?_
    refine g_aload_n C rfl dX9_worked_42 rfl ?_
    refine fg_X9_52I (k := 0) (x := (f3 0 6)) C rfl rfl rfl dX9_worked_43 rfl ?_
    refine g_icmp_ge (tgt := 54) C dX9_worked_46 (by decide) rfl (fun hc6 => ?_) (fun hc6 => ?_)
    · replace h := h.1 hc6
      refine g_iload C rfl dX9_worked_54 rfl ?_
      exact g_iret C dX9_worked_56 h
    · replace h := h.2 hc6
      refine g_aload_n C rfl dX9_worked_49 rfl ?_
      refine g_callVI C tw_923 tw_925 tp_24 tw_10 tw_926 hy_X9_wrong (by decide) (by decide) rfl (Nat.le_of_ble_eq_true rfl) rfl rfl (ct_X9_wrong V_l1 V_l2 V_m1   f3 ) dX9_worked_50 rfl rfl (fun r7 f8 hp9 => ?_)
      replace h := h r7 f8 hp9
      exact g_iret C dX9_worked_53 h
set_option maxRecDepth 100000 in
theorem ct_X9_worked (V_l1 : VC_l1) (V_l2 : VC_l2) (V_m1 : VC_m1) {l : Launch} {E : Ev}   (f : Fn) (a1 : Int32) (a2 : Int32) (a3 : Int32) (hpre : Pre_X9_worked f a1 a2 a3) : CT l E layM yX9_worked cX9_worked 5 (some .int) 52 [.ref (E.2.1 0), .int a1, .int a2, .int a3] f (pI (Post_X9_worked f a1 a2 a3)) := by
  refine CT.of (by decide +kernel) (Nat.le_of_ble_eq_true rfl) (fun Z hl9 hE9 hp9 C => ?_)
  subst hl9
  subst hE9
  exact wk_X9_worked V_l1 V_l2 V_m1 C   f a1 a2 a3 (by rw [hp9]; exact V_m1.2.2.2.2.2.2.2.2.2.2.2.2.2.2.2.2.1  f a1 a2 a3  hpre)
set_option maxHeartbeats 4000000 in
set_option maxRecDepth 100000 in
theorem wkb_X9_feed_L41 (V_l1 : VC_l1) (V_l2 : VC_l2) (V_m1 : VC_m1) {Z : Zt}  (C : CX Z layM RX9 cX9_feed 5 (some .int) 1)   {K41 : Fn → Int64 → Int32 → Int32 → Prop} (hK41 : ∀ (f : Fn) (x1 : Int64) (x3 : Int32) (x4 : Int32), K41 f x1 x3 x4 → GG Z f [(0, .ref (zad Z 0)), (1, .long x1), (3, .int x3), (4, .int x4)] 41 []) (f : Fn) (x1 : Int64) (x3 : Int32) (x4 : Int32) (h : wpb_X9_feed_L41   K41 f x1 x3 x4 (zp Z)) : GG Z f [(0, .ref (zad Z 0)), (1, .long x1), (3, .int x3), (4, .int x4)] 41 [] := by
  refine g_iload C rfl dX9_feed_41 rfl ?_
  refine g_iload_n C rfl dX9_feed_43 rfl ?_
  refine g_icmp_ge (tgt := 92) C dX9_feed_44 (by decide) rfl (fun hc3 => ?_) (fun hc3 => ?_)
  · replace h := h.1 hc3
    refine g_aload_n C rfl dX9_feed_92 rfl ?_
    refine fg_X9_7R (k := 0) (p := 1) C rfl rfl dX9_feed_93 rfl ?_
    refine g_bipush C kb_9 dX9_feed_96 rfl ?_
    refine g_ialdx (k := 1) (j := 9) (x := (f 1 9)) C rfl vi_9_264 kc_9 rfl dX9_feed_98 rfl ?_
    exact g_iret C dX9_feed_99 h
  · replace h := h.2 hc3
    refine g_aload_n C rfl dX9_feed_47 rfl ?_
    refine fg_X9_7R (k := 0) (p := 1) C rfl rfl dX9_feed_48 rfl ?_
    refine g_sipush C ks_212 dX9_feed_51 rfl ?_
    refine g_aload_n C rfl dX9_feed_54 rfl ?_
    refine fg_X9_7R (k := 0) (p := 1) C rfl rfl dX9_feed_55 rfl ?_
    refine g_bipush C kb_9 dX9_feed_58 rfl ?_
    refine g_ialdx (k := 1) (j := 9) (x := (f 1 9)) C rfl vi_9_264 kc_9 rfl dX9_feed_60 rfl ?_
    refine g_iadd C dX9_feed_61 rfl ?_
    refine g_lload_n C rfl dX9_feed_62 rfl ?_
    refine g_bipush C kb_8 dX9_feed_63 rfl ?_
    refine g_iload C rfl dX9_feed_65 rfl ?_
    refine g_imul C dX9_feed_67 rfl ?_
    refine g_lshr C dX9_feed_68 rfl ?_
    refine g_ldc2 C tw_886 dX9_feed_69 rfl ?_
    refine g_land C dX9_feed_72 rfl ?_
    refine g_l2i C dX9_feed_73 rfl ?_
    have hs4 := h.1
    replace h := h.2
    refine g_iastx (k := 1) (j := ((212 : Int32) + (f 1 9)).toNatClampNeg) C rfl hs4 rfl dX9_feed_74 rfl ?_
    refine g_aload_n C rfl dX9_feed_75 rfl ?_
    refine fg_X9_7R (k := 0) (p := 1) C rfl rfl dX9_feed_76 rfl ?_
    refine g_bipush C kb_9 dX9_feed_79 rfl ?_
    refine g_dup2 C rfl rfl dX9_feed_81 rfl ?_
    refine g_ialdx (k := 1) (j := 9) (x := ((up2 f 1 ((212 : Int32) + (f 1 9)).toNatClampNeg ((x1 >>> (((8 : Int32) * x4).toInt64 &&& 63)) &&& (255 : Int64)).toInt32) 1 9)) C rfl vi_9_264 kc_9 rfl dX9_feed_82 rfl ?_
    refine g_iconst C ki_1 dX9_feed_83 rfl ?_
    refine g_iadd C dX9_feed_84 rfl ?_
    refine g_iastx (k := 1) (j := 9) C rfl vi_9_264 kc_9 dX9_feed_85 rfl ?_
    refine g_iinc (lv' := [(4, .int (x4 + (1 : Int32))), (0, .ref (zad Z 0)), (1, .long x1), (3, .int x3)]) C dX9_feed_86 rfl (inc_1 _) (by decide) rfl rfl ?_
    refine g_goto (q := 41) C dX9_feed_89 (by decide) ?_
    refine g_lps [0, 1, 3, 4] rfl ?_
    exact hK41 _ _ _ _ h
set_option maxHeartbeats 4000000 in
set_option maxRecDepth 100000 in
theorem wk_X9_feed_L41 (V_l1 : VC_l1) (V_l2 : VC_l2) (V_m1 : VC_m1) {Z : Zt}  (C : CX Z layM RX9 cX9_feed 5 (some .int) 1)     (f : Fn) (x1 : Int64) (x3 : Int32) (x4 : Int32) (h : wp_X9_feed_L41   f x1 x3 x4 (zp Z)) : GG Z f [(0, .ref (zad Z 0)), (1, .long x1), (3, .int x3), (4, .int x4)] 41 [] := by
  obtain ⟨I, μ, h0, hs⟩ := h
  suffices H : ∀ (N : Nat) (f : Fn) (x1 : Int64) (x3 : Int32) (x4 : Int32), μ f x1 x3 x4 < N → I f x1 x3 x4 → GG Z f [(0, .ref (zad Z 0)), (1, .long x1), (3, .int x3), (4, .int x4)] 41 [] from H _ f x1 x3 x4 (Nat.lt_succ_self _) h0
  clear h0
  intro N
  induction N with
  | zero => intro f x1 x3 x4 hm; exact absurd hm (Nat.not_lt_zero _)
  | succ N ih =>
    intro f x1 x3 x4 hm hi
    exact wkb_X9_feed_L41 V_l1 V_l2 V_m1  C    (fun f9 x19 x39 x49 hk => ih f9 x19 x39 x49 (Nat.lt_of_lt_of_le hk.2 (Nat.le_of_lt_succ hm)) hk.1) f x1 x3 x4 (hs f x1 x3 x4 hi)
set_option maxHeartbeats 4000000 in
set_option maxRecDepth 100000 in
theorem wk_X9_feed (V_l1 : VC_l1) (V_l2 : VC_l2) (V_m1 : VC_m1) {Z : Zt}  (C : CX Z layM RX9 cX9_feed 5 (some .int) 1)     (f : Fn) (a1 : Int64) (a2 : Int32) (h : wp_X9_feed  f a1 a2 (zp Z)) : GG Z f [(0, .ref (zad Z 0)), (1, .long a1), (3, .int a2)] 0 [] := by
  refine g_iload_n C rfl dX9_feed_0 rfl ?_
  refine g_i2l C dX9_feed_1 rfl ?_
  refine g_lconst C kl_1 dX9_feed_2 rfl ?_
  refine g_ldc2 C tw_877 dX9_feed_3 rfl ?_
  refine g_callSD C tw_878 tw_879 tw_10 tw_880 hy_X9_in (by decide) (by decide) rfl (Nat.le_of_ble_eq_true rfl) (ct_X9_in V_l1 V_l2 V_m1   f a2.toInt64 (1 : Int64) (8 : Int64) ) dX9_feed_6 rfl rfl ?_
  refine g_if_ne (tgt := 18) C dX9_feed_9 (by decide) rfl (fun hc1 => ?_) (fun hc1 => ?_)
  · replace h := h.1 hc1
    refine g_aload_n C rfl dX9_feed_18 rfl ?_
    refine fg_X9_7R (k := 0) (p := 1) C rfl rfl dX9_feed_19 rfl ?_
    refine g_bipush C kb_9 dX9_feed_22 rfl ?_
    refine g_ialdx (k := 1) (j := 9) (x := (f 1 9)) C rfl vi_9_264 kc_9 rfl dX9_feed_24 rfl ?_
    refine g_iload_n C rfl dX9_feed_25 rfl ?_
    refine g_iadd C dX9_feed_26 rfl ?_
    refine g_bipush C kb_50 dX9_feed_27 rfl ?_
    refine g_icmp_le (tgt := 38) C dX9_feed_29 (by decide) rfl (fun hc2 => ?_) (fun hc2 => ?_)
    · replace h := h.1 hc2
      refine g_iconst C ki_0 dX9_feed_38 rfl ?_
      refine g_istore (lv' := [(4, .int (0 : Int32)), (0, .ref (zad Z 0)), (1, .long a1), (3, .int a2)]) C dX9_feed_39 (by decide) rfl rfl ?_
      refine g_lps [0, 1, 3, 4] rfl ?_
      exact wk_X9_feed_L41 V_l1 V_l2 V_m1  C    _ _ _ _ h
    · replace h := h.2 hc2
      refine g_aload_n C rfl dX9_feed_32 rfl ?_
      refine g_iconst C ki_4 dX9_feed_33 rfl ?_
      have hs5 := h.1
      replace h := h.2
      refine g_callVI C tw_881 tw_883 tp_15 tw_10 tw_884 hy_X9_finds (by decide) (by decide) rfl (Nat.le_of_ble_eq_true rfl) rfl rfl (ct_X9_finds V_l1 V_l2 V_m1   f (4 : Int32) hs5) dX9_feed_34 rfl rfl (fun r6 f7 hp8 => ?_)
      replace h := h r6 f7 hp8
      exact g_iret C dX9_feed_37 h
  · replace h := h.2 hc1
    refine g_aload_n C rfl dX9_feed_12 rfl ?_
    refine g_iconst C ki_1 dX9_feed_13 rfl ?_
    have hs9 := h.1
    replace h := h.2
    refine g_callVI C tw_881 tw_883 tp_15 tw_10 tw_884 hy_X9_finds (by decide) (by decide) rfl (Nat.le_of_ble_eq_true rfl) rfl rfl (ct_X9_finds V_l1 V_l2 V_m1   f (1 : Int32) hs9) dX9_feed_14 rfl rfl (fun r10 f11 hp12 => ?_)
    replace h := h r10 f11 hp12
    exact g_iret C dX9_feed_17 h
set_option maxRecDepth 100000 in
theorem ct_X9_feed (V_l1 : VC_l1) (V_l2 : VC_l2) (V_m1 : VC_m1) {l : Launch} {E : Ev}   (f : Fn) (a1 : Int64) (a2 : Int32) (hpre : Pre_X9_feed f a1 a2) : CT l E layM yX9_feed cX9_feed 5 (some .int) 1 [.ref (E.2.1 0), .long a1, .int a2] f (pI (Post_X9_feed f a1 a2)) := by
  refine CT.of (by decide +kernel) (Nat.le_of_ble_eq_true rfl) (fun Z hl9 hE9 hp9 C => ?_)
  subst hl9
  subst hE9
  exact wk_X9_feed V_l1 V_l2 V_m1 C   f a1 a2 (by rw [hp9]; exact V_m1.2.2.2.2.2.2.2.2.2.2.2.2.2.2.2.2.2.1  f a1 a2  hpre)
set_option maxHeartbeats 4000000 in
set_option maxRecDepth 100000 in
theorem wkb_X9_text_L70 (V_l1 : VC_l1) (V_l2 : VC_l2) (V_m1 : VC_m1) {Z : Zt}  (C : CX Z layM RX9 cX9_text 5 (some .int) 53)   {K70 : Fn → Int32 → Int32 → Int32 → Prop} (hK70 : ∀ (f : Fn) (x1 : Int32) (x2 : Int32) (x4 : Int32), K70 f x1 x2 x4 → GG Z f [(0, .ref (zad Z 0)), (1, .int x1), (2, .int x2), (4, .int x4)] 70 []) (f : Fn) (x1 : Int32) (x2 : Int32) (x4 : Int32) (h : wpb_X9_text_L70   K70 f x1 x2 x4 (zp Z)) : GG Z f [(0, .ref (zad Z 0)), (1, .int x1), (2, .int x2), (4, .int x4)] 70 [] := by
  refine g_iload C rfl dX9_text_70 rfl ?_
  refine g_iload_n C rfl dX9_text_72 rfl ?_
  refine g_icmp_ge (tgt := 108) C dX9_text_73 (by decide) rfl (fun hc8 => ?_) (fun hc8 => ?_)
  · replace h := h.1 hc8
    refine g_iconst C ki_1 dX9_text_108 rfl ?_
    exact g_iret C dX9_text_109 h
  · replace h := h.2 hc8
    refine g_aload_n C rfl dX9_text_76 rfl ?_
    refine fg_X9_7R (k := 0) (p := 1) C rfl rfl dX9_text_77 rfl ?_
    refine g_bipush C kb_112 dX9_text_80 rfl ?_
    refine g_bipush C kb_50 dX9_text_82 rfl ?_
    refine g_iload_n C rfl dX9_text_84 rfl ?_
    refine g_imul C dX9_text_85 rfl ?_
    refine g_iadd C dX9_text_86 rfl ?_
    refine g_iload C rfl dX9_text_87 rfl ?_
    refine g_iadd C dX9_text_89 rfl ?_
    refine g_aload_n C rfl dX9_text_90 rfl ?_
    refine fg_X9_7R (k := 0) (p := 1) C rfl rfl dX9_text_91 rfl ?_
    refine g_sipush C ks_212 dX9_text_94 rfl ?_
    refine g_iload C rfl dX9_text_97 rfl ?_
    refine g_iadd C dX9_text_99 rfl ?_
    have hs9 := h.1
    replace h := h.2
    refine g_ialdx (k := 1) (j := ((212 : Int32) + x4).toNatClampNeg) (x := (f 1 ((212 : Int32) + x4).toNatClampNeg)) C rfl hs9 rfl rfl dX9_text_100 rfl ?_
    have hs10 := h.1
    replace h := h.2
    refine g_iastx (k := 1) (j := (((112 : Int32) + ((50 : Int32) * x1)) + x4).toNatClampNeg) C rfl hs10 rfl dX9_text_101 rfl ?_
    refine g_iinc (lv' := [(4, .int (x4 + (1 : Int32))), (0, .ref (zad Z 0)), (1, .int x1), (2, .int x2)]) C dX9_text_102 rfl (inc_1 _) (by decide) rfl rfl ?_
    refine g_goto (q := 70) C dX9_text_105 (by decide) ?_
    refine g_lps [0, 1, 2, 4] rfl ?_
    exact hK70 _ _ _ _ h
set_option maxHeartbeats 4000000 in
set_option maxRecDepth 100000 in
theorem wk_X9_text_L70 (V_l1 : VC_l1) (V_l2 : VC_l2) (V_m1 : VC_m1) {Z : Zt}  (C : CX Z layM RX9 cX9_text 5 (some .int) 53)     (f : Fn) (x1 : Int32) (x2 : Int32) (x4 : Int32) (h : wp_X9_text_L70   f x1 x2 x4 (zp Z)) : GG Z f [(0, .ref (zad Z 0)), (1, .int x1), (2, .int x2), (4, .int x4)] 70 [] := by
  obtain ⟨I, μ, h0, hs⟩ := h
  suffices H : ∀ (N : Nat) (f : Fn) (x1 : Int32) (x2 : Int32) (x4 : Int32), μ f x1 x2 x4 < N → I f x1 x2 x4 → GG Z f [(0, .ref (zad Z 0)), (1, .int x1), (2, .int x2), (4, .int x4)] 70 [] from H _ f x1 x2 x4 (Nat.lt_succ_self _) h0
  clear h0
  intro N
  induction N with
  | zero => intro f x1 x2 x4 hm; exact absurd hm (Nat.not_lt_zero _)
  | succ N ih =>
    intro f x1 x2 x4 hm hi
    exact wkb_X9_text_L70 V_l1 V_l2 V_m1  C    (fun f9 x19 x29 x49 hk => ih f9 x19 x29 x49 (Nat.lt_of_lt_of_le hk.2 (Nat.le_of_lt_succ hm)) hk.1) f x1 x2 x4 (hs f x1 x2 x4 hi)
set_option maxHeartbeats 4000000 in
set_option maxRecDepth 100000 in
theorem wk_X9_text (V_l1 : VC_l1) (V_l2 : VC_l2) (V_m1 : VC_m1) {Z : Zt}  (C : CX Z layM RX9 cX9_text 5 (some .int) 53)     (f : Fn) (a1 : Int32) (h : wp_X9_text  f a1 (zp Z)) : GG Z f [(0, .ref (zad Z 0)), (1, .int a1)] 0 [] := by
  refine g_iload_n C rfl dX9_text_0 rfl ?_
  refine g_i2l C dX9_text_1 rfl ?_
  refine g_lconst C kl_0 dX9_text_2 rfl ?_
  refine g_lconst C kl_1 dX9_text_3 rfl ?_
  refine g_callSD C tw_878 tw_879 tw_10 tw_880 hy_X9_in (by decide) (by decide) rfl (Nat.le_of_ble_eq_true rfl) (ct_X9_in V_l1 V_l2 V_m1   f a1.toInt64 (0 : Int64) (1 : Int64) ) dX9_text_4 rfl rfl ?_
  refine g_if_ne (tgt := 16) C dX9_text_7 (by decide) rfl (fun hc1 => ?_) (fun hc1 => ?_)
  · replace h := h.1 hc1
    refine g_aload_n C rfl dX9_text_16 rfl ?_
    refine fg_X9_7R (k := 0) (p := 1) C rfl rfl dX9_text_17 rfl ?_
    refine g_bipush C kb_9 dX9_text_20 rfl ?_
    refine g_ialdx (k := 1) (j := 9) (x := (f 1 9)) C rfl vi_9_264 kc_9 rfl dX9_text_22 rfl ?_
    refine g_istore_n (lv' := [(2, .int (f 1 9)), (0, .ref (zad Z 0)), (1, .int a1)]) C dX9_text_23 (by decide) rfl rfl ?_
    refine g_aload_n C rfl dX9_text_24 rfl ?_
    refine fg_X9_7R (k := 0) (p := 1) C rfl rfl dX9_text_25 rfl ?_
    refine g_bipush C kb_9 dX9_text_28 rfl ?_
    refine g_iconst C ki_0 dX9_text_30 rfl ?_
    refine g_iastx (k := 1) (j := 9) C rfl vi_9_264 kc_9 dX9_text_31 rfl ?_
    refine g_aload_n C rfl dX9_text_32 rfl ?_
    refine g_sipush C ks_212 dX9_text_33 rfl ?_
    refine g_iload_n C rfl dX9_text_36 rfl ?_
    refine g_iload_n C rfl dX9_text_37 rfl ?_
    have hs2 := h.1
    replace h := h.2
    refine g_callVI C tw_891 tw_893 tp_16 tw_10 tw_894 hy_X9_worked (by decide) (by decide) rfl (Nat.le_of_ble_eq_true rfl) rfl rfl (ct_X9_worked V_l1 V_l2 V_m1   (up2 f 1 9 (0 : Int32)) (212 : Int32) (f 1 9) a1 hs2) dX9_text_38 rfl rfl (fun r3 f4 hp5 => ?_)
    replace h := h r3 f4 hp5
    refine g_istore_n (lv' := [(3, .int r3), (2, .int (f 1 9)), (0, .ref (zad Z 0)), (1, .int a1)]) C dX9_text_41 (by decide) rfl rfl ?_
    refine g_aload_n C rfl dX9_text_42 rfl ?_
    refine fg_X9_55I (k := 0) (x := (f4 0 7)) C rfl rfl rfl dX9_text_43 rfl ?_
    refine g_if_lt (tgt := 57) C dX9_text_46 (by decide) rfl (fun hc6 => ?_) (fun hc6 => ?_)
    · replace h := h.1 hc6
      refine g_aload_n C rfl dX9_text_57 rfl ?_
      refine fg_X9_7R (k := 0) (p := 1) C rfl rfl dX9_text_58 rfl ?_
      refine g_bipush C kb_90 dX9_text_61 rfl ?_
      refine g_iload_n C rfl dX9_text_63 rfl ?_
      refine g_iadd C dX9_text_64 rfl ?_
      refine g_iload_n C rfl dX9_text_65 rfl ?_
      have hs7 := h.1
      replace h := h.2
      refine g_iastx (k := 1) (j := ((90 : Int32) + a1).toNatClampNeg) C rfl hs7 rfl dX9_text_66 rfl ?_
      refine g_iconst C ki_0 dX9_text_67 rfl ?_
      refine g_istore (lv' := [(4, .int (0 : Int32)), (3, .int r3), (2, .int (f 1 9)), (0, .ref (zad Z 0)), (1, .int a1)]) C dX9_text_68 (by decide) rfl rfl ?_
      refine g_lps [0, 1, 2, 4] rfl ?_
      exact wk_X9_text_L70 V_l1 V_l2 V_m1  C    _ _ _ _ h
    · replace h := h.2 hc6
      refine g_bipush C kb_m10 dX9_text_49 rfl ?_
      refine g_aload_n C rfl dX9_text_51 rfl ?_
      refine fg_X9_55I (k := 0) (x := (f4 0 7)) C rfl rfl rfl dX9_text_52 rfl ?_
      refine g_isub C dX9_text_55 rfl ?_
      exact g_iret C dX9_text_56 h
  · replace h := h.2 hc1
    refine g_aload_n C rfl dX9_text_10 rfl ?_
    refine g_iconst C ki_1 dX9_text_11 rfl ?_
    have hs11 := h.1
    replace h := h.2
    refine g_callVI C tw_881 tw_883 tp_15 tw_10 tw_884 hy_X9_finds (by decide) (by decide) rfl (Nat.le_of_ble_eq_true rfl) rfl rfl (ct_X9_finds V_l1 V_l2 V_m1   f (1 : Int32) hs11) dX9_text_12 rfl rfl (fun r12 f13 hp14 => ?_)
    replace h := h r12 f13 hp14
    exact g_iret C dX9_text_15 h
set_option maxRecDepth 100000 in
theorem ct_X9_text (V_l1 : VC_l1) (V_l2 : VC_l2) (V_m1 : VC_m1) {l : Launch} {E : Ev}   (f : Fn) (a1 : Int32) (hpre : Pre_X9_text f a1) : CT l E layM yX9_text cX9_text 5 (some .int) 53 [.ref (E.2.1 0), .int a1] f (pI (Post_X9_text f a1)) := by
  refine CT.of (by decide +kernel) (Nat.le_of_ble_eq_true rfl) (fun Z hl9 hE9 hp9 C => ?_)
  subst hl9
  subst hE9
  exact wk_X9_text V_l1 V_l2 V_m1 C   f a1 (by rw [hp9]; exact V_m1.2.2.2.2.2.2.2.2.2.2.2.2.2.2.2.2.2.2.1  f a1  hpre)
set_option maxHeartbeats 4000000 in
set_option maxRecDepth 100000 in
theorem wk_X9_textGives_L81 (V_l1 : VC_l1) (V_l2 : VC_l2) (V_m1 : VC_m1) {Z : Zt}  (C : CX Z layM RX9 cX9_textGives 6 (some .int) 53)     (f : Fn) (x1 : Int32) (x5 : Int32) (h : wp_X9_textGives_L81   f x1 x5 (zp Z)) : GG Z f [(1, .int x1), (5, .int x5)] 81 [] := by
  refine g_iload_n C rfl dX9_textGives_81 rfl ?_
  refine g_if_ne (tgt := 96) C dX9_textGives_82 (by decide) rfl (fun hc4 => ?_) (fun hc4 => ?_)
  · replace h := h.1 hc4
    refine g_iload C rfl dX9_textGives_96 rfl ?_
    refine g_bipush C kb_m99 dX9_textGives_98 rfl ?_
    refine g_bipush C kb_99 dX9_textGives_100 rfl ?_
    refine g_callSD C tw_944 tw_945 tw_10 tw_946 hy_X9_held (by decide) (by decide) rfl (Nat.le_of_ble_eq_true rfl) (ct_X9_held V_l1 V_l2 V_m1   f x5 (-99 : Int32) (99 : Int32) ) dX9_textGives_102 rfl rfl ?_
    exact g_iret C dX9_textGives_105 h
  · replace h := h.2 hc4
    refine g_iload C rfl dX9_textGives_85 rfl ?_
    refine g_iconst C ki_1 dX9_textGives_87 rfl ?_
    refine g_bipush C kb_30 dX9_textGives_88 rfl ?_
    refine g_callSD C tw_944 tw_945 tw_10 tw_946 hy_X9_held (by decide) (by decide) rfl (Nat.le_of_ble_eq_true rfl) (ct_X9_held V_l1 V_l2 V_m1   f x5 (1 : Int32) (30 : Int32) ) dX9_textGives_90 rfl rfl ?_
    refine g_goto (q := 105) C dX9_textGives_93 (by decide) ?_
    exact g_iret C dX9_textGives_105 h
set_option maxHeartbeats 4000000 in
set_option maxRecDepth 100000 in
theorem wk_X9_textGives_L22 (V_l1 : VC_l1) (V_l2 : VC_l2) (V_m1 : VC_m1) {Z : Zt}  (C : CX Z layM RX9 cX9_textGives 6 (some .int) 53)     (f : Fn) (x1 : Int32) (x2 : Int32) (x3 : Int32) (x4 : Int32) (s0 : Int32) (h : wp_X9_textGives_L22   f x1 x2 x3 x4 s0 (zp Z)) : GG Z f [(0, .ref (zad Z 0)), (1, .int x1), (2, .int x2), (3, .int x3), (4, .int x4)] 22 [.int s0] := by
  refine g_istore (lv' := [(5, .int s0), (0, .ref (zad Z 0)), (1, .int x1), (2, .int x2), (3, .int x3), (4, .int x4)]) C dX9_textGives_22 (by decide) rfl rfl ?_
  refine g_aload_n C rfl dX9_textGives_24 rfl ?_
  refine fg_X9_7R (k := 0) (p := 1) C rfl rfl dX9_textGives_25 rfl ?_
  refine g_bipush C kb_90 dX9_textGives_28 rfl ?_
  refine g_iload_n C rfl dX9_textGives_30 rfl ?_
  refine g_iadd C dX9_textGives_31 rfl ?_
  have hs2 := h.1
  replace h := h.2
  refine g_ialdx (k := 1) (j := ((90 : Int32) + x1).toNatClampNeg) (x := (f 1 ((90 : Int32) + x1).toNatClampNeg)) C rfl hs2 rfl rfl dX9_textGives_32 rfl ?_
  refine g_if_le (tgt := 81) C dX9_textGives_33 (by decide) rfl (fun hc3 => ?_) (fun hc3 => ?_)
  · replace h := h.1 hc3
    refine g_lps [1, 5] rfl ?_
    exact wk_X9_textGives_L81 V_l1 V_l2 V_m1  C    _ _ _ h
  · replace h := h.2 hc3
    refine g_aload_n C rfl dX9_textGives_36 rfl ?_
    refine fg_X9_19R (k := 0) (p := 4) C rfl rfl dX9_textGives_37 rfl ?_
    refine g_iconst C ki_0 dX9_textGives_40 rfl ?_
    refine g_iload_n C rfl dX9_textGives_41 rfl ?_
    refine g_iastx (k := 4) (j := 0) C rfl vi_0_3 kc_0 dX9_textGives_42 rfl ?_
    refine g_aload_n C rfl dX9_textGives_43 rfl ?_
    refine fg_X9_19R (k := 0) (p := 4) C rfl rfl dX9_textGives_44 rfl ?_
    refine g_iconst C ki_1 dX9_textGives_47 rfl ?_
    refine g_iload_n C rfl dX9_textGives_48 rfl ?_
    refine g_iastx (k := 4) (j := 1) C rfl vi_1_3 kc_1 dX9_textGives_49 rfl ?_
    refine g_aload_n C rfl dX9_textGives_50 rfl ?_
    refine fg_X9_19R (k := 0) (p := 4) C rfl rfl dX9_textGives_51 rfl ?_
    refine g_iconst C ki_2 dX9_textGives_54 rfl ?_
    refine g_iload C rfl dX9_textGives_55 rfl ?_
    refine g_iastx (k := 4) (j := 2) C rfl vi_2_3 kc_2 dX9_textGives_57 rfl ?_
    refine g_aload_n C rfl dX9_textGives_58 rfl ?_
    refine g_bipush C kb_112 dX9_textGives_59 rfl ?_
    refine g_bipush C kb_50 dX9_textGives_61 rfl ?_
    refine g_iload_n C rfl dX9_textGives_63 rfl ?_
    refine g_imul C dX9_textGives_64 rfl ?_
    refine g_iadd C dX9_textGives_65 rfl ?_
    refine g_aload_n C rfl dX9_textGives_66 rfl ?_
    refine fg_X9_7R (k := 0) (p := 1) C rfl rfl dX9_textGives_67 rfl ?_
    refine g_bipush C kb_90 dX9_textGives_70 rfl ?_
    refine g_iload_n C rfl dX9_textGives_72 rfl ?_
    refine g_iadd C dX9_textGives_73 rfl ?_
    have hs5 := h.1
    replace h := h.2
    refine g_ialdx (k := 1) (j := ((90 : Int32) + x1).toNatClampNeg) (x := (f 1 ((90 : Int32) + x1).toNatClampNeg)) C rfl hs5 rfl (by simp [up2, upd]) dX9_textGives_74 rfl ?_
    refine g_iload_n C rfl dX9_textGives_75 rfl ?_
    have hs6 := h.1
    replace h := h.2
    refine g_callVI C tw_891 tw_893 tp_16 tw_10 tw_894 hy_X9_worked (by decide) (by decide) rfl (Nat.le_of_ble_eq_true rfl) rfl rfl (ct_X9_worked V_l1 V_l2 V_m1   (up2 (up2 (up2 f 4 0 x2) 4 1 x3) 4 2 x4) ((112 : Int32) + ((50 : Int32) * x1)) (f 1 ((90 : Int32) + x1).toNatClampNeg) x1 hs6) dX9_textGives_76 rfl rfl (fun r7 f8 hp9 => ?_)
    replace h := h r7 f8 hp9
    refine g_istore (lv' := [(5, .int r7), (0, .ref (zad Z 0)), (1, .int x1), (2, .int x2), (3, .int x3), (4, .int x4)]) C dX9_textGives_79 (by decide) rfl rfl ?_
    refine g_lps [1, 5] rfl ?_
    exact wk_X9_textGives_L81 V_l1 V_l2 V_m1  C    _ _ _ h
set_option maxHeartbeats 4000000 in
set_option maxRecDepth 100000 in
theorem wk_X9_textGives (V_l1 : VC_l1) (V_l2 : VC_l2) (V_m1 : VC_m1) {Z : Zt}  (C : CX Z layM RX9 cX9_textGives 6 (some .int) 53)     (f : Fn) (a1 : Int32) (a2 : Int32) (a3 : Int32) (a4 : Int32) (h : wp_X9_textGives  f a1 a2 a3 a4 (zp Z)) : GG Z f [(0, .ref (zad Z 0)), (1, .int a1), (2, .int a2), (3, .int a3), (4, .int a4)] 0 [] := by
  refine g_iload_n C rfl dX9_textGives_0 rfl ?_
  refine g_if_ne (tgt := 12) C dX9_textGives_1 (by decide) rfl (fun hc1 => ?_) (fun hc1 => ?_)
  · replace h := h.1 hc1
    refine g_iload_n C rfl dX9_textGives_12 rfl ?_
    refine g_iconst C ki_3 dX9_textGives_13 rfl ?_
    refine g_imul C dX9_textGives_14 rfl ?_
    refine g_bipush C kb_30 dX9_textGives_15 rfl ?_
    refine g_iadd C dX9_textGives_17 rfl ?_
    refine g_iload_n C rfl dX9_textGives_18 rfl ?_
    refine g_iconst C ki_2 dX9_textGives_19 rfl ?_
    refine g_imul C dX9_textGives_20 rfl ?_
    refine g_isub C dX9_textGives_21 rfl ?_
    exact wk_X9_textGives_L22 V_l1 V_l2 V_m1  C    _ _ _ _ _ _ h
  · replace h := h.2 hc1
    refine g_iconst C ki_3 dX9_textGives_4 rfl ?_
    refine g_iload_n C rfl dX9_textGives_5 rfl ?_
    refine g_iconst C ki_2 dX9_textGives_6 rfl ?_
    refine g_imul C dX9_textGives_7 rfl ?_
    refine g_iadd C dX9_textGives_8 rfl ?_
    refine g_goto (q := 22) C dX9_textGives_9 (by decide) ?_
    exact wk_X9_textGives_L22 V_l1 V_l2 V_m1  C    _ _ _ _ _ _ h
set_option maxRecDepth 100000 in
theorem ct_X9_textGives (V_l1 : VC_l1) (V_l2 : VC_l2) (V_m1 : VC_m1) {l : Launch} {E : Ev}   (f : Fn) (a1 : Int32) (a2 : Int32) (a3 : Int32) (a4 : Int32) (hpre : Pre_X9_textGives f a1 a2 a3 a4) : CT l E layM yX9_textGives cX9_textGives 6 (some .int) 53 [.ref (E.2.1 0), .int a1, .int a2, .int a3, .int a4] f (pI (Post_X9_textGives f a1 a2 a3 a4)) := by
  refine CT.of (by decide +kernel) (Nat.le_of_ble_eq_true rfl) (fun Z hl9 hE9 hp9 C => ?_)
  subst hl9
  subst hE9
  exact wk_X9_textGives V_l1 V_l2 V_m1 C   f a1 a2 a3 a4 (by rw [hp9]; exact V_m1.2.2.2.2.2.2.2.2.2.2.2.2.2.2.2.2.2.2.2.1  f a1 a2 a3 a4  hpre)
set_option maxHeartbeats 4000000 in
set_option maxRecDepth 100000 in
theorem wk_X9_law (V_l1 : VC_l1) (V_l2 : VC_l2) (V_m1 : VC_m1) {Z : Zt}  (C : CX Z layM RX9 cX9_law 5 (some .int) 54)     (f : Fn) (a1 : Int32) (a2 : Int32) (a3 : Int32) (a4 : Int32) (h : wp_X9_law  f a1 a2 a3 a4 (zp Z)) : GG Z f [(0, .ref (zad Z 0)), (1, .int a1), (2, .int a2), (3, .int a3), (4, .int a4)] 0 [] := by
  refine g_iload_n C rfl dX9_law_0 rfl ?_
  refine g_i2l C dX9_law_1 rfl ?_
  refine g_lconst C kl_0 dX9_law_2 rfl ?_
  refine g_lconst C kl_1 dX9_law_3 rfl ?_
  refine g_callSD C tw_878 tw_879 tw_10 tw_880 hy_X9_in (by decide) (by decide) rfl (Nat.le_of_ble_eq_true rfl) (ct_X9_in V_l1 V_l2 V_m1   f a1.toInt64 (0 : Int64) (1 : Int64) ) dX9_law_4 rfl rfl ?_
  refine g_if_eq (tgt := 22) C dX9_law_7 (by decide) rfl (fun hc1 => ?_) (fun hc1 => ?_)
  · replace h := h.1 hc1
    refine g_aload_n C rfl dX9_law_22 rfl ?_
    refine g_iconst C ki_1 dX9_law_23 rfl ?_
    have hs2 := h.1
    replace h := h.2
    refine g_callVI C tw_881 tw_883 tp_15 tw_10 tw_884 hy_X9_finds (by decide) (by decide) rfl (Nat.le_of_ble_eq_true rfl) rfl rfl (ct_X9_finds V_l1 V_l2 V_m1   f (1 : Int32) hs2) dX9_law_24 rfl rfl (fun r3 f4 hp5 => ?_)
    replace h := h r3 f4 hp5
    exact g_iret C dX9_law_27 h
  · replace h := h.2 hc1
    refine g_aload_n C rfl dX9_law_10 rfl ?_
    refine g_iload_n C rfl dX9_law_11 rfl ?_
    refine g_iload_n C rfl dX9_law_12 rfl ?_
    refine g_iload_n C rfl dX9_law_13 rfl ?_
    refine g_iload C rfl dX9_law_14 rfl ?_
    have hs6 := h.1
    replace h := h.2
    refine g_callVI C tw_940 tw_942 tp_26 tw_10 tw_943 hy_X9_textGives (by decide) (by decide) rfl (Nat.le_of_ble_eq_true rfl) rfl rfl (ct_X9_textGives V_l1 V_l2 V_m1   f a1 a2 a3 a4 hs6) dX9_law_16 rfl rfl (fun r7 f8 hp9 => ?_)
    replace h := h r7 f8 hp9
    refine g_goto (q := 27) C dX9_law_19 (by decide) ?_
    exact g_iret C dX9_law_27 h
set_option maxRecDepth 100000 in
theorem ct_X9_law (V_l1 : VC_l1) (V_l2 : VC_l2) (V_m1 : VC_m1) {l : Launch} {E : Ev}   (f : Fn) (a1 : Int32) (a2 : Int32) (a3 : Int32) (a4 : Int32) (hpre : Pre_X9_law f a1 a2 a3 a4) : CT l E layM yX9_law cX9_law 5 (some .int) 54 [.ref (E.2.1 0), .int a1, .int a2, .int a3, .int a4] f (pI (Post_X9_law f a1 a2 a3 a4)) := by
  refine CT.of (by decide +kernel) (Nat.le_of_ble_eq_true rfl) (fun Z hl9 hE9 hp9 C => ?_)
  subst hl9
  subst hE9
  exact wk_X9_law V_l1 V_l2 V_m1 C   f a1 a2 a3 a4 (by rw [hp9]; exact V_m1.2.2.2.2.2.2.2.2.2.2.2.2.2.2.2.2.2.2.2.2.1  f a1 a2 a3 a4  hpre)
set_option maxHeartbeats 4000000 in
set_option maxRecDepth 100000 in
theorem wk_X9_isSwing (V_l1 : VC_l1) (V_l2 : VC_l2) (V_m1 : VC_m1) {Z : Zt}  (C : CX Z layM RX9 cX9_isSwing 1 (some .boolean) 1)     (f : Fn) (a1 : Int32) (h : wp_X9_isSwing  f a1 (zp Z)) : GG Z f [(0, .int a1)] 0 [] := by
  refine g_iload_n C rfl dX9_isSwing_0 rfl ?_
  refine g_i2l C dX9_isSwing_1 rfl ?_
  refine g_lconst C kl_0 dX9_isSwing_2 rfl ?_
  refine g_lconst C kl_1 dX9_isSwing_3 rfl ?_
  refine g_callSD C tw_878 tw_879 tw_10 tw_880 hy_X9_in (by decide) (by decide) rfl (Nat.le_of_ble_eq_true rfl) (ct_X9_in V_l1 V_l2 V_m1   f a1.toInt64 (0 : Int64) (1 : Int64) ) dX9_isSwing_4 rfl rfl ?_
  have hs1 := h.1
  replace h := h.2
  exact g_zret C hs1 dX9_isSwing_7 h
set_option maxRecDepth 100000 in
theorem ct_X9_isSwing (V_l1 : VC_l1) (V_l2 : VC_l2) (V_m1 : VC_m1) {l : Launch} {E : Ev}   (f : Fn) (a1 : Int32)  : CT l E layM yX9_isSwing cX9_isSwing 1 (some .boolean) 1 [.int a1] f (pI (fun r9 f9 => r9 = Val_X9_isSwing f a1 ∧ f9 = f)) := by
  refine CT.of (by decide +kernel) (Nat.le_of_ble_eq_true rfl) (fun Z hl9 hE9 hp9 C => ?_)
  subst hl9
  subst hE9
  exact wk_X9_isSwing V_l1 V_l2 V_m1 C   f a1 (by rw [hp9]; exact V_m1.2.2.2.2.2.2.2.2.2.2.2.2.2.2.2.2.2.2.2.2.2.1  f a1  )
set_option maxHeartbeats 4000000 in
set_option maxRecDepth 100000 in
theorem wk_X9_barOf_L86 (V_l1 : VC_l1) (V_l2 : VC_l2) (V_m1 : VC_m1) {Z : Zt}  (C : CX Z layM RX9 cX9_barOf 7 (some .int) 0)     (f : Fn) (x3 : Int32) (x4 : Int32) (s0 : Int32) (s1 : Int32) (h : wp_X9_barOf_L86   f x3 x4 s0 s1 (zp Z)) : GG Z f [(3, .int x3), (4, .int x4)] 86 [.int s0, .int s1] := by
  refine g_imul C dX9_barOf_86 rfl ?_
  refine g_iload_n C rfl dX9_barOf_87 rfl ?_
  have hs7 := h.1
  replace h := h.2
  refine g_idiv C hs7 dX9_barOf_88 rfl ?_
  refine g_iload C rfl dX9_barOf_89 rfl ?_
  refine g_isub C dX9_barOf_91 rfl ?_
  exact g_iret C dX9_barOf_92 h
set_option maxHeartbeats 4000000 in
set_option maxRecDepth 100000 in
theorem wk_X9_barOf_L58 (V_l1 : VC_l1) (V_l2 : VC_l2) (V_m1 : VC_m1) {Z : Zt}  (C : CX Z layM RX9 cX9_barOf 7 (some .int) 0)     (f : Fn) (x3 : Int32) (x4 : Int32) (s0 : Int32) (s1 : Int32) (h : wp_X9_barOf_L58   f x3 x4 s0 s1 (zp Z)) : GG Z f [(3, .int x3), (4, .int x4)] 58 [.int s0, .int s1] := by
  refine g_iadd C dX9_barOf_58 rfl ?_
  refine g_istore (lv' := [(5, .int (s1 + s0)), (3, .int x3), (4, .int x4)]) C dX9_barOf_59 (by decide) rfl rfl ?_
  refine g_iconst C ki_2 dX9_barOf_61 rfl ?_
  refine g_iload C rfl dX9_barOf_62 rfl ?_
  refine g_imul C dX9_barOf_64 rfl ?_
  refine g_iload_n C rfl dX9_barOf_65 rfl ?_
  refine g_isub C dX9_barOf_66 rfl ?_
  refine g_istore (lv' := [(6, .int (((2 : Int32) * (s1 + s0)) - x3)), (5, .int (s1 + s0)), (3, .int x3), (4, .int x4)]) C dX9_barOf_67 (by decide) rfl rfl ?_
  refine g_iconst C ki_2 dX9_barOf_69 rfl ?_
  refine g_iload C rfl dX9_barOf_70 rfl ?_
  refine g_imul C dX9_barOf_72 rfl ?_
  refine g_iload C rfl dX9_barOf_73 rfl ?_
  refine g_if_ge (tgt := 84) C dX9_barOf_75 (by decide) rfl (fun hc6 => ?_) (fun hc6 => ?_)
  · replace h := h.1 hc6
    refine g_iload C rfl dX9_barOf_84 rfl ?_
    refine g_lps [3, 4] rfl ?_
    exact wk_X9_barOf_L86 V_l1 V_l2 V_m1  C    _ _ _ _ _ h
  · replace h := h.2 hc6
    refine g_iload C rfl dX9_barOf_78 rfl ?_
    refine g_ineg C dX9_barOf_80 rfl ?_
    refine g_goto (q := 86) C dX9_barOf_81 (by decide) ?_
    refine g_lps [3, 4] rfl ?_
    exact wk_X9_barOf_L86 V_l1 V_l2 V_m1  C    _ _ _ _ _ h
set_option maxHeartbeats 4000000 in
set_option maxRecDepth 100000 in
theorem wk_X9_barOf (V_l1 : VC_l1) (V_l2 : VC_l2) (V_m1 : VC_m1) {Z : Zt}  (C : CX Z layM RX9 cX9_barOf 7 (some .int) 0)     (f : Fn) (a1 : Int32) (a2 : Int32) (h : wp_X9_barOf  f a1 a2 (zp Z)) : GG Z f [(0, .ref (zad Z 0)), (1, .int a1), (2, .int a2)] 0 [] := by
  refine g_aload_n C rfl dX9_barOf_0 rfl ?_
  refine fg_X9_7R (k := 0) (p := 1) C rfl rfl dX9_barOf_1 rfl ?_
  refine g_bipush C kb_12 dX9_barOf_4 rfl ?_
  refine g_iconst C ki_3 dX9_barOf_6 rfl ?_
  refine g_iload_n C rfl dX9_barOf_7 rfl ?_
  refine g_imul C dX9_barOf_8 rfl ?_
  refine g_iadd C dX9_barOf_9 rfl ?_
  have hs1 := h.1
  replace h := h.2
  refine g_ialdx (k := 1) (j := ((12 : Int32) + ((3 : Int32) * a1)).toNatClampNeg) (x := (f 1 ((12 : Int32) + ((3 : Int32) * a1)).toNatClampNeg)) C rfl hs1 rfl rfl dX9_barOf_10 rfl ?_
  refine g_istore_n (lv' := [(3, .int (f 1 ((12 : Int32) + ((3 : Int32) * a1)).toNatClampNeg)), (0, .ref (zad Z 0)), (1, .int a1), (2, .int a2)]) C dX9_barOf_11 (by decide) rfl rfl ?_
  refine g_aload_n C rfl dX9_barOf_12 rfl ?_
  refine fg_X9_7R (k := 0) (p := 1) C rfl rfl dX9_barOf_13 rfl ?_
  refine g_bipush C kb_12 dX9_barOf_16 rfl ?_
  refine g_iconst C ki_3 dX9_barOf_18 rfl ?_
  refine g_iload_n C rfl dX9_barOf_19 rfl ?_
  refine g_imul C dX9_barOf_20 rfl ?_
  refine g_iadd C dX9_barOf_21 rfl ?_
  refine g_iconst C ki_1 dX9_barOf_22 rfl ?_
  refine g_iadd C dX9_barOf_23 rfl ?_
  have hs2 := h.1
  replace h := h.2
  refine g_ialdx (k := 1) (j := (((12 : Int32) + ((3 : Int32) * a1)) + (1 : Int32)).toNatClampNeg) (x := (f 1 (((12 : Int32) + ((3 : Int32) * a1)) + (1 : Int32)).toNatClampNeg)) C rfl hs2 rfl rfl dX9_barOf_24 rfl ?_
  refine g_istore (lv' := [(4, .int (f 1 (((12 : Int32) + ((3 : Int32) * a1)) + (1 : Int32)).toNatClampNeg)), (3, .int (f 1 ((12 : Int32) + ((3 : Int32) * a1)).toNatClampNeg)), (0, .ref (zad Z 0)), (1, .int a1), (2, .int a2)]) C dX9_barOf_25 (by decide) rfl rfl ?_
  refine g_iload_n C rfl dX9_barOf_27 rfl ?_
  refine g_aload_n C rfl dX9_barOf_28 rfl ?_
  refine fg_X9_7R (k := 0) (p := 1) C rfl rfl dX9_barOf_29 rfl ?_
  refine g_bipush C kb_12 dX9_barOf_32 rfl ?_
  refine g_iconst C ki_3 dX9_barOf_34 rfl ?_
  refine g_iload_n C rfl dX9_barOf_35 rfl ?_
  refine g_imul C dX9_barOf_36 rfl ?_
  refine g_iadd C dX9_barOf_37 rfl ?_
  refine g_iconst C ki_2 dX9_barOf_38 rfl ?_
  refine g_iadd C dX9_barOf_39 rfl ?_
  have hs3 := h.1
  replace h := h.2
  refine g_ialdx (k := 1) (j := (((12 : Int32) + ((3 : Int32) * a1)) + (2 : Int32)).toNatClampNeg) (x := (f 1 (((12 : Int32) + ((3 : Int32) * a1)) + (2 : Int32)).toNatClampNeg)) C rfl hs3 rfl rfl dX9_barOf_40 rfl ?_
  refine g_iadd C dX9_barOf_41 rfl ?_
  refine g_iload_n C rfl dX9_barOf_42 rfl ?_
  have hs4 := h.1
  replace h := h.2
  refine g_irem C hs4 dX9_barOf_43 rfl ?_
  refine g_istore (lv' := [(5, .int ((a2 + (f 1 (((12 : Int32) + ((3 : Int32) * a1)) + (2 : Int32)).toNatClampNeg)) - ((a2 + (f 1 (((12 : Int32) + ((3 : Int32) * a1)) + (2 : Int32)).toNatClampNeg)) / (f 1 ((12 : Int32) + ((3 : Int32) * a1)).toNatClampNeg)) * (f 1 ((12 : Int32) + ((3 : Int32) * a1)).toNatClampNeg))), (4, .int (f 1 (((12 : Int32) + ((3 : Int32) * a1)) + (1 : Int32)).toNatClampNeg)), (3, .int (f 1 ((12 : Int32) + ((3 : Int32) * a1)).toNatClampNeg)), (0, .ref (zad Z 0)), (1, .int a1), (2, .int a2)]) C dX9_barOf_44 (by decide) rfl rfl ?_
  refine g_iload C rfl dX9_barOf_46 rfl ?_
  refine g_iload C rfl dX9_barOf_48 rfl ?_
  refine g_if_ge (tgt := 57) C dX9_barOf_50 (by decide) rfl (fun hc5 => ?_) (fun hc5 => ?_)
  · replace h := h.1 hc5
    refine g_iconst C ki_0 dX9_barOf_57 rfl ?_
    refine g_lps [3, 4] rfl ?_
    exact wk_X9_barOf_L58 V_l1 V_l2 V_m1  C    _ _ _ _ _ h
  · replace h := h.2 hc5
    refine g_iload_n C rfl dX9_barOf_53 rfl ?_
    refine g_goto (q := 58) C dX9_barOf_54 (by decide) ?_
    refine g_lps [3, 4] rfl ?_
    exact wk_X9_barOf_L58 V_l1 V_l2 V_m1  C    _ _ _ _ _ h
set_option maxRecDepth 100000 in
theorem ct_X9_barOf (V_l1 : VC_l1) (V_l2 : VC_l2) (V_m1 : VC_m1) {l : Launch} {E : Ev}   (f : Fn) (a1 : Int32) (a2 : Int32) (hpre : Pre_X9_barOf f a1 a2) : CT l E layM yX9_barOf cX9_barOf 7 (some .int) 0 [.ref (E.2.1 0), .int a1, .int a2] f (pI (fun r9 f9 => r9 = Val_X9_barOf f a1 a2 ∧ f9 = f)) := by
  refine CT.of (by decide +kernel) (Nat.le_of_ble_eq_true rfl) (fun Z hl9 hE9 hp9 C => ?_)
  subst hl9
  subst hE9
  exact wk_X9_barOf V_l1 V_l2 V_m1 C   f a1 a2 (by rw [hp9]; exact V_m1.2.2.2.2.2.2.2.2.2.2.2.2.2.2.2.2.2.2.2.2.2.2.1  f a1 a2  hpre)
set_option maxHeartbeats 4000000 in
set_option maxRecDepth 100000 in
theorem wk_X9_catcherAt (V_l1 : VC_l1) (V_l2 : VC_l2) (V_m1 : VC_m1) {Z : Zt}  (C : CX Z layM RX9 cX9_catcherAt 2 (some .int) 1)     (f : Fn) (a1 : Int32) (h : wp_X9_catcherAt  f a1 (zp Z)) : GG Z f [(0, .ref (zad Z 0)), (1, .int a1)] 0 [] := by
  refine g_aload_n C rfl dX9_catcherAt_0 rfl ?_
  refine fg_X9_7R (k := 0) (p := 1) C rfl rfl dX9_catcherAt_1 rfl ?_
  refine g_iconst C ki_5 dX9_catcherAt_4 rfl ?_
  refine g_ialdx (k := 1) (j := 5) (x := (f 1 5)) C rfl vi_5_264 kc_5 rfl dX9_catcherAt_5 rfl ?_
  refine g_aload_n C rfl dX9_catcherAt_6 rfl ?_
  refine g_iconst C ki_1 dX9_catcherAt_7 rfl ?_
  refine g_iload_n C rfl dX9_catcherAt_8 rfl ?_
  have hs1 := h.1
  replace h := h.2
  refine g_callVD C tw_963 tw_965 tp_27 tw_10 tw_966 hy_X9_barOf (by decide) (by decide) rfl (Nat.le_of_ble_eq_true rfl) rfl rfl (ct_X9_barOf V_l1 V_l2 V_m1   f (1 : Int32) a1 hs1) dX9_catcherAt_9 rfl rfl ?_
  refine g_isub C dX9_catcherAt_12 rfl ?_
  exact g_iret C dX9_catcherAt_13 h
set_option maxRecDepth 100000 in
theorem ct_X9_catcherAt (V_l1 : VC_l1) (V_l2 : VC_l2) (V_m1 : VC_m1) {l : Launch} {E : Ev}   (f : Fn) (a1 : Int32) (hpre : Pre_X9_catcherAt f a1) : CT l E layM yX9_catcherAt cX9_catcherAt 2 (some .int) 1 [.ref (E.2.1 0), .int a1] f (pI (fun r9 f9 => r9 = Val_X9_catcherAt f a1 ∧ f9 = f)) := by
  refine CT.of (by decide +kernel) (Nat.le_of_ble_eq_true rfl) (fun Z hl9 hE9 hp9 C => ?_)
  subst hl9
  subst hE9
  exact wk_X9_catcherAt V_l1 V_l2 V_m1 C   f a1 (by rw [hp9]; exact V_m1.2.2.2.2.2.2.2.2.2.2.2.2.2.2.2.2.2.2.2.2.2.2.2.1  f a1  hpre)
set_option maxHeartbeats 4000000 in
set_option maxRecDepth 100000 in
theorem wk_X9_swing_L19 (V_l1 : VC_l1) (V_l2 : VC_l2) (V_m1 : VC_m1) {Z : Zt}  (C : CX Z layM RX9 cX9_swing 7 (some .int) 2)     (f : Fn)  (h : wp_X9_swing_L19   f  (zp Z)) : GG Z f [(0, .ref (zad Z 0))] 19 [] := by
  refine g_aload_n C rfl dX9_swing_19 rfl ?_
  refine g_iconst C ki_1 dX9_swing_20 rfl ?_
  have hs2 := h.1
  replace h := h.2
  refine g_callVI C tw_881 tw_883 tp_15 tw_10 tw_884 hy_X9_finds (by decide) (by decide) rfl (Nat.le_of_ble_eq_true rfl) rfl rfl (ct_X9_finds V_l1 V_l2 V_m1   f (1 : Int32) hs2) dX9_swing_21 rfl rfl (fun r3 f4 hp5 => ?_)
  replace h := h r3 f4 hp5
  exact g_iret C dX9_swing_24 h
set_option maxHeartbeats 4000000 in
set_option maxRecDepth 100000 in
theorem wk_X9_swing_L84 (V_l1 : VC_l1) (V_l2 : VC_l2) (V_m1 : VC_m1) {Z : Zt}  (C : CX Z layM RX9 cX9_swing 7 (some .int) 2)     (f : Fn) (x2 : Int32) (x3 : Int32) (x4 : Int32) (s0 : Int32) (h : wp_X9_swing_L84   f x2 x3 x4 s0 (zp Z)) : GG Z f [(0, .ref (zad Z 0)), (2, .int x2), (3, .int x3), (4, .int x4)] 84 [.int s0] := by
  refine g_istore (lv' := [(5, .int s0), (0, .ref (zad Z 0)), (2, .int x2), (3, .int x3), (4, .int x4)]) C dX9_swing_84 (by decide) rfl rfl ?_
  refine g_iload C rfl dX9_swing_86 rfl ?_
  refine g_if_ne (tgt := 97) C dX9_swing_88 (by decide) rfl (fun hc10 => ?_) (fun hc10 => ?_)
  · replace h := h.1 hc10
    refine g_aload_n C rfl dX9_swing_97 rfl ?_
    refine fg_X9_7R (k := 0) (p := 1) C rfl rfl dX9_swing_98 rfl ?_
    refine g_iload C rfl dX9_swing_101 rfl ?_
    refine g_iload_n C rfl dX9_swing_103 rfl ?_
    refine g_iadd C dX9_swing_104 rfl ?_
    have hs11 := h.1
    replace h := h.2
    refine g_ialdx (k := 1) (j := (x4 + x2).toNatClampNeg) (x := (f 1 (x4 + x2).toNatClampNeg)) C rfl hs11 rfl rfl dX9_swing_105 rfl ?_
    refine g_istore (lv' := [(6, .int (f 1 (x4 + x2).toNatClampNeg)), (5, .int s0), (0, .ref (zad Z 0)), (2, .int x2), (3, .int x3), (4, .int x4)]) C dX9_swing_106 (by decide) rfl rfl ?_
    refine g_aload_n C rfl dX9_swing_108 rfl ?_
    refine fg_X9_7R (k := 0) (p := 1) C rfl rfl dX9_swing_109 rfl ?_
    refine g_iload C rfl dX9_swing_112 rfl ?_
    refine g_iload_n C rfl dX9_swing_114 rfl ?_
    refine g_iadd C dX9_swing_115 rfl ?_
    refine g_iload_n C rfl dX9_swing_116 rfl ?_
    have hs12 := h.1
    replace h := h.2
    refine g_iastx (k := 1) (j := (x4 + x2).toNatClampNeg) C rfl hs12 rfl dX9_swing_117 rfl ?_
    refine g_aload_n C rfl dX9_swing_118 rfl ?_
    refine fg_X9_7R (k := 0) (p := 1) C rfl rfl dX9_swing_119 rfl ?_
    refine g_iload C rfl dX9_swing_122 rfl ?_
    refine g_iconst C ki_2 dX9_swing_124 rfl ?_
    refine g_iadd C dX9_swing_125 rfl ?_
    refine g_dup2 C rfl rfl dX9_swing_126 rfl ?_
    have hs13 := h.1
    replace h := h.2
    refine g_ialdx (k := 1) (j := (x4 + (2 : Int32)).toNatClampNeg) (x := ((up2 f 1 (x4 + x2).toNatClampNeg x3) 1 (x4 + (2 : Int32)).toNatClampNeg)) C rfl hs13 rfl rfl dX9_swing_127 rfl ?_
    refine g_aload_n C rfl dX9_swing_128 rfl ?_
    refine fg_X9_7R (k := 0) (p := 1) C rfl rfl dX9_swing_129 rfl ?_
    refine g_iload C rfl dX9_swing_132 rfl ?_
    have hs14 := h.1
    replace h := h.2
    refine g_ialdx (k := 1) (j := x4.toNatClampNeg) (x := ((up2 f 1 (x4 + x2).toNatClampNeg x3) 1 x4.toNatClampNeg)) C rfl hs14 rfl rfl dX9_swing_134 rfl ?_
    have hs15 := h.1
    replace h := h.2
    refine g_irem C hs15 dX9_swing_135 rfl ?_
    have hs16 := h.1
    replace h := h.2
    refine g_iastx (k := 1) (j := (x4 + (2 : Int32)).toNatClampNeg) C rfl hs16 rfl dX9_swing_136 rfl ?_
    refine g_iload C rfl dX9_swing_137 rfl ?_
    exact g_iret C dX9_swing_139 h
  · replace h := h.2 hc10
    refine g_aload_n C rfl dX9_swing_91 rfl ?_
    refine g_iconst C ki_1 dX9_swing_92 rfl ?_
    have hs17 := h.1
    replace h := h.2
    refine g_callVI C tw_881 tw_883 tp_15 tw_10 tw_884 hy_X9_finds (by decide) (by decide) rfl (Nat.le_of_ble_eq_true rfl) rfl rfl (ct_X9_finds V_l1 V_l2 V_m1   f (1 : Int32) hs17) dX9_swing_93 rfl rfl (fun r18 f19 hp20 => ?_)
    replace h := h r18 f19 hp20
    exact g_iret C dX9_swing_96 h
set_option maxHeartbeats 4000000 in
set_option maxRecDepth 100000 in
theorem wk_X9_swing (V_l1 : VC_l1) (V_l2 : VC_l2) (V_m1 : VC_m1) {Z : Zt}  (C : CX Z layM RX9 cX9_swing 7 (some .int) 2)     (f : Fn) (a1 : Int32) (a2 : Int32) (a3 : Int32) (h : wp_X9_swing  f a1 a2 a3 (zp Z)) : GG Z f [(0, .ref (zad Z 0)), (1, .int a1), (2, .int a2), (3, .int a3)] 0 [] := by
  refine g_iload_n C rfl dX9_swing_0 rfl ?_
  refine g_callSD C tw_951 tw_952 tw_10 tw_953 hy_X9_isSwing (by decide) (by decide) rfl (Nat.le_of_ble_eq_true rfl) (ct_X9_isSwing V_l1 V_l2 V_m1   f a1 ) dX9_swing_1 rfl rfl ?_
  refine g_if_eq (tgt := 19) C dX9_swing_4 (by decide) rfl (fun hc1 => ?_) (fun hc1 => ?_)
  · replace h := h.1 hc1
    refine g_lps [0] rfl ?_
    exact wk_X9_swing_L19 V_l1 V_l2 V_m1  C    _  h
  · replace h := h.2 hc1
    refine g_iload_n C rfl dX9_swing_7 rfl ?_
    refine g_i2l C dX9_swing_8 rfl ?_
    refine g_lconst C kl_0 dX9_swing_9 rfl ?_
    refine g_ldc2 C tw_954 dX9_swing_10 rfl ?_
    refine g_callSD C tw_878 tw_879 tw_10 tw_880 hy_X9_in (by decide) (by decide) rfl (Nat.le_of_ble_eq_true rfl) (ct_X9_in V_l1 V_l2 V_m1   f a2.toInt64 (0 : Int64) (2 : Int64) ) dX9_swing_13 rfl rfl ?_
    refine g_if_ne (tgt := 25) C dX9_swing_16 (by decide) rfl (fun hc6 => ?_) (fun hc6 => ?_)
    · replace h := h.1 hc6
      refine g_bipush C kb_12 dX9_swing_25 rfl ?_
      refine g_iconst C ki_3 dX9_swing_27 rfl ?_
      refine g_iload_n C rfl dX9_swing_28 rfl ?_
      refine g_imul C dX9_swing_29 rfl ?_
      refine g_iadd C dX9_swing_30 rfl ?_
      refine g_istore (lv' := [(4, .int ((12 : Int32) + ((3 : Int32) * a1))), (0, .ref (zad Z 0)), (1, .int a1), (2, .int a2), (3, .int a3)]) C dX9_swing_31 (by decide) rfl rfl ?_
      refine g_iload_n C rfl dX9_swing_33 rfl ?_
      refine g_if_ne (tgt := 51) C dX9_swing_34 (by decide) rfl (fun hc7 => ?_) (fun hc7 => ?_)
      · replace h := h.1 hc7
        refine g_iload_n C rfl dX9_swing_51 rfl ?_
        refine g_iconst C ki_1 dX9_swing_52 rfl ?_
        refine g_icmp_ne (tgt := 68) C dX9_swing_53 (by decide) rfl (fun hc8 => ?_) (fun hc8 => ?_)
        · replace h := h.1 hc8
          refine g_iload_n C rfl dX9_swing_68 rfl ?_
          refine g_i2l C dX9_swing_69 rfl ?_
          refine g_lconst C kl_0 dX9_swing_70 rfl ?_
          refine g_aload_n C rfl dX9_swing_71 rfl ?_
          refine fg_X9_7R (k := 0) (p := 1) C rfl rfl dX9_swing_72 rfl ?_
          refine g_iload C rfl dX9_swing_75 rfl ?_
          have hs9 := h.1
          replace h := h.2
          refine g_ialdx (k := 1) (j := ((12 : Int32) + ((3 : Int32) * a1)).toNatClampNeg) (x := (f 1 ((12 : Int32) + ((3 : Int32) * a1)).toNatClampNeg)) C rfl hs9 rfl rfl dX9_swing_77 rfl ?_
          refine g_iconst C ki_1 dX9_swing_78 rfl ?_
          refine g_isub C dX9_swing_79 rfl ?_
          refine g_i2l C dX9_swing_80 rfl ?_
          refine g_callSD C tw_878 tw_879 tw_10 tw_880 hy_X9_in (by decide) (by decide) rfl (Nat.le_of_ble_eq_true rfl) (ct_X9_in V_l1 V_l2 V_m1   f a3.toInt64 (0 : Int64) ((f 1 ((12 : Int32) + ((3 : Int32) * a1)).toNatClampNeg) - (1 : Int32)).toInt64 ) dX9_swing_81 rfl rfl ?_
          refine g_lps [0, 2, 3, 4] rfl ?_
          exact wk_X9_swing_L84 V_l1 V_l2 V_m1  C    _ _ _ _ _ h
        · replace h := h.2 hc8
          refine g_iload_n C rfl dX9_swing_56 rfl ?_
          refine g_i2l C dX9_swing_57 rfl ?_
          refine g_lconst C kl_1 dX9_swing_58 rfl ?_
          refine g_ldc2 C tw_957 dX9_swing_59 rfl ?_
          refine g_callSD C tw_878 tw_879 tw_10 tw_880 hy_X9_in (by decide) (by decide) rfl (Nat.le_of_ble_eq_true rfl) (ct_X9_in V_l1 V_l2 V_m1   f a3.toInt64 (1 : Int64) (60 : Int64) ) dX9_swing_62 rfl rfl ?_
          refine g_goto (q := 84) C dX9_swing_65 (by decide) ?_
          refine g_lps [0, 2, 3, 4] rfl ?_
          exact wk_X9_swing_L84 V_l1 V_l2 V_m1  C    _ _ _ _ _ h
      · replace h := h.2 hc7
        refine g_iload_n C rfl dX9_swing_37 rfl ?_
        refine g_i2l C dX9_swing_38 rfl ?_
        refine g_ldc2 C tw_955 dX9_swing_39 rfl ?_
        refine g_ldc2 C tw_956 dX9_swing_42 rfl ?_
        refine g_callSD C tw_878 tw_879 tw_10 tw_880 hy_X9_in (by decide) (by decide) rfl (Nat.le_of_ble_eq_true rfl) (ct_X9_in V_l1 V_l2 V_m1   f a3.toInt64 (4 : Int64) (40 : Int64) ) dX9_swing_45 rfl rfl ?_
        refine g_goto (q := 84) C dX9_swing_48 (by decide) ?_
        refine g_lps [0, 2, 3, 4] rfl ?_
        exact wk_X9_swing_L84 V_l1 V_l2 V_m1  C    _ _ _ _ _ h
    · replace h := h.2 hc6
      refine g_lps [0] rfl ?_
      exact wk_X9_swing_L19 V_l1 V_l2 V_m1  C    _  h
set_option maxRecDepth 100000 in
theorem ct_X9_swing (V_l1 : VC_l1) (V_l2 : VC_l2) (V_m1 : VC_m1) {l : Launch} {E : Ev}   (f : Fn) (a1 : Int32) (a2 : Int32) (a3 : Int32) (hpre : Pre_X9_swing f a1 a2 a3) : CT l E layM yX9_swing cX9_swing 7 (some .int) 2 [.ref (E.2.1 0), .int a1, .int a2, .int a3] f (pI (Post_X9_swing f a1 a2 a3)) := by
  refine CT.of (by decide +kernel) (Nat.le_of_ble_eq_true rfl) (fun Z hl9 hE9 hp9 C => ?_)
  subst hl9
  subst hE9
  exact wk_X9_swing V_l1 V_l2 V_m1 C   f a1 a2 a3 (by rw [hp9]; exact V_m1.2.2.2.2.2.2.2.2.2.2.2.2.2.2.2.2.2.2.2.2.2.2.2.2.1  f a1 a2 a3  hpre)
set_option maxHeartbeats 4000000 in
set_option maxRecDepth 100000 in
theorem wk_X9_bar_L28 (V_l1 : VC_l1) (V_l2 : VC_l2) (V_m1 : VC_m1) {Z : Zt}  (C : CX Z layM RX9 cX9_bar 3 (some .int) 2)     (f : Fn)  (h : wp_X9_bar_L28   f  (zp Z)) : GG Z f [(0, .ref (zad Z 0))] 28 [] := by
  refine g_aload_n C rfl dX9_bar_28 rfl ?_
  refine g_iconst C ki_1 dX9_bar_29 rfl ?_
  have hs2 := h.1
  replace h := h.2
  refine g_callVI C tw_881 tw_883 tp_15 tw_10 tw_884 hy_X9_finds (by decide) (by decide) rfl (Nat.le_of_ble_eq_true rfl) rfl rfl (ct_X9_finds V_l1 V_l2 V_m1   f (1 : Int32) hs2) dX9_bar_30 rfl rfl (fun r3 f4 hp5 => ?_)
  replace h := h r3 f4 hp5
  exact g_iret C dX9_bar_33 h
set_option maxHeartbeats 4000000 in
set_option maxRecDepth 100000 in
theorem wk_X9_bar (V_l1 : VC_l1) (V_l2 : VC_l2) (V_m1 : VC_m1) {Z : Zt}  (C : CX Z layM RX9 cX9_bar 3 (some .int) 2)     (f : Fn) (a1 : Int32) (a2 : Int32) (h : wp_X9_bar  f a1 a2 (zp Z)) : GG Z f [(0, .ref (zad Z 0)), (1, .int a1), (2, .int a2)] 0 [] := by
  refine g_iload_n C rfl dX9_bar_0 rfl ?_
  refine g_callSD C tw_951 tw_952 tw_10 tw_953 hy_X9_isSwing (by decide) (by decide) rfl (Nat.le_of_ble_eq_true rfl) (ct_X9_isSwing V_l1 V_l2 V_m1   f a1 ) dX9_bar_1 rfl rfl ?_
  refine g_if_eq (tgt := 28) C dX9_bar_4 (by decide) rfl (fun hc1 => ?_) (fun hc1 => ?_)
  · replace h := h.1 hc1
    refine g_lps [0] rfl ?_
    exact wk_X9_bar_L28 V_l1 V_l2 V_m1  C    _  h
  · replace h := h.2 hc1
    refine g_iload_n C rfl dX9_bar_7 rfl ?_
    refine g_i2l C dX9_bar_8 rfl ?_
    refine g_lconst C kl_0 dX9_bar_9 rfl ?_
    refine g_ldc2 C tw_962 dX9_bar_10 rfl ?_
    refine g_callSD C tw_878 tw_879 tw_10 tw_880 hy_X9_in (by decide) (by decide) rfl (Nat.le_of_ble_eq_true rfl) (ct_X9_in V_l1 V_l2 V_m1   f a2.toInt64 (0 : Int64) (19999 : Int64) ) dX9_bar_13 rfl rfl ?_
    refine g_if_eq (tgt := 28) C dX9_bar_16 (by decide) rfl (fun hc6 => ?_) (fun hc6 => ?_)
    · replace h := h.1 hc6
      refine g_lps [0] rfl ?_
      exact wk_X9_bar_L28 V_l1 V_l2 V_m1  C    _  h
    · replace h := h.2 hc6
      refine g_aload_n C rfl dX9_bar_19 rfl ?_
      refine g_iload_n C rfl dX9_bar_20 rfl ?_
      refine g_iload_n C rfl dX9_bar_21 rfl ?_
      have hs7 := h.1
      replace h := h.2
      refine g_callVD C tw_963 tw_965 tp_27 tw_10 tw_966 hy_X9_barOf (by decide) (by decide) rfl (Nat.le_of_ble_eq_true rfl) rfl rfl (ct_X9_barOf V_l1 V_l2 V_m1   f a1 a2 hs7) dX9_bar_22 rfl rfl ?_
      refine g_goto (q := 33) C dX9_bar_25 (by decide) ?_
      exact g_iret C dX9_bar_33 h
set_option maxRecDepth 100000 in
theorem ct_X9_bar (V_l1 : VC_l1) (V_l2 : VC_l2) (V_m1 : VC_m1) {l : Launch} {E : Ev}   (f : Fn) (a1 : Int32) (a2 : Int32) (hpre : Pre_X9_bar f a1 a2) : CT l E layM yX9_bar cX9_bar 3 (some .int) 2 [.ref (E.2.1 0), .int a1, .int a2] f (pI (Post_X9_bar f a1 a2)) := by
  refine CT.of (by decide +kernel) (Nat.le_of_ble_eq_true rfl) (fun Z hl9 hE9 hp9 C => ?_)
  subst hl9
  subst hE9
  exact wk_X9_bar V_l1 V_l2 V_m1 C   f a1 a2 (by rw [hp9]; exact V_m1.2.2.2.2.2.2.2.2.2.2.2.2.2.2.2.2.2.2.2.2.2.2.2.2.2.1  f a1 a2  hpre)
set_option maxHeartbeats 4000000 in
set_option maxRecDepth 100000 in
theorem wk_X9_set_L57 (V_l1 : VC_l1) (V_l2 : VC_l2) (V_m1 : VC_m1) {Z : Zt}  (C : CX Z layM RX9 cX9_set 5 (some .int) 1)     (f : Fn) (x1 : Int32) (x2 : Int32) (s0 : Int32) (h : wp_X9_set_L57   f x1 x2 s0 (zp Z)) : GG Z f [(0, .ref (zad Z 0)), (1, .int x1), (2, .int x2)] 57 [.int s0] := by
  refine g_istore_n (lv' := [(3, .int s0), (0, .ref (zad Z 0)), (1, .int x1), (2, .int x2)]) C dX9_set_57 (by decide) rfl rfl ?_
  refine g_iload_n C rfl dX9_set_58 rfl ?_
  refine g_if_ne (tgt := 68) C dX9_set_59 (by decide) rfl (fun hc4 => ?_) (fun hc4 => ?_)
  · replace h := h.1 hc4
    refine g_aload_n C rfl dX9_set_68 rfl ?_
    refine fg_X9_7R (k := 0) (p := 1) C rfl rfl dX9_set_69 rfl ?_
    refine g_iconst C ki_5 dX9_set_72 rfl ?_
    refine g_iload_n C rfl dX9_set_73 rfl ?_
    refine g_iadd C dX9_set_74 rfl ?_
    have hs5 := h.1
    replace h := h.2
    refine g_ialdx (k := 1) (j := ((5 : Int32) + x1).toNatClampNeg) (x := (f 1 ((5 : Int32) + x1).toNatClampNeg)) C rfl hs5 rfl rfl dX9_set_75 rfl ?_
    refine g_istore (lv' := [(4, .int (f 1 ((5 : Int32) + x1).toNatClampNeg)), (3, .int s0), (0, .ref (zad Z 0)), (1, .int x1), (2, .int x2)]) C dX9_set_76 (by decide) rfl rfl ?_
    refine g_aload_n C rfl dX9_set_78 rfl ?_
    refine fg_X9_7R (k := 0) (p := 1) C rfl rfl dX9_set_79 rfl ?_
    refine g_iconst C ki_5 dX9_set_82 rfl ?_
    refine g_iload_n C rfl dX9_set_83 rfl ?_
    refine g_iadd C dX9_set_84 rfl ?_
    refine g_iload_n C rfl dX9_set_85 rfl ?_
    have hs6 := h.1
    replace h := h.2
    refine g_iastx (k := 1) (j := ((5 : Int32) + x1).toNatClampNeg) C rfl hs6 rfl dX9_set_86 rfl ?_
    refine g_iload C rfl dX9_set_87 rfl ?_
    exact g_iret C dX9_set_89 h
  · replace h := h.2 hc4
    refine g_aload_n C rfl dX9_set_62 rfl ?_
    refine g_iconst C ki_1 dX9_set_63 rfl ?_
    have hs7 := h.1
    replace h := h.2
    refine g_callVI C tw_881 tw_883 tp_15 tw_10 tw_884 hy_X9_finds (by decide) (by decide) rfl (Nat.le_of_ble_eq_true rfl) rfl rfl (ct_X9_finds V_l1 V_l2 V_m1   f (1 : Int32) hs7) dX9_set_64 rfl rfl (fun r8 f9 hp10 => ?_)
    replace h := h r8 f9 hp10
    exact g_iret C dX9_set_67 h
set_option maxHeartbeats 4000000 in
set_option maxRecDepth 100000 in
theorem wk_X9_set_L56 (V_l1 : VC_l1) (V_l2 : VC_l2) (V_m1 : VC_m1) {Z : Zt}  (C : CX Z layM RX9 cX9_set 5 (some .int) 1)     (f : Fn) (x1 : Int32) (x2 : Int32) (h : wp_X9_set_L56   f x1 x2 (zp Z)) : GG Z f [(0, .ref (zad Z 0)), (1, .int x1), (2, .int x2)] 56 [] := by
  refine g_iconst C ki_0 dX9_set_56 rfl ?_
  exact wk_X9_set_L57 V_l1 V_l2 V_m1  C    _ _ _ _ h
set_option maxHeartbeats 4000000 in
set_option maxRecDepth 100000 in
theorem wk_X9_set (V_l1 : VC_l1) (V_l2 : VC_l2) (V_m1 : VC_m1) {Z : Zt}  (C : CX Z layM RX9 cX9_set 5 (some .int) 1)     (f : Fn) (a1 : Int32) (a2 : Int32) (h : wp_X9_set  f a1 a2 (zp Z)) : GG Z f [(0, .ref (zad Z 0)), (1, .int a1), (2, .int a2)] 0 [] := by
  refine g_iload_n C rfl dX9_set_0 rfl ?_
  refine g_if_ne (tgt := 16) C dX9_set_1 (by decide) rfl (fun hc1 => ?_) (fun hc1 => ?_)
  · replace h := h.1 hc1
    refine g_iload_n C rfl dX9_set_16 rfl ?_
    refine g_iconst C ki_1 dX9_set_17 rfl ?_
    refine g_icmp_ne (tgt := 33) C dX9_set_18 (by decide) rfl (fun hc2 => ?_) (fun hc2 => ?_)
    · replace h := h.1 hc2
      refine g_iload_n C rfl dX9_set_33 rfl ?_
      refine g_iconst C ki_2 dX9_set_34 rfl ?_
      refine g_icmp_ne (tgt := 56) C dX9_set_35 (by decide) rfl (fun hc3 => ?_) (fun hc3 => ?_)
      · replace h := h.1 hc3
        exact wk_X9_set_L56 V_l1 V_l2 V_m1  C    _ _ _ h
      · replace h := h.2 hc3
        refine g_iload_n C rfl dX9_set_38 rfl ?_
        refine g_i2l C dX9_set_39 rfl ?_
        refine g_ldc2 C tw_973 dX9_set_40 rfl ?_
        refine g_ldc2 C tw_974 dX9_set_43 rfl ?_
        refine g_callSD C tw_878 tw_879 tw_10 tw_880 hy_X9_in (by decide) (by decide) rfl (Nat.le_of_ble_eq_true rfl) (ct_X9_in V_l1 V_l2 V_m1   f a2.toInt64 (-99 : Int64) (299 : Int64) ) dX9_set_46 rfl rfl ?_
        refine g_if_eq (tgt := 56) C dX9_set_49 (by decide) rfl (fun hc11 => ?_) (fun hc11 => ?_)
        · replace h := h.1 hc11
          exact wk_X9_set_L56 V_l1 V_l2 V_m1  C    _ _ _ h
        · replace h := h.2 hc11
          refine g_iconst C ki_1 dX9_set_52 rfl ?_
          refine g_goto (q := 57) C dX9_set_53 (by decide) ?_
          exact wk_X9_set_L57 V_l1 V_l2 V_m1  C    _ _ _ _ h
    · replace h := h.2 hc2
      refine g_iload_n C rfl dX9_set_21 rfl ?_
      refine g_i2l C dX9_set_22 rfl ?_
      refine g_lconst C kl_0 dX9_set_23 rfl ?_
      refine g_ldc2 C tw_972 dX9_set_24 rfl ?_
      refine g_callSD C tw_878 tw_879 tw_10 tw_880 hy_X9_in (by decide) (by decide) rfl (Nat.le_of_ble_eq_true rfl) (ct_X9_in V_l1 V_l2 V_m1   f a2.toInt64 (0 : Int64) (30 : Int64) ) dX9_set_27 rfl rfl ?_
      refine g_goto (q := 57) C dX9_set_30 (by decide) ?_
      exact wk_X9_set_L57 V_l1 V_l2 V_m1  C    _ _ _ _ h
  · replace h := h.2 hc1
    refine g_iload_n C rfl dX9_set_4 rfl ?_
    refine g_i2l C dX9_set_5 rfl ?_
    refine g_lconst C kl_0 dX9_set_6 rfl ?_
    refine g_ldc2 C tw_971 dX9_set_7 rfl ?_
    refine g_callSD C tw_878 tw_879 tw_10 tw_880 hy_X9_in (by decide) (by decide) rfl (Nat.le_of_ble_eq_true rfl) (ct_X9_in V_l1 V_l2 V_m1   f a2.toInt64 (0 : Int64) (200 : Int64) ) dX9_set_10 rfl rfl ?_
    refine g_goto (q := 57) C dX9_set_13 (by decide) ?_
    exact wk_X9_set_L57 V_l1 V_l2 V_m1  C    _ _ _ _ h
set_option maxRecDepth 100000 in
theorem ct_X9_set (V_l1 : VC_l1) (V_l2 : VC_l2) (V_m1 : VC_m1) {l : Launch} {E : Ev}   (f : Fn) (a1 : Int32) (a2 : Int32) (hpre : Pre_X9_set f a1 a2) : CT l E layM yX9_set cX9_set 5 (some .int) 1 [.ref (E.2.1 0), .int a1, .int a2] f (pI (Post_X9_set f a1 a2)) := by
  refine CT.of (by decide +kernel) (Nat.le_of_ble_eq_true rfl) (fun Z hl9 hE9 hp9 C => ?_)
  subst hl9
  subst hE9
  exact wk_X9_set V_l1 V_l2 V_m1 C   f a1 a2 (by rw [hp9]; exact V_m1.2.2.2.2.2.2.2.2.2.2.2.2.2.2.2.2.2.2.2.2.2.2.2.2.2.2.1  f a1 a2  hpre)
set_option maxHeartbeats 4000000 in
set_option maxRecDepth 100000 in
theorem wk_X9_lagOf_L70 (V_l1 : VC_l1) (V_l2 : VC_l2) (V_m1 : VC_m1) {Z : Zt}  (C : CX Z layM RX9 cX9_lagOf 3 (some .int) 1)     (f : Fn) (x1 : Int32) (x2 : Int32) (h : wp_X9_lagOf_L70   f x1 x2 (zp Z)) : GG Z f [(0, .ref (zad Z 0)), (1, .int x1), (2, .int x2)] 70 [] := by
  refine g_aload_n C rfl dX9_lagOf_70 rfl ?_
  refine g_iload_n C rfl dX9_lagOf_71 rfl ?_
  refine g_iconst C ki_3 dX9_lagOf_72 rfl ?_
  have hs5 := h.1
  replace h := h.2
  refine g_callVD C tw_997 tw_999 tp_31 tw_10 tw_1000 hy_X9_of (by decide) (by decide) rfl (Nat.le_of_ble_eq_true rfl) rfl rfl (ct_X9_of V_l1 V_l2 V_m1   f x1 (3 : Int32) hs5) dX9_lagOf_73 rfl rfl ?_
  refine g_iload_n C rfl dX9_lagOf_76 rfl ?_
  refine g_icmp_le (tgt := 84) C dX9_lagOf_77 (by decide) rfl (fun hc6 => ?_) (fun hc6 => ?_)
  · replace h := h.1 hc6
    refine g_iconst C ki_0 dX9_lagOf_84 rfl ?_
    exact g_iret C dX9_lagOf_85 h
  · replace h := h.2 hc6
    refine g_iconst C ki_1 dX9_lagOf_80 rfl ?_
    refine g_goto (q := 85) C dX9_lagOf_81 (by decide) ?_
    exact g_iret C dX9_lagOf_85 h
set_option maxHeartbeats 4000000 in
set_option maxRecDepth 100000 in
theorem wk_X9_lagOf (V_l1 : VC_l1) (V_l2 : VC_l2) (V_m1 : VC_m1) {Z : Zt}  (C : CX Z layM RX9 cX9_lagOf 3 (some .int) 1)     (f : Fn) (a1 : Int32) (h : wp_X9_lagOf  f a1 (zp Z)) : GG Z f [(0, .ref (zad Z 0)), (1, .int a1)] 0 [] := by
  refine g_aload_n C rfl dX9_lagOf_0 rfl ?_
  refine g_iload_n C rfl dX9_lagOf_1 rfl ?_
  refine g_iconst C ki_1 dX9_lagOf_2 rfl ?_
  have hs1 := h.1
  replace h := h.2
  refine g_callVD C tw_997 tw_999 tp_31 tw_10 tw_1000 hy_X9_of (by decide) (by decide) rfl (Nat.le_of_ble_eq_true rfl) rfl rfl (ct_X9_of V_l1 V_l2 V_m1   f a1 (1 : Int32) hs1) dX9_lagOf_3 rfl rfl ?_
  refine g_istore_n (lv' := [(2, .int (Val_X9_of f a1 (1 : Int32))), (0, .ref (zad Z 0)), (1, .int a1)]) C dX9_lagOf_6 (by decide) rfl rfl ?_
  refine g_aload_n C rfl dX9_lagOf_7 rfl ?_
  refine fg_X9_22I (k := 0) (x := (f 0 10)) C rfl rfl rfl dX9_lagOf_8 rfl ?_
  refine g_if_lt (tgt := 19) C dX9_lagOf_11 (by decide) rfl (fun hc2 => ?_) (fun hc2 => ?_)
  · replace h := h.1 hc2
    refine g_aload_n C rfl dX9_lagOf_19 rfl ?_
    refine g_iload_n C rfl dX9_lagOf_20 rfl ?_
    refine g_iconst C ki_0 dX9_lagOf_21 rfl ?_
    have hs3 := h.1
    replace h := h.2
    refine g_callVD C tw_997 tw_999 tp_31 tw_10 tw_1000 hy_X9_of (by decide) (by decide) rfl (Nat.le_of_ble_eq_true rfl) rfl rfl (ct_X9_of V_l1 V_l2 V_m1   f a1 (0 : Int32) hs3) dX9_lagOf_22 rfl rfl ?_
    by_cases hk4_0 : (Val_X9_of f a1 (0 : Int32)) = (2 : Int32)
    · replace h := h.1 hk4_0
      refine g_tableIn (q := 60) (off := (35)) C dX9_lagOf_25 (sw_in1 hk4_0 (by decide +kernel)) (sw_in2 hk4_0 (by decide +kernel)) (sw_ho hk4_0 (by decide +kernel)) (by decide) ?_
      refine g_iconst C ki_1 dX9_lagOf_60 rfl ?_
      refine g_iload_n C rfl dX9_lagOf_61 rfl ?_
      refine g_iconst C ki_3 dX9_lagOf_62 rfl ?_
      refine g_irem C (by decide) dX9_lagOf_63 rfl ?_
      refine g_iadd C dX9_lagOf_64 rfl ?_
      exact g_iret C dX9_lagOf_65 h
    by_cases hk4_1 : (Val_X9_of f a1 (0 : Int32)) = (3 : Int32)
    · replace h := h.2.1 hk4_1
      refine g_tableIn (q := 70) (off := (45)) C dX9_lagOf_25 (sw_in1 hk4_1 (by decide +kernel)) (sw_in2 hk4_1 (by decide +kernel)) (sw_ho hk4_1 (by decide +kernel)) (by decide) ?_
      refine g_lps [0, 1, 2] rfl ?_
      exact wk_X9_lagOf_L70 V_l1 V_l2 V_m1  C    _ _ _ h
    by_cases hk4_2 : (Val_X9_of f a1 (0 : Int32)) = (4 : Int32)
    · replace h := h.2.2.1 hk4_2
      refine g_tableIn (q := 86) (off := (61)) C dX9_lagOf_25 (sw_in1 hk4_2 (by decide +kernel)) (sw_in2 hk4_2 (by decide +kernel)) (sw_ho hk4_2 (by decide +kernel)) (by decide) ?_
      refine g_iconst C ki_0 dX9_lagOf_86 rfl ?_
      exact g_iret C dX9_lagOf_87 h
    by_cases hk4_3 : (Val_X9_of f a1 (0 : Int32)) = (5 : Int32)
    · replace h := h.2.2.2.1 hk4_3
      refine g_tableIn (q := 66) (off := (41)) C dX9_lagOf_25 (sw_in1 hk4_3 (by decide +kernel)) (sw_in2 hk4_3 (by decide +kernel)) (sw_ho hk4_3 (by decide +kernel)) (by decide) ?_
      refine g_iload_n C rfl dX9_lagOf_66 rfl ?_
      refine g_iconst C ki_3 dX9_lagOf_67 rfl ?_
      refine g_irem C (by decide) dX9_lagOf_68 rfl ?_
      exact g_iret C dX9_lagOf_69 h
    by_cases hk4_4 : (Val_X9_of f a1 (0 : Int32)) = (6 : Int32)
    · replace h := h.2.2.2.2.1 hk4_4
      refine g_tableIn (q := 70) (off := (45)) C dX9_lagOf_25 (sw_in1 hk4_4 (by decide +kernel)) (sw_in2 hk4_4 (by decide +kernel)) (sw_ho hk4_4 (by decide +kernel)) (by decide) ?_
      refine g_lps [0, 1, 2] rfl ?_
      exact wk_X9_lagOf_L70 V_l1 V_l2 V_m1  C    _ _ _ h
    replace h := h.2.2.2.2.2 ⟨hk4_0, hk4_1, hk4_2, hk4_3, hk4_4⟩
    refine g_tableOut (q := 86) C dX9_lagOf_25 (sw_out [(2 : Int32), (3 : Int32), (4 : Int32), (5 : Int32), (6 : Int32)] 5 (fun k9 hk9 => by simp only [List.mem_cons, List.not_mem_nil, or_false] at hk9; rcases hk9 with rfl | rfl | rfl | rfl | rfl <;> assumption) (by decide +kernel) (by decide +kernel)) (by decide) ?_
    refine g_iconst C ki_0 dX9_lagOf_86 rfl ?_
    exact g_iret C dX9_lagOf_87 h
  · replace h := h.2 hc2
    refine g_aload_n C rfl dX9_lagOf_14 rfl ?_
    refine fg_X9_22I (k := 0) (x := (f 0 10)) C rfl rfl rfl dX9_lagOf_15 rfl ?_
    exact g_iret C dX9_lagOf_18 h
set_option maxRecDepth 100000 in
theorem ct_X9_lagOf (V_l1 : VC_l1) (V_l2 : VC_l2) (V_m1 : VC_m1) {l : Launch} {E : Ev}   (f : Fn) (a1 : Int32) (hpre : Pre_X9_lagOf f a1) : CT l E layM yX9_lagOf cX9_lagOf 3 (some .int) 1 [.ref (E.2.1 0), .int a1] f (pI (fun r9 f9 => r9 = Val_X9_lagOf f a1 ∧ f9 = f)) := by
  refine CT.of (by decide +kernel) (Nat.le_of_ble_eq_true rfl) (fun Z hl9 hE9 hp9 C => ?_)
  subst hl9
  subst hE9
  exact wk_X9_lagOf V_l1 V_l2 V_m1 C   f a1 (by rw [hp9]; exact V_m1.2.2.2.2.2.2.2.2.2.2.2.2.2.2.2.2.2.2.2.2.2.2.2.2.2.2.2.1  f a1  hpre)
set_option maxHeartbeats 4000000 in
set_option maxRecDepth 100000 in
theorem wk_X9_holdsOf_L79 (V_l1 : VC_l1) (V_l2 : VC_l2) (V_m1 : VC_m1) {Z : Zt}  (C : CX Z layM RX9 cX9_holdsOf 4 (some .int) 1)     (f : Fn) (x3 : Int32) (h : wp_X9_holdsOf_L79   f x3 (zp Z)) : GG Z f [(3, .int x3)] 79 [] := by
  refine g_iload_n C rfl dX9_holdsOf_79 rfl ?_
  refine g_if_ge (tgt := 87) C dX9_holdsOf_80 (by decide) rfl (fun hc4 => ?_) (fun hc4 => ?_)
  · replace h := h.1 hc4
    refine g_iload_n C rfl dX9_holdsOf_87 rfl ?_
    exact g_iret C dX9_holdsOf_88 h
  · replace h := h.2 hc4
    refine g_iconst C ki_0 dX9_holdsOf_83 rfl ?_
    refine g_goto (q := 88) C dX9_holdsOf_84 (by decide) ?_
    exact g_iret C dX9_holdsOf_88 h
set_option maxHeartbeats 4000000 in
set_option maxRecDepth 100000 in
theorem wk_X9_holdsOf (V_l1 : VC_l1) (V_l2 : VC_l2) (V_m1 : VC_m1) {Z : Zt}  (C : CX Z layM RX9 cX9_holdsOf 4 (some .int) 1)     (f : Fn) (a1 : Int32) (h : wp_X9_holdsOf  f a1 (zp Z)) : GG Z f [(0, .ref (zad Z 0)), (1, .int a1)] 0 [] := by
  refine g_aload_n C rfl dX9_holdsOf_0 rfl ?_
  refine fg_X9_7R (k := 0) (p := 1) C rfl rfl dX9_holdsOf_1 rfl ?_
  refine g_bipush C kb_6 dX9_holdsOf_4 rfl ?_
  refine g_ialdx (k := 1) (j := 6) (x := (f 1 6)) C rfl vi_6_264 kc_6 rfl dX9_holdsOf_6 rfl ?_
  refine g_istore_n (lv' := [(2, .int (f 1 6)), (0, .ref (zad Z 0)), (1, .int a1)]) C dX9_holdsOf_7 (by decide) rfl rfl ?_
  refine g_iload_n C rfl dX9_holdsOf_8 rfl ?_
  refine g_aload_n C rfl dX9_holdsOf_9 rfl ?_
  refine g_iload_n C rfl dX9_holdsOf_10 rfl ?_
  refine g_iconst C ki_3 dX9_holdsOf_11 rfl ?_
  have hs1 := h.1
  replace h := h.2
  refine g_callVD C tw_997 tw_999 tp_31 tw_10 tw_1000 hy_X9_of (by decide) (by decide) rfl (Nat.le_of_ble_eq_true rfl) rfl rfl (ct_X9_of V_l1 V_l2 V_m1   f a1 (3 : Int32) hs1) dX9_holdsOf_12 rfl rfl ?_
  refine g_iconst C ki_3 dX9_holdsOf_15 rfl ?_
  refine g_idiv C (by decide) dX9_holdsOf_16 rfl ?_
  refine g_isub C dX9_holdsOf_17 rfl ?_
  refine g_istore_n (lv' := [(3, .int ((f 1 6) - ((Val_X9_of f a1 (3 : Int32)) / (3 : Int32)))), (2, .int (f 1 6)), (0, .ref (zad Z 0)), (1, .int a1)]) C dX9_holdsOf_18 (by decide) rfl rfl ?_
  refine g_aload_n C rfl dX9_holdsOf_19 rfl ?_
  refine g_iload_n C rfl dX9_holdsOf_20 rfl ?_
  refine g_iconst C ki_0 dX9_holdsOf_21 rfl ?_
  have hs2 := h.1
  replace h := h.2
  refine g_callVD C tw_997 tw_999 tp_31 tw_10 tw_1000 hy_X9_of (by decide) (by decide) rfl (Nat.le_of_ble_eq_true rfl) rfl rfl (ct_X9_of V_l1 V_l2 V_m1   f a1 (0 : Int32) hs2) dX9_holdsOf_22 rfl rfl ?_
  by_cases hk3_0 : (Val_X9_of f a1 (0 : Int32)) = (1 : Int32)
  · replace h := h.1 hk3_0
    refine g_tableIn (q := 64) (off := (39)) C dX9_holdsOf_25 (sw_in1 hk3_0 (by decide +kernel)) (sw_in2 hk3_0 (by decide +kernel)) (sw_ho hk3_0 (by decide +kernel)) (by decide) ?_
    refine g_iload_n C rfl dX9_holdsOf_64 rfl ?_
    refine g_iconst C ki_1 dX9_holdsOf_65 rfl ?_
    refine g_iadd C dX9_holdsOf_66 rfl ?_
    exact g_iret C dX9_holdsOf_67 h
  by_cases hk3_1 : (Val_X9_of f a1 (0 : Int32)) = (2 : Int32)
  · replace h := h.2.1 hk3_1
    refine g_tableIn (q := 89) (off := (64)) C dX9_holdsOf_25 (sw_in1 hk3_1 (by decide +kernel)) (sw_in2 hk3_1 (by decide +kernel)) (sw_ho hk3_1 (by decide +kernel)) (by decide) ?_
    refine g_iload_n C rfl dX9_holdsOf_89 rfl ?_
    exact g_iret C dX9_holdsOf_90 h
  by_cases hk3_2 : (Val_X9_of f a1 (0 : Int32)) = (3 : Int32)
  · replace h := h.2.2.1 hk3_2
    refine g_tableIn (q := 79) (off := (54)) C dX9_holdsOf_25 (sw_in1 hk3_2 (by decide +kernel)) (sw_in2 hk3_2 (by decide +kernel)) (sw_ho hk3_2 (by decide +kernel)) (by decide) ?_
    refine g_lps [3] rfl ?_
    exact wk_X9_holdsOf_L79 V_l1 V_l2 V_m1  C    _ _ h
  by_cases hk3_3 : (Val_X9_of f a1 (0 : Int32)) = (4 : Int32)
  · replace h := h.2.2.2.1 hk3_3
    refine g_tableIn (q := 68) (off := (43)) C dX9_holdsOf_25 (sw_in1 hk3_3 (by decide +kernel)) (sw_in2 hk3_3 (by decide +kernel)) (sw_ho hk3_3 (by decide +kernel)) (by decide) ?_
    refine g_iload_n C rfl dX9_holdsOf_68 rfl ?_
    refine g_iconst C ki_1 dX9_holdsOf_69 rfl ?_
    refine g_iadd C dX9_holdsOf_70 rfl ?_
    refine g_aload_n C rfl dX9_holdsOf_71 rfl ?_
    refine g_iload_n C rfl dX9_holdsOf_72 rfl ?_
    refine g_iconst C ki_1 dX9_holdsOf_73 rfl ?_
    have hs5 := h.1
    replace h := h.2
    refine g_callVD C tw_997 tw_999 tp_31 tw_10 tw_1000 hy_X9_of (by decide) (by decide) rfl (Nat.le_of_ble_eq_true rfl) rfl rfl (ct_X9_of V_l1 V_l2 V_m1   f a1 (1 : Int32) hs5) dX9_holdsOf_74 rfl rfl ?_
    refine g_iadd C dX9_holdsOf_77 rfl ?_
    exact g_iret C dX9_holdsOf_78 h
  by_cases hk3_4 : (Val_X9_of f a1 (0 : Int32)) = (5 : Int32)
  · replace h := h.2.2.2.2.1 hk3_4
    refine g_tableIn (q := 89) (off := (64)) C dX9_holdsOf_25 (sw_in1 hk3_4 (by decide +kernel)) (sw_in2 hk3_4 (by decide +kernel)) (sw_ho hk3_4 (by decide +kernel)) (by decide) ?_
    refine g_iload_n C rfl dX9_holdsOf_89 rfl ?_
    exact g_iret C dX9_holdsOf_90 h
  by_cases hk3_5 : (Val_X9_of f a1 (0 : Int32)) = (6 : Int32)
  · replace h := h.2.2.2.2.2.1 hk3_5
    refine g_tableIn (q := 79) (off := (54)) C dX9_holdsOf_25 (sw_in1 hk3_5 (by decide +kernel)) (sw_in2 hk3_5 (by decide +kernel)) (sw_ho hk3_5 (by decide +kernel)) (by decide) ?_
    refine g_lps [3] rfl ?_
    exact wk_X9_holdsOf_L79 V_l1 V_l2 V_m1  C    _ _ h
  replace h := h.2.2.2.2.2.2 ⟨hk3_0, hk3_1, hk3_2, hk3_3, hk3_4, hk3_5⟩
  refine g_tableOut (q := 89) C dX9_holdsOf_25 (sw_out [(1 : Int32), (2 : Int32), (3 : Int32), (4 : Int32), (5 : Int32), (6 : Int32)] 6 (fun k9 hk9 => by simp only [List.mem_cons, List.not_mem_nil, or_false] at hk9; rcases hk9 with rfl | rfl | rfl | rfl | rfl | rfl <;> assumption) (by decide +kernel) (by decide +kernel)) (by decide) ?_
  refine g_iload_n C rfl dX9_holdsOf_89 rfl ?_
  exact g_iret C dX9_holdsOf_90 h
set_option maxRecDepth 100000 in
theorem ct_X9_holdsOf (V_l1 : VC_l1) (V_l2 : VC_l2) (V_m1 : VC_m1) {l : Launch} {E : Ev}   (f : Fn) (a1 : Int32) (hpre : Pre_X9_holdsOf f a1) : CT l E layM yX9_holdsOf cX9_holdsOf 4 (some .int) 1 [.ref (E.2.1 0), .int a1] f (pI (fun r9 f9 => r9 = Val_X9_holdsOf f a1 ∧ f9 = f)) := by
  refine CT.of (by decide +kernel) (Nat.le_of_ble_eq_true rfl) (fun Z hl9 hE9 hp9 C => ?_)
  subst hl9
  subst hE9
  exact wk_X9_holdsOf V_l1 V_l2 V_m1 C   f a1 (by rw [hp9]; exact V_m1.2.2.2.2.2.2.2.2.2.2.2.2.2.2.2.2.2.2.2.2.2.2.2.2.2.2.2.2.1  f a1  hpre)
set_option maxHeartbeats 4000000 in
set_option maxRecDepth 100000 in
theorem wk_X9_harmOf (V_l1 : VC_l1) (V_l2 : VC_l2) (V_m1 : VC_m1) {Z : Zt}  (C : CX Z layM RX9 cX9_harmOf 4 (some .int) 1)     (f : Fn) (a1 : Int32) (a2 : Int32) (h : wp_X9_harmOf  f a1 a2 (zp Z)) : GG Z f [(0, .ref (zad Z 0)), (1, .int a1), (2, .int a2)] 0 [] := by
  refine g_aload_n C rfl dX9_harmOf_0 rfl ?_
  refine g_iload_n C rfl dX9_harmOf_1 rfl ?_
  refine g_iconst C ki_0 dX9_harmOf_2 rfl ?_
  have hs1 := h.1
  replace h := h.2
  refine g_callVD C tw_997 tw_999 tp_31 tw_10 tw_1000 hy_X9_of (by decide) (by decide) rfl (Nat.le_of_ble_eq_true rfl) rfl rfl (ct_X9_of V_l1 V_l2 V_m1   f a1 (0 : Int32) hs1) dX9_harmOf_3 rfl rfl ?_
  refine g_istore_n (lv' := [(3, .int (Val_X9_of f a1 (0 : Int32))), (0, .ref (zad Z 0)), (1, .int a1), (2, .int a2)]) C dX9_harmOf_6 (by decide) rfl rfl ?_
  refine g_iload_n C rfl dX9_harmOf_7 rfl ?_
  refine g_iconst C ki_3 dX9_harmOf_8 rfl ?_
  refine g_icmp_ne (tgt := 23) C dX9_harmOf_9 (by decide) rfl (fun hc2 => ?_) (fun hc2 => ?_)
  · replace h := h.1 hc2
    refine g_iload_n C rfl dX9_harmOf_23 rfl ?_
    refine g_bipush C kb_6 dX9_harmOf_24 rfl ?_
    refine g_icmp_ne (tgt := 42) C dX9_harmOf_26 (by decide) rfl (fun hc3 => ?_) (fun hc3 => ?_)
    · replace h := h.1 hc3
      refine g_iload_n C rfl dX9_harmOf_42 rfl ?_
      exact g_iret C dX9_harmOf_43 h
    · replace h := h.2 hc3
      refine g_iload_n C rfl dX9_harmOf_29 rfl ?_
      refine g_aload_n C rfl dX9_harmOf_30 rfl ?_
      refine g_iload_n C rfl dX9_harmOf_31 rfl ?_
      refine g_iconst C ki_3 dX9_harmOf_32 rfl ?_
      have hs4 := h.1
      replace h := h.2
      refine g_callVD C tw_997 tw_999 tp_31 tw_10 tw_1000 hy_X9_of (by decide) (by decide) rfl (Nat.le_of_ble_eq_true rfl) rfl rfl (ct_X9_of V_l1 V_l2 V_m1   f a1 (3 : Int32) hs4) dX9_harmOf_33 rfl rfl ?_
      refine g_iadd C dX9_harmOf_36 rfl ?_
      refine g_iconst C ki_2 dX9_harmOf_37 rfl ?_
      refine g_idiv C (by decide) dX9_harmOf_38 rfl ?_
      refine g_goto (q := 43) C dX9_harmOf_39 (by decide) ?_
      exact g_iret C dX9_harmOf_43 h
  · replace h := h.2 hc2
    refine g_iload_n C rfl dX9_harmOf_12 rfl ?_
    refine g_aload_n C rfl dX9_harmOf_13 rfl ?_
    refine g_iload_n C rfl dX9_harmOf_14 rfl ?_
    refine g_iconst C ki_3 dX9_harmOf_15 rfl ?_
    have hs5 := h.1
    replace h := h.2
    refine g_callVD C tw_997 tw_999 tp_31 tw_10 tw_1000 hy_X9_of (by decide) (by decide) rfl (Nat.le_of_ble_eq_true rfl) rfl rfl (ct_X9_of V_l1 V_l2 V_m1   f a1 (3 : Int32) hs5) dX9_harmOf_16 rfl rfl ?_
    refine g_iadd C dX9_harmOf_19 rfl ?_
    refine g_goto (q := 43) C dX9_harmOf_20 (by decide) ?_
    exact g_iret C dX9_harmOf_43 h
set_option maxRecDepth 100000 in
theorem ct_X9_harmOf (V_l1 : VC_l1) (V_l2 : VC_l2) (V_m1 : VC_m1) {l : Launch} {E : Ev}   (f : Fn) (a1 : Int32) (a2 : Int32) (hpre : Pre_X9_harmOf f a1 a2) : CT l E layM yX9_harmOf cX9_harmOf 4 (some .int) 1 [.ref (E.2.1 0), .int a1, .int a2] f (pI (fun r9 f9 => r9 = Val_X9_harmOf f a1 a2 ∧ f9 = f)) := by
  refine CT.of (by decide +kernel) (Nat.le_of_ble_eq_true rfl) (fun Z hl9 hE9 hp9 C => ?_)
  subst hl9
  subst hE9
  exact wk_X9_harmOf V_l1 V_l2 V_m1 C   f a1 a2 (by rw [hp9]; exact V_m1.2.2.2.2.2.2.2.2.2.2.2.2.2.2.2.2.2.2.2.2.2.2.2.2.2.2.2.2.2.1  f a1 a2  hpre)
set_option maxHeartbeats 4000000 in
set_option maxRecDepth 100000 in
theorem wk_X9_flyer (V_l1 : VC_l1) (V_l2 : VC_l2) (V_m1 : VC_m1) {Z : Zt}  (C : CX Z layM RX9 cX9_flyer 3 (some .int) 1)     (f : Fn) (a1 : Int32) (h : wp_X9_flyer  f a1 (zp Z)) : GG Z f [(0, .ref (zad Z 0)), (1, .int a1)] 0 [] := by
  refine g_iload_n C rfl dX9_flyer_0 rfl ?_
  refine g_i2l C dX9_flyer_1 rfl ?_
  refine g_lconst C kl_0 dX9_flyer_2 rfl ?_
  refine g_ldc2 C tw_979 dX9_flyer_3 rfl ?_
  refine g_callSD C tw_878 tw_879 tw_10 tw_880 hy_X9_in (by decide) (by decide) rfl (Nat.le_of_ble_eq_true rfl) (ct_X9_in V_l1 V_l2 V_m1   f a1.toInt64 (0 : Int64) (69 : Int64) ) dX9_flyer_6 rfl rfl ?_
  refine g_if_ne (tgt := 18) C dX9_flyer_9 (by decide) rfl (fun hc1 => ?_) (fun hc1 => ?_)
  · replace h := h.1 hc1
    refine g_aload_n C rfl dX9_flyer_18 rfl ?_
    refine fg_X9_7R (k := 0) (p := 1) C rfl rfl dX9_flyer_19 rfl ?_
    refine g_iconst C ki_0 dX9_flyer_22 rfl ?_
    refine g_ialdx (k := 1) (j := 0) (x := (f 1 0)) C rfl vi_0_264 kc_0 rfl dX9_flyer_23 rfl ?_
    refine g_bipush C kb_6 dX9_flyer_24 rfl ?_
    refine g_icmp_ne (tgt := 35) C dX9_flyer_26 (by decide) rfl (fun hc2 => ?_) (fun hc2 => ?_)
    · replace h := h.1 hc2
      refine g_aload_n C rfl dX9_flyer_35 rfl ?_
      refine fg_X9_7R (k := 0) (p := 1) C rfl rfl dX9_flyer_36 rfl ?_
      refine g_iconst C ki_0 dX9_flyer_39 rfl ?_
      refine g_ialdx (k := 1) (j := 0) (x := (f 1 0)) C rfl vi_0_264 kc_0 rfl dX9_flyer_40 rfl ?_
      refine g_istore_n (lv' := [(2, .int (f 1 0)), (0, .ref (zad Z 0)), (1, .int a1)]) C dX9_flyer_41 (by decide) rfl rfl ?_
      refine g_aload_n C rfl dX9_flyer_42 rfl ?_
      refine fg_X9_7R (k := 0) (p := 1) C rfl rfl dX9_flyer_43 rfl ?_
      refine g_iconst C ki_0 dX9_flyer_46 rfl ?_
      refine g_dup2 C rfl rfl dX9_flyer_47 rfl ?_
      refine g_ialdx (k := 1) (j := 0) (x := (f 1 0)) C rfl vi_0_264 kc_0 rfl dX9_flyer_48 rfl ?_
      refine g_iconst C ki_1 dX9_flyer_49 rfl ?_
      refine g_iadd C dX9_flyer_50 rfl ?_
      refine g_iastx (k := 1) (j := 0) C rfl vi_0_264 kc_0 dX9_flyer_51 rfl ?_
      refine g_aload_n C rfl dX9_flyer_52 rfl ?_
      refine g_iload_n C rfl dX9_flyer_53 rfl ?_
      refine g_iconst C ki_0 dX9_flyer_54 rfl ?_
      refine g_iload_n C rfl dX9_flyer_55 rfl ?_
      refine g_bipush C kb_10 dX9_flyer_56 rfl ?_
      refine g_idiv C (by decide) dX9_flyer_58 rfl ?_
      have hs3 := h.1
      replace h := h.2
      refine g_callVV C tw_980 tw_982 tp_28 tw_10 tw_983 hy_X9_sets (by decide) (by decide) rfl (Nat.le_of_ble_eq_true rfl) rfl rfl (ct_X9_sets V_l1 V_l2 V_m1   (up2 f 1 0 ((f 1 0) + (1 : Int32))) (f 1 0) (0 : Int32) (a1 / (10 : Int32)) hs3) dX9_flyer_59 rfl rfl (fun f4 hp5 => ?_)
      replace h := h f4 hp5
      refine g_aload_n C rfl dX9_flyer_62 rfl ?_
      refine g_iload_n C rfl dX9_flyer_63 rfl ?_
      refine g_iconst C ki_1 dX9_flyer_64 rfl ?_
      refine g_iload_n C rfl dX9_flyer_65 rfl ?_
      refine g_bipush C kb_10 dX9_flyer_66 rfl ?_
      refine g_irem C (by decide) dX9_flyer_68 rfl ?_
      have hs6 := h.1
      replace h := h.2
      refine g_callVV C tw_980 tw_982 tp_28 tw_10 tw_983 hy_X9_sets (by decide) (by decide) rfl (Nat.le_of_ble_eq_true rfl) rfl rfl (ct_X9_sets V_l1 V_l2 V_m1   f4 (f 1 0) (1 : Int32) (a1 - (a1 / (10 : Int32)) * (10 : Int32)) hs6) dX9_flyer_69 rfl rfl (fun f7 hp8 => ?_)
      replace h := h f7 hp8
      refine g_aload_n C rfl dX9_flyer_72 rfl ?_
      refine g_iload_n C rfl dX9_flyer_73 rfl ?_
      refine g_iconst C ki_2 dX9_flyer_74 rfl ?_
      refine g_iconst C ki_1 dX9_flyer_75 rfl ?_
      have hs9 := h.1
      replace h := h.2
      refine g_callVV C tw_980 tw_982 tp_28 tw_10 tw_983 hy_X9_sets (by decide) (by decide) rfl (Nat.le_of_ble_eq_true rfl) rfl rfl (ct_X9_sets V_l1 V_l2 V_m1   f7 (f 1 0) (2 : Int32) (1 : Int32) hs9) dX9_flyer_76 rfl rfl (fun f10 hp11 => ?_)
      replace h := h f10 hp11
      refine g_aload_n C rfl dX9_flyer_79 rfl ?_
      refine g_iload_n C rfl dX9_flyer_80 rfl ?_
      refine g_iconst C ki_3 dX9_flyer_81 rfl ?_
      refine g_iconst C ki_0 dX9_flyer_82 rfl ?_
      have hs12 := h.1
      replace h := h.2
      refine g_callVV C tw_980 tw_982 tp_28 tw_10 tw_983 hy_X9_sets (by decide) (by decide) rfl (Nat.le_of_ble_eq_true rfl) rfl rfl (ct_X9_sets V_l1 V_l2 V_m1   f10 (f 1 0) (3 : Int32) (0 : Int32) hs12) dX9_flyer_83 rfl rfl (fun f13 hp14 => ?_)
      replace h := h f13 hp14
      refine g_iload_n C rfl dX9_flyer_86 rfl ?_
      exact g_iret C dX9_flyer_87 h
    · replace h := h.2 hc2
      refine g_aload_n C rfl dX9_flyer_29 rfl ?_
      refine g_iconst C ki_4 dX9_flyer_30 rfl ?_
      have hs15 := h.1
      replace h := h.2
      refine g_callVI C tw_881 tw_883 tp_15 tw_10 tw_884 hy_X9_finds (by decide) (by decide) rfl (Nat.le_of_ble_eq_true rfl) rfl rfl (ct_X9_finds V_l1 V_l2 V_m1   f (4 : Int32) hs15) dX9_flyer_31 rfl rfl (fun r16 f17 hp18 => ?_)
      replace h := h r16 f17 hp18
      exact g_iret C dX9_flyer_34 h
  · replace h := h.2 hc1
    refine g_aload_n C rfl dX9_flyer_12 rfl ?_
    refine g_iconst C ki_1 dX9_flyer_13 rfl ?_
    have hs19 := h.1
    replace h := h.2
    refine g_callVI C tw_881 tw_883 tp_15 tw_10 tw_884 hy_X9_finds (by decide) (by decide) rfl (Nat.le_of_ble_eq_true rfl) rfl rfl (ct_X9_finds V_l1 V_l2 V_m1   f (1 : Int32) hs19) dX9_flyer_14 rfl rfl (fun r20 f21 hp22 => ?_)
    replace h := h r20 f21 hp22
    exact g_iret C dX9_flyer_17 h
set_option maxRecDepth 100000 in
theorem ct_X9_flyer (V_l1 : VC_l1) (V_l2 : VC_l2) (V_m1 : VC_m1) {l : Launch} {E : Ev}   (f : Fn) (a1 : Int32) (hpre : Pre_X9_flyer f a1) : CT l E layM yX9_flyer cX9_flyer 3 (some .int) 1 [.ref (E.2.1 0), .int a1] f (pI (Post_X9_flyer f a1)) := by
  refine CT.of (by decide +kernel) (Nat.le_of_ble_eq_true rfl) (fun Z hl9 hE9 hp9 C => ?_)
  subst hl9
  subst hE9
  exact wk_X9_flyer V_l1 V_l2 V_m1 C   f a1 (by rw [hp9]; exact V_m1.2.2.2.2.2.2.2.2.2.2.2.2.2.2.2.2.2.2.2.2.2.2.2.2.2.2.2.2.2.2.1  f a1  hpre)
set_option maxHeartbeats 4000000 in
set_option maxRecDepth 100000 in
theorem wk_X9_ofFlyer_L20 (V_l1 : VC_l1) (V_l2 : VC_l2) (V_m1 : VC_m1) {Z : Zt}  (C : CX Z layM RX9 cX9_ofFlyer 3 (some .int) 2)     (f : Fn)  (h : wp_X9_ofFlyer_L20   f  (zp Z)) : GG Z f [(0, .ref (zad Z 0))] 20 [] := by
  refine g_aload_n C rfl dX9_ofFlyer_20 rfl ?_
  refine g_iconst C ki_1 dX9_ofFlyer_21 rfl ?_
  have hs2 := h.1
  replace h := h.2
  refine g_callVI C tw_881 tw_883 tp_15 tw_10 tw_884 hy_X9_finds (by decide) (by decide) rfl (Nat.le_of_ble_eq_true rfl) rfl rfl (ct_X9_finds V_l1 V_l2 V_m1   f (1 : Int32) hs2) dX9_ofFlyer_22 rfl rfl (fun r3 f4 hp5 => ?_)
  replace h := h r3 f4 hp5
  exact g_iret C dX9_ofFlyer_25 h
set_option maxHeartbeats 4000000 in
set_option maxRecDepth 100000 in
theorem wk_X9_ofFlyer (V_l1 : VC_l1) (V_l2 : VC_l2) (V_m1 : VC_m1) {Z : Zt}  (C : CX Z layM RX9 cX9_ofFlyer 3 (some .int) 2)     (f : Fn) (a1 : Int32) (a2 : Int32) (h : wp_X9_ofFlyer  f a1 a2 (zp Z)) : GG Z f [(0, .ref (zad Z 0)), (1, .int a1), (2, .int a2)] 0 [] := by
  refine g_aload_n C rfl dX9_ofFlyer_0 rfl ?_
  refine g_iload_n C rfl dX9_ofFlyer_1 rfl ?_
  refine g_callVD C tw_988 tw_990 tp_29 tw_10 tw_991 hy_X9_isFlyer (by decide) (by decide) rfl (Nat.le_of_ble_eq_true rfl) rfl rfl (ct_X9_isFlyer V_l1 V_l2 V_m1   f a1 ) dX9_ofFlyer_2 rfl rfl ?_
  refine g_if_eq (tgt := 20) C dX9_ofFlyer_5 (by decide) rfl (fun hc1 => ?_) (fun hc1 => ?_)
  · replace h := h.1 hc1
    refine g_lps [0] rfl ?_
    exact wk_X9_ofFlyer_L20 V_l1 V_l2 V_m1  C    _  h
  · replace h := h.2 hc1
    refine g_iload_n C rfl dX9_ofFlyer_8 rfl ?_
    refine g_i2l C dX9_ofFlyer_9 rfl ?_
    refine g_lconst C kl_0 dX9_ofFlyer_10 rfl ?_
    refine g_ldc2 C tw_992 dX9_ofFlyer_11 rfl ?_
    refine g_callSD C tw_878 tw_879 tw_10 tw_880 hy_X9_in (by decide) (by decide) rfl (Nat.le_of_ble_eq_true rfl) (ct_X9_in V_l1 V_l2 V_m1   f a2.toInt64 (0 : Int64) (6 : Int64) ) dX9_ofFlyer_14 rfl rfl ?_
    refine g_if_ne (tgt := 26) C dX9_ofFlyer_17 (by decide) rfl (fun hc6 => ?_) (fun hc6 => ?_)
    · replace h := h.1 hc6
      refine g_iload_n C rfl dX9_ofFlyer_26 rfl ?_
      by_cases hk7_0 : a2 = (4 : Int32)
      · replace h := h.1 hk7_0
        refine g_tableIn (q := 52) (off := (25)) C dX9_ofFlyer_27 (sw_in1 hk7_0 (by decide +kernel)) (sw_in2 hk7_0 (by decide +kernel)) (sw_ho hk7_0 (by decide +kernel)) (by decide) ?_
        refine g_aload_n C rfl dX9_ofFlyer_52 rfl ?_
        refine g_iload_n C rfl dX9_ofFlyer_53 rfl ?_
        have hs8 := h.1
        replace h := h.2
        refine g_callVD C tw_993 tw_995 tp_30 tw_10 tw_996 hy_X9_lagOf (by decide) (by decide) rfl (Nat.le_of_ble_eq_true rfl) rfl rfl (ct_X9_lagOf V_l1 V_l2 V_m1   f a1 hs8) dX9_ofFlyer_54 rfl rfl ?_
        exact g_iret C dX9_ofFlyer_57 h
      by_cases hk7_1 : a2 = (5 : Int32)
      · replace h := h.2.1 hk7_1
        refine g_tableIn (q := 58) (off := (31)) C dX9_ofFlyer_27 (sw_in1 hk7_1 (by decide +kernel)) (sw_in2 hk7_1 (by decide +kernel)) (sw_ho hk7_1 (by decide +kernel)) (by decide) ?_
        refine g_aload_n C rfl dX9_ofFlyer_58 rfl ?_
        refine g_iload_n C rfl dX9_ofFlyer_59 rfl ?_
        have hs9 := h.1
        replace h := h.2
        refine g_callVD C tw_1001 tw_1003 tp_32 tw_10 tw_1004 hy_X9_holdsOf (by decide) (by decide) rfl (Nat.le_of_ble_eq_true rfl) rfl rfl (ct_X9_holdsOf V_l1 V_l2 V_m1   f a1 hs9) dX9_ofFlyer_60 rfl rfl ?_
        exact g_iret C dX9_ofFlyer_63 h
      by_cases hk7_2 : a2 = (6 : Int32)
      · replace h := h.2.2.1 hk7_2
        refine g_tableIn (q := 64) (off := (37)) C dX9_ofFlyer_27 (sw_in1 hk7_2 (by decide +kernel)) (sw_in2 hk7_2 (by decide +kernel)) (sw_ho hk7_2 (by decide +kernel)) (by decide) ?_
        refine g_aload_n C rfl dX9_ofFlyer_64 rfl ?_
        refine g_iload_n C rfl dX9_ofFlyer_65 rfl ?_
        refine g_bipush C kb_10 dX9_ofFlyer_66 rfl ?_
        have hs10 := h.1
        replace h := h.2
        refine g_callVD C tw_1005 tw_1007 tp_33 tw_10 tw_1008 hy_X9_harmOf (by decide) (by decide) rfl (Nat.le_of_ble_eq_true rfl) rfl rfl (ct_X9_harmOf V_l1 V_l2 V_m1   f a1 (10 : Int32) hs10) dX9_ofFlyer_68 rfl rfl ?_
        exact g_iret C dX9_ofFlyer_71 h
      replace h := h.2.2.2 ⟨hk7_0, hk7_1, hk7_2⟩
      refine g_tableOut (q := 72) C dX9_ofFlyer_27 (sw_out [(4 : Int32), (5 : Int32), (6 : Int32)] 3 (fun k9 hk9 => by simp only [List.mem_cons, List.not_mem_nil, or_false] at hk9; rcases hk9 with rfl | rfl | rfl <;> assumption) (by decide +kernel) (by decide +kernel)) (by decide) ?_
      refine g_aload_n C rfl dX9_ofFlyer_72 rfl ?_
      refine g_iload_n C rfl dX9_ofFlyer_73 rfl ?_
      refine g_iload_n C rfl dX9_ofFlyer_74 rfl ?_
      have hs11 := h.1
      replace h := h.2
      refine g_callVD C tw_997 tw_999 tp_31 tw_10 tw_1000 hy_X9_of (by decide) (by decide) rfl (Nat.le_of_ble_eq_true rfl) rfl rfl (ct_X9_of V_l1 V_l2 V_m1   f a1 a2 hs11) dX9_ofFlyer_75 rfl rfl ?_
      exact g_iret C dX9_ofFlyer_78 h
    · replace h := h.2 hc6
      refine g_lps [0] rfl ?_
      exact wk_X9_ofFlyer_L20 V_l1 V_l2 V_m1  C    _  h
set_option maxRecDepth 100000 in
theorem ct_X9_ofFlyer (V_l1 : VC_l1) (V_l2 : VC_l2) (V_m1 : VC_m1) {l : Launch} {E : Ev}   (f : Fn) (a1 : Int32) (a2 : Int32) (hpre : Pre_X9_ofFlyer f a1 a2) : CT l E layM yX9_ofFlyer cX9_ofFlyer 3 (some .int) 2 [.ref (E.2.1 0), .int a1, .int a2] f (pI (Post_X9_ofFlyer f a1 a2)) := by
  refine CT.of (by decide +kernel) (Nat.le_of_ble_eq_true rfl) (fun Z hl9 hE9 hp9 C => ?_)
  subst hl9
  subst hE9
  exact wk_X9_ofFlyer V_l1 V_l2 V_m1 C   f a1 a2 (by rw [hp9]; exact V_m1.2.2.2.2.2.2.2.2.2.2.2.2.2.2.2.2.2.2.2.2.2.2.2.2.2.2.2.2.2.2.2.1  f a1 a2  hpre)
set_option maxHeartbeats 4000000 in
set_option maxRecDepth 100000 in
theorem wk_X9_become_L20 (V_l1 : VC_l1) (V_l2 : VC_l2) (V_m1 : VC_m1) {Z : Zt}  (C : CX Z layM RX9 cX9_become 4 (some .int) 2)     (f : Fn)  (h : wp_X9_become_L20   f  (zp Z)) : GG Z f [(0, .ref (zad Z 0))] 20 [] := by
  refine g_aload_n C rfl dX9_become_20 rfl ?_
  refine g_iconst C ki_1 dX9_become_21 rfl ?_
  have hs2 := h.1
  replace h := h.2
  refine g_callVI C tw_881 tw_883 tp_15 tw_10 tw_884 hy_X9_finds (by decide) (by decide) rfl (Nat.le_of_ble_eq_true rfl) rfl rfl (ct_X9_finds V_l1 V_l2 V_m1   f (1 : Int32) hs2) dX9_become_22 rfl rfl (fun r3 f4 hp5 => ?_)
  replace h := h r3 f4 hp5
  exact g_iret C dX9_become_25 h
set_option maxHeartbeats 4000000 in
set_option maxRecDepth 100000 in
theorem wk_X9_become (V_l1 : VC_l1) (V_l2 : VC_l2) (V_m1 : VC_m1) {Z : Zt}  (C : CX Z layM RX9 cX9_become 4 (some .int) 2)     (f : Fn) (a1 : Int32) (a2 : Int32) (h : wp_X9_become  f a1 a2 (zp Z)) : GG Z f [(0, .ref (zad Z 0)), (1, .int a1), (2, .int a2)] 0 [] := by
  refine g_aload_n C rfl dX9_become_0 rfl ?_
  refine g_iload_n C rfl dX9_become_1 rfl ?_
  refine g_callVD C tw_988 tw_990 tp_29 tw_10 tw_991 hy_X9_isFlyer (by decide) (by decide) rfl (Nat.le_of_ble_eq_true rfl) rfl rfl (ct_X9_isFlyer V_l1 V_l2 V_m1   f a1 ) dX9_become_2 rfl rfl ?_
  refine g_if_eq (tgt := 20) C dX9_become_5 (by decide) rfl (fun hc1 => ?_) (fun hc1 => ?_)
  · replace h := h.1 hc1
    refine g_lps [0] rfl ?_
    exact wk_X9_become_L20 V_l1 V_l2 V_m1  C    _  h
  · replace h := h.2 hc1
    refine g_iload_n C rfl dX9_become_8 rfl ?_
    refine g_i2l C dX9_become_9 rfl ?_
    refine g_lconst C kl_0 dX9_become_10 rfl ?_
    refine g_ldc2 C tw_979 dX9_become_11 rfl ?_
    refine g_callSD C tw_878 tw_879 tw_10 tw_880 hy_X9_in (by decide) (by decide) rfl (Nat.le_of_ble_eq_true rfl) (ct_X9_in V_l1 V_l2 V_m1   f a2.toInt64 (0 : Int64) (69 : Int64) ) dX9_become_14 rfl rfl ?_
    refine g_if_ne (tgt := 26) C dX9_become_17 (by decide) rfl (fun hc6 => ?_) (fun hc6 => ?_)
    · replace h := h.1 hc6
      refine g_aload_n C rfl dX9_become_26 rfl ?_
      refine g_iload_n C rfl dX9_become_27 rfl ?_
      refine g_iconst C ki_0 dX9_become_28 rfl ?_
      have hs7 := h.1
      replace h := h.2
      refine g_callVD C tw_997 tw_999 tp_31 tw_10 tw_1000 hy_X9_of (by decide) (by decide) rfl (Nat.le_of_ble_eq_true rfl) rfl rfl (ct_X9_of V_l1 V_l2 V_m1   f a1 (0 : Int32) hs7) dX9_become_29 rfl rfl ?_
      refine g_istore_n (lv' := [(3, .int (Val_X9_of f a1 (0 : Int32))), (0, .ref (zad Z 0)), (1, .int a1), (2, .int a2)]) C dX9_become_32 (by decide) rfl rfl ?_
      refine g_aload_n C rfl dX9_become_33 rfl ?_
      refine g_iload_n C rfl dX9_become_34 rfl ?_
      refine g_iconst C ki_0 dX9_become_35 rfl ?_
      refine g_iload_n C rfl dX9_become_36 rfl ?_
      refine g_bipush C kb_10 dX9_become_37 rfl ?_
      refine g_idiv C (by decide) dX9_become_39 rfl ?_
      have hs8 := h.1
      replace h := h.2
      refine g_callVV C tw_980 tw_982 tp_28 tw_10 tw_983 hy_X9_sets (by decide) (by decide) rfl (Nat.le_of_ble_eq_true rfl) rfl rfl (ct_X9_sets V_l1 V_l2 V_m1   f a1 (0 : Int32) (a2 / (10 : Int32)) hs8) dX9_become_40 rfl rfl (fun f9 hp10 => ?_)
      replace h := h f9 hp10
      refine g_aload_n C rfl dX9_become_43 rfl ?_
      refine g_iload_n C rfl dX9_become_44 rfl ?_
      refine g_iconst C ki_1 dX9_become_45 rfl ?_
      refine g_iload_n C rfl dX9_become_46 rfl ?_
      refine g_bipush C kb_10 dX9_become_47 rfl ?_
      refine g_irem C (by decide) dX9_become_49 rfl ?_
      have hs11 := h.1
      replace h := h.2
      refine g_callVV C tw_980 tw_982 tp_28 tw_10 tw_983 hy_X9_sets (by decide) (by decide) rfl (Nat.le_of_ble_eq_true rfl) rfl rfl (ct_X9_sets V_l1 V_l2 V_m1   f9 a1 (1 : Int32) (a2 - (a2 / (10 : Int32)) * (10 : Int32)) hs11) dX9_become_50 rfl rfl (fun f12 hp13 => ?_)
      replace h := h f12 hp13
      refine g_iload_n C rfl dX9_become_53 rfl ?_
      exact g_iret C dX9_become_54 h
    · replace h := h.2 hc6
      refine g_lps [0] rfl ?_
      exact wk_X9_become_L20 V_l1 V_l2 V_m1  C    _  h
set_option maxRecDepth 100000 in
theorem ct_X9_become (V_l1 : VC_l1) (V_l2 : VC_l2) (V_m1 : VC_m1) {l : Launch} {E : Ev}   (f : Fn) (a1 : Int32) (a2 : Int32) (hpre : Pre_X9_become f a1 a2) : CT l E layM yX9_become cX9_become 4 (some .int) 2 [.ref (E.2.1 0), .int a1, .int a2] f (pI (Post_X9_become f a1 a2)) := by
  refine CT.of (by decide +kernel) (Nat.le_of_ble_eq_true rfl) (fun Z hl9 hE9 hp9 C => ?_)
  subst hl9
  subst hE9
  exact wk_X9_become V_l1 V_l2 V_m1 C   f a1 a2 (by rw [hp9]; exact V_m1.2.2.2.2.2.2.2.2.2.2.2.2.2.2.2.2.2.2.2.2.2.2.2.2.2.2.2.2.2.2.2.2.1  f a1 a2  hpre)
set_option maxHeartbeats 4000000 in
set_option maxRecDepth 100000 in
theorem wk_X9_above (V_l1 : VC_l1) (V_l2 : VC_l2) (V_m1 : VC_m1) {Z : Zt}  (C : CX Z layM RX9 cX9_above 1 (some .int) 0)     (f : Fn) (a1 : Int32) (h : wp_X9_above  f a1 (zp Z)) : GG Z f [(0, .int a1)] 0 [] := by
  refine g_iload_n C rfl dX9_above_0 rfl ?_
  refine g_iconst C ki_4 dX9_above_1 rfl ?_
  refine g_icmp_ge (tgt := 9) C dX9_above_2 (by decide) rfl (fun hc1 => ?_) (fun hc1 => ?_)
  · replace h := h.1 hc1
    refine g_iload_n C rfl dX9_above_9 rfl ?_
    refine g_iconst C ki_3 dX9_above_10 rfl ?_
    refine g_isub C dX9_above_11 rfl ?_
    exact g_iret C dX9_above_12 h
  · replace h := h.2 hc1
    refine g_iconst C ki_0 dX9_above_5 rfl ?_
    refine g_goto (q := 12) C dX9_above_6 (by decide) ?_
    exact g_iret C dX9_above_12 h
set_option maxRecDepth 100000 in
theorem ct_X9_above (V_l1 : VC_l1) (V_l2 : VC_l2) (V_m1 : VC_m1) {l : Launch} {E : Ev}   (f : Fn) (a1 : Int32)  : CT l E layM yX9_above cX9_above 1 (some .int) 0 [.int a1] f (pI (fun r9 f9 => r9 = Val_X9_above f a1 ∧ f9 = f)) := by
  refine CT.of (by decide +kernel) (Nat.le_of_ble_eq_true rfl) (fun Z hl9 hE9 hp9 C => ?_)
  subst hl9
  subst hE9
  exact wk_X9_above V_l1 V_l2 V_m1 C   f a1 (by rw [hp9]; exact V_m1.2.2.2.2.2.2.2.2.2.2.2.2.2.2.2.2.2.2.2.2.2.2.2.2.2.2.2.2.2.2.2.2.2.1  f a1  )
set_option maxHeartbeats 4000000 in
set_option maxRecDepth 100000 in
theorem wk_X9_as_L20 (V_l1 : VC_l1) (V_l2 : VC_l2) (V_m1 : VC_m1) {Z : Zt}  (C : CX Z layM RX9 cX9_as 4 (some .int) 2)     (f : Fn)  (h : wp_X9_as_L20   f  (zp Z)) : GG Z f [(0, .ref (zad Z 0))] 20 [] := by
  refine g_aload_n C rfl dX9_as_20 rfl ?_
  refine g_iconst C ki_1 dX9_as_21 rfl ?_
  have hs2 := h.1
  replace h := h.2
  refine g_callVI C tw_881 tw_883 tp_15 tw_10 tw_884 hy_X9_finds (by decide) (by decide) rfl (Nat.le_of_ble_eq_true rfl) rfl rfl (ct_X9_finds V_l1 V_l2 V_m1   f (1 : Int32) hs2) dX9_as_22 rfl rfl (fun r3 f4 hp5 => ?_)
  replace h := h r3 f4 hp5
  exact g_iret C dX9_as_25 h
set_option maxHeartbeats 4000000 in
set_option maxRecDepth 100000 in
theorem wk_X9_as_L50 (V_l1 : VC_l1) (V_l2 : VC_l2) (V_m1 : VC_m1) {Z : Zt}  (C : CX Z layM RX9 cX9_as 4 (some .int) 2)     (f : Fn) (x1 : Int32) (h : wp_X9_as_L50   f x1 (zp Z)) : GG Z f [(0, .ref (zad Z 0)), (1, .int x1)] 50 [] := by
  refine g_aload_n C rfl dX9_as_50 rfl ?_
  refine g_iload_n C rfl dX9_as_51 rfl ?_
  refine g_iconst C ki_1 dX9_as_52 rfl ?_
  have hs9 := h.1
  replace h := h.2
  refine g_callVD C tw_997 tw_999 tp_31 tw_10 tw_1000 hy_X9_of (by decide) (by decide) rfl (Nat.le_of_ble_eq_true rfl) rfl rfl (ct_X9_of V_l1 V_l2 V_m1   f x1 (1 : Int32) hs9) dX9_as_53 rfl rfl ?_
  refine g_goto (q := 64) C dX9_as_56 (by decide) ?_
  exact g_iret C dX9_as_64 h
set_option maxHeartbeats 4000000 in
set_option maxRecDepth 100000 in
theorem wk_X9_as (V_l1 : VC_l1) (V_l2 : VC_l2) (V_m1 : VC_m1) {Z : Zt}  (C : CX Z layM RX9 cX9_as 4 (some .int) 2)     (f : Fn) (a1 : Int32) (a2 : Int32) (h : wp_X9_as  f a1 a2 (zp Z)) : GG Z f [(0, .ref (zad Z 0)), (1, .int a1), (2, .int a2)] 0 [] := by
  refine g_aload_n C rfl dX9_as_0 rfl ?_
  refine g_iload_n C rfl dX9_as_1 rfl ?_
  refine g_callVD C tw_988 tw_990 tp_29 tw_10 tw_991 hy_X9_isFlyer (by decide) (by decide) rfl (Nat.le_of_ble_eq_true rfl) rfl rfl (ct_X9_isFlyer V_l1 V_l2 V_m1   f a1 ) dX9_as_2 rfl rfl ?_
  refine g_if_eq (tgt := 20) C dX9_as_5 (by decide) rfl (fun hc1 => ?_) (fun hc1 => ?_)
  · replace h := h.1 hc1
    refine g_lps [0] rfl ?_
    exact wk_X9_as_L20 V_l1 V_l2 V_m1  C    _  h
  · replace h := h.2 hc1
    refine g_iload_n C rfl dX9_as_8 rfl ?_
    refine g_i2l C dX9_as_9 rfl ?_
    refine g_lconst C kl_0 dX9_as_10 rfl ?_
    refine g_ldc2 C tw_992 dX9_as_11 rfl ?_
    refine g_callSD C tw_878 tw_879 tw_10 tw_880 hy_X9_in (by decide) (by decide) rfl (Nat.le_of_ble_eq_true rfl) (ct_X9_in V_l1 V_l2 V_m1   f a2.toInt64 (0 : Int64) (6 : Int64) ) dX9_as_14 rfl rfl ?_
    refine g_if_ne (tgt := 26) C dX9_as_17 (by decide) rfl (fun hc6 => ?_) (fun hc6 => ?_)
    · replace h := h.1 hc6
      refine g_aload_n C rfl dX9_as_26 rfl ?_
      refine g_iload_n C rfl dX9_as_27 rfl ?_
      refine g_iconst C ki_0 dX9_as_28 rfl ?_
      have hs7 := h.1
      replace h := h.2
      refine g_callVD C tw_997 tw_999 tp_31 tw_10 tw_1000 hy_X9_of (by decide) (by decide) rfl (Nat.le_of_ble_eq_true rfl) rfl rfl (ct_X9_of V_l1 V_l2 V_m1   f a1 (0 : Int32) hs7) dX9_as_29 rfl rfl ?_
      refine g_istore_n (lv' := [(3, .int (Val_X9_of f a1 (0 : Int32))), (0, .ref (zad Z 0)), (1, .int a1), (2, .int a2)]) C dX9_as_32 (by decide) rfl rfl ?_
      refine g_iload_n C rfl dX9_as_33 rfl ?_
      refine g_if_eq (tgt := 50) C dX9_as_34 (by decide) rfl (fun hc8 => ?_) (fun hc8 => ?_)
      · replace h := h.1 hc8
        refine g_lps [0, 1] rfl ?_
        exact wk_X9_as_L50 V_l1 V_l2 V_m1  C    _ _ h
      · replace h := h.2 hc8
        refine g_iload_n C rfl dX9_as_37 rfl ?_
        refine g_iload_n C rfl dX9_as_38 rfl ?_
        refine g_icmp_eq (tgt := 50) C dX9_as_39 (by decide) rfl (fun hc10 => ?_) (fun hc10 => ?_)
        · replace h := h.1 hc10
          refine g_lps [0, 1] rfl ?_
          exact wk_X9_as_L50 V_l1 V_l2 V_m1  C    _ _ h
        · replace h := h.2 hc10
          refine g_iload_n C rfl dX9_as_42 rfl ?_
          refine g_iload_n C rfl dX9_as_43 rfl ?_
          refine g_callSD C tw_1017 tw_1018 tw_10 tw_1019 hy_X9_above (by decide) (by decide) rfl (Nat.le_of_ble_eq_true rfl) (ct_X9_above V_l1 V_l2 V_m1   f (Val_X9_of f a1 (0 : Int32)) ) dX9_as_44 rfl rfl ?_
          refine g_icmp_ne (tgt := 59) C dX9_as_47 (by decide) rfl (fun hc11 => ?_) (fun hc11 => ?_)
          · replace h := h.1 hc11
            refine g_aload_n C rfl dX9_as_59 rfl ?_
            refine g_iconst C ki_5 dX9_as_60 rfl ?_
            have hs12 := h.1
            replace h := h.2
            refine g_callVI C tw_881 tw_883 tp_15 tw_10 tw_884 hy_X9_finds (by decide) (by decide) rfl (Nat.le_of_ble_eq_true rfl) rfl rfl (ct_X9_finds V_l1 V_l2 V_m1   f (5 : Int32) hs12) dX9_as_61 rfl rfl (fun r13 f14 hp15 => ?_)
            replace h := h r13 f14 hp15
            exact g_iret C dX9_as_64 h
          · replace h := h.2 hc11
            refine g_lps [0, 1] rfl ?_
            exact wk_X9_as_L50 V_l1 V_l2 V_m1  C    _ _ h
    · replace h := h.2 hc6
      refine g_lps [0] rfl ?_
      exact wk_X9_as_L20 V_l1 V_l2 V_m1  C    _  h
set_option maxRecDepth 100000 in
theorem ct_X9_as (V_l1 : VC_l1) (V_l2 : VC_l2) (V_m1 : VC_m1) {l : Launch} {E : Ev}   (f : Fn) (a1 : Int32) (a2 : Int32) (hpre : Pre_X9_as f a1 a2) : CT l E layM yX9_as cX9_as 4 (some .int) 2 [.ref (E.2.1 0), .int a1, .int a2] f (pI (Post_X9_as f a1 a2)) := by
  refine CT.of (by decide +kernel) (Nat.le_of_ble_eq_true rfl) (fun Z hl9 hE9 hp9 C => ?_)
  subst hl9
  subst hE9
  exact wk_X9_as V_l1 V_l2 V_m1 C   f a1 a2 (by rw [hp9]; exact V_m1.2.2.2.2.2.2.2.2.2.2.2.2.2.2.2.2.2.2.2.2.2.2.2.2.2.2.2.2.2.2.2.2.2.2.1  f a1 a2  hpre)
set_option maxHeartbeats 4000000 in
set_option maxRecDepth 100000 in
theorem wk_X9_turn_L20 (V_l1 : VC_l1) (V_l2 : VC_l2) (V_m1 : VC_m1) {Z : Zt}  (C : CX Z layM RX9 cX9_turn 4 (some .int) 2)     (f : Fn)  (h : wp_X9_turn_L20   f  (zp Z)) : GG Z f [(0, .ref (zad Z 0))] 20 [] := by
  refine g_aload_n C rfl dX9_turn_20 rfl ?_
  refine g_iconst C ki_1 dX9_turn_21 rfl ?_
  have hs2 := h.1
  replace h := h.2
  refine g_callVI C tw_881 tw_883 tp_15 tw_10 tw_884 hy_X9_finds (by decide) (by decide) rfl (Nat.le_of_ble_eq_true rfl) rfl rfl (ct_X9_finds V_l1 V_l2 V_m1   f (1 : Int32) hs2) dX9_turn_22 rfl rfl (fun r3 f4 hp5 => ?_)
  replace h := h r3 f4 hp5
  exact g_iret C dX9_turn_25 h
set_option maxHeartbeats 4000000 in
set_option maxRecDepth 100000 in
theorem wk_X9_turn (V_l1 : VC_l1) (V_l2 : VC_l2) (V_m1 : VC_m1) {Z : Zt}  (C : CX Z layM RX9 cX9_turn 4 (some .int) 2)     (f : Fn) (a1 : Int32) (a2 : Int32) (h : wp_X9_turn  f a1 a2 (zp Z)) : GG Z f [(0, .ref (zad Z 0)), (1, .int a1), (2, .int a2)] 0 [] := by
  refine g_aload_n C rfl dX9_turn_0 rfl ?_
  refine g_iload_n C rfl dX9_turn_1 rfl ?_
  refine g_callVD C tw_988 tw_990 tp_29 tw_10 tw_991 hy_X9_isFlyer (by decide) (by decide) rfl (Nat.le_of_ble_eq_true rfl) rfl rfl (ct_X9_isFlyer V_l1 V_l2 V_m1   f a1 ) dX9_turn_2 rfl rfl ?_
  refine g_if_eq (tgt := 20) C dX9_turn_5 (by decide) rfl (fun hc1 => ?_) (fun hc1 => ?_)
  · replace h := h.1 hc1
    refine g_lps [0] rfl ?_
    exact wk_X9_turn_L20 V_l1 V_l2 V_m1  C    _  h
  · replace h := h.2 hc1
    refine g_iload_n C rfl dX9_turn_8 rfl ?_
    refine g_i2l C dX9_turn_9 rfl ?_
    refine g_lconst C kl_1 dX9_turn_10 rfl ?_
    refine g_ldc2 C tw_1024 dX9_turn_11 rfl ?_
    refine g_callSD C tw_878 tw_879 tw_10 tw_880 hy_X9_in (by decide) (by decide) rfl (Nat.le_of_ble_eq_true rfl) (ct_X9_in V_l1 V_l2 V_m1   f a2.toInt64 (1 : Int64) (3 : Int64) ) dX9_turn_14 rfl rfl ?_
    refine g_if_ne (tgt := 26) C dX9_turn_17 (by decide) rfl (fun hc6 => ?_) (fun hc6 => ?_)
    · replace h := h.1 hc6
      refine g_aload_n C rfl dX9_turn_26 rfl ?_
      refine g_iload_n C rfl dX9_turn_27 rfl ?_
      refine g_iconst C ki_2 dX9_turn_28 rfl ?_
      have hs7 := h.1
      replace h := h.2
      refine g_callVD C tw_997 tw_999 tp_31 tw_10 tw_1000 hy_X9_of (by decide) (by decide) rfl (Nat.le_of_ble_eq_true rfl) rfl rfl (ct_X9_of V_l1 V_l2 V_m1   f a1 (2 : Int32) hs7) dX9_turn_29 rfl rfl ?_
      refine g_istore_n (lv' := [(3, .int (Val_X9_of f a1 (2 : Int32))), (0, .ref (zad Z 0)), (1, .int a1), (2, .int a2)]) C dX9_turn_32 (by decide) rfl rfl ?_
      refine g_aload_n C rfl dX9_turn_33 rfl ?_
      refine g_iload_n C rfl dX9_turn_34 rfl ?_
      refine g_iconst C ki_2 dX9_turn_35 rfl ?_
      refine g_iload_n C rfl dX9_turn_36 rfl ?_
      have hs8 := h.1
      replace h := h.2
      refine g_callVV C tw_980 tw_982 tp_28 tw_10 tw_983 hy_X9_sets (by decide) (by decide) rfl (Nat.le_of_ble_eq_true rfl) rfl rfl (ct_X9_sets V_l1 V_l2 V_m1   f a1 (2 : Int32) a2 hs8) dX9_turn_37 rfl rfl (fun f9 hp10 => ?_)
      replace h := h f9 hp10
      refine g_iload_n C rfl dX9_turn_40 rfl ?_
      exact g_iret C dX9_turn_41 h
    · replace h := h.2 hc6
      refine g_lps [0] rfl ?_
      exact wk_X9_turn_L20 V_l1 V_l2 V_m1  C    _  h
set_option maxRecDepth 100000 in
theorem ct_X9_turn (V_l1 : VC_l1) (V_l2 : VC_l2) (V_m1 : VC_m1) {l : Launch} {E : Ev}   (f : Fn) (a1 : Int32) (a2 : Int32) (hpre : Pre_X9_turn f a1 a2) : CT l E layM yX9_turn cX9_turn 4 (some .int) 2 [.ref (E.2.1 0), .int a1, .int a2] f (pI (Post_X9_turn f a1 a2)) := by
  refine CT.of (by decide +kernel) (Nat.le_of_ble_eq_true rfl) (fun Z hl9 hE9 hp9 C => ?_)
  subst hl9
  subst hE9
  exact wk_X9_turn V_l1 V_l2 V_m1 C   f a1 a2 (by rw [hp9]; exact V_m1.2.2.2.2.2.2.2.2.2.2.2.2.2.2.2.2.2.2.2.2.2.2.2.2.2.2.2.2.2.2.2.2.2.2.2.1  f a1 a2  hpre)
set_option maxHeartbeats 4000000 in
set_option maxRecDepth 100000 in
theorem wk_X9_letsGo (V_l1 : VC_l1) (V_l2 : VC_l2) (V_m1 : VC_m1) {Z : Zt}  (C : CX Z layM RX9 cX9_letsGo 5 none 54)     (f : Fn) (a1 : Int32) (a2 : Int32) (h : wp_X9_letsGo  f a1 a2 (zp Z)) : GG Z f [(0, .ref (zad Z 0)), (1, .int a1), (2, .int a2)] 0 [] := by
  refine g_aload_n C rfl dX9_letsGo_0 rfl ?_
  refine g_iconst C ki_0 dX9_letsGo_1 rfl ?_
  refine g_iload_n C rfl dX9_letsGo_2 rfl ?_
  have hs1 := h.1
  replace h := h.2
  refine g_callVD C tw_963 tw_965 tp_27 tw_10 tw_966 hy_X9_barOf (by decide) (by decide) rfl (Nat.le_of_ble_eq_true rfl) rfl rfl (ct_X9_barOf V_l1 V_l2 V_m1   f (0 : Int32) a2 hs1) dX9_letsGo_3 rfl rfl ?_
  refine g_istore_n (lv' := [(3, .int (Val_X9_barOf f (0 : Int32) a2)), (0, .ref (zad Z 0)), (1, .int a1), (2, .int a2)]) C dX9_letsGo_6 (by decide) rfl rfl ?_
  refine g_iload_n C rfl dX9_letsGo_7 rfl ?_
  refine g_aload_n C rfl dX9_letsGo_8 rfl ?_
  refine g_iconst C ki_0 dX9_letsGo_9 rfl ?_
  refine g_iload_n C rfl dX9_letsGo_10 rfl ?_
  refine g_iconst C ki_1 dX9_letsGo_11 rfl ?_
  refine g_isub C dX9_letsGo_12 rfl ?_
  have hs2 := h.1
  replace h := h.2
  refine g_callVD C tw_963 tw_965 tp_27 tw_10 tw_966 hy_X9_barOf (by decide) (by decide) rfl (Nat.le_of_ble_eq_true rfl) rfl rfl (ct_X9_barOf V_l1 V_l2 V_m1   f (0 : Int32) (a2 - (1 : Int32)) hs2) dX9_letsGo_13 rfl rfl ?_
  refine g_isub C dX9_letsGo_16 rfl ?_
  refine g_istore (lv' := [(4, .int ((Val_X9_barOf f (0 : Int32) a2) - (Val_X9_barOf f (0 : Int32) (a2 - (1 : Int32))))), (3, .int (Val_X9_barOf f (0 : Int32) a2)), (0, .ref (zad Z 0)), (1, .int a1), (2, .int a2)]) C dX9_letsGo_17 (by decide) rfl rfl ?_
  refine g_aload_n C rfl dX9_letsGo_19 rfl ?_
  refine g_iload_n C rfl dX9_letsGo_20 rfl ?_
  refine g_aload_n C rfl dX9_letsGo_21 rfl ?_
  refine g_iconst C ki_0 dX9_letsGo_22 rfl ?_
  refine g_aload_n C rfl dX9_letsGo_23 rfl ?_
  refine g_iload_n C rfl dX9_letsGo_24 rfl ?_
  refine g_iconst C ki_2 dX9_letsGo_25 rfl ?_
  have hs3 := h.1
  replace h := h.2
  refine g_callVD C tw_997 tw_999 tp_31 tw_10 tw_1000 hy_X9_of (by decide) (by decide) rfl (Nat.le_of_ble_eq_true rfl) rfl rfl (ct_X9_of V_l1 V_l2 V_m1   f a1 (2 : Int32) hs3) dX9_letsGo_26 rfl rfl ?_
  refine g_iload C rfl dX9_letsGo_29 rfl ?_
  refine g_aload_n C rfl dX9_letsGo_31 rfl ?_
  refine g_iload_n C rfl dX9_letsGo_32 rfl ?_
  refine g_iconst C ki_1 dX9_letsGo_33 rfl ?_
  have hs4 := h.1
  replace h := h.2
  refine g_callVD C tw_997 tw_999 tp_31 tw_10 tw_1000 hy_X9_of (by decide) (by decide) rfl (Nat.le_of_ble_eq_true rfl) rfl rfl (ct_X9_of V_l1 V_l2 V_m1   f a1 (1 : Int32) hs4) dX9_letsGo_34 rfl rfl ?_
  have hs5 := h.1
  replace h := h.2
  refine g_callVI C tw_940 tw_942 tp_26 tw_10 tw_943 hy_X9_textGives (by decide) (by decide) rfl (Nat.le_of_ble_eq_true rfl) rfl rfl (ct_X9_textGives V_l1 V_l2 V_m1   f (0 : Int32) (Val_X9_of f a1 (2 : Int32)) ((Val_X9_barOf f (0 : Int32) a2) - (Val_X9_barOf f (0 : Int32) (a2 - (1 : Int32)))) (Val_X9_of f a1 (1 : Int32)) hs5) dX9_letsGo_37 rfl rfl (fun r6 f7 hp8 => ?_)
  replace h := h r6 f7 hp8
  refine g_iadd C dX9_letsGo_40 rfl ?_
  refine fp_X9_172 (k := 0) C rfl rfl (Nat.le_of_ble_eq_true rfl) dX9_letsGo_41 rfl ?_
  refine g_aload_n C rfl dX9_letsGo_44 rfl ?_
  refine g_iload_n C rfl dX9_letsGo_45 rfl ?_
  refine g_aload_n C rfl dX9_letsGo_46 rfl ?_
  refine g_iconst C ki_1 dX9_letsGo_47 rfl ?_
  refine g_aload_n C rfl dX9_letsGo_48 rfl ?_
  refine g_iload_n C rfl dX9_letsGo_49 rfl ?_
  refine g_iconst C ki_2 dX9_letsGo_50 rfl ?_
  have hs9 := h.1
  replace h := h.2
  refine g_callVD C tw_997 tw_999 tp_31 tw_10 tw_1000 hy_X9_of (by decide) (by decide) rfl (Nat.le_of_ble_eq_true rfl) rfl rfl (ct_X9_of V_l1 V_l2 V_m1   (up2 f7 0 11 (a2 + r6)) a1 (2 : Int32) hs9) dX9_letsGo_51 rfl rfl ?_
  refine g_iload C rfl dX9_letsGo_54 rfl ?_
  refine g_aload_n C rfl dX9_letsGo_56 rfl ?_
  refine g_iload_n C rfl dX9_letsGo_57 rfl ?_
  refine g_iconst C ki_1 dX9_letsGo_58 rfl ?_
  have hs10 := h.1
  replace h := h.2
  refine g_callVD C tw_997 tw_999 tp_31 tw_10 tw_1000 hy_X9_of (by decide) (by decide) rfl (Nat.le_of_ble_eq_true rfl) rfl rfl (ct_X9_of V_l1 V_l2 V_m1   (up2 f7 0 11 (a2 + r6)) a1 (1 : Int32) hs10) dX9_letsGo_59 rfl rfl ?_
  have hs11 := h.1
  replace h := h.2
  refine g_callVI C tw_940 tw_942 tp_26 tw_10 tw_943 hy_X9_textGives (by decide) (by decide) rfl (Nat.le_of_ble_eq_true rfl) rfl rfl (ct_X9_textGives V_l1 V_l2 V_m1   (up2 f7 0 11 (a2 + r6)) (1 : Int32) (Val_X9_of (up2 f7 0 11 (a2 + r6)) a1 (2 : Int32)) ((Val_X9_barOf f (0 : Int32) a2) - (Val_X9_barOf f (0 : Int32) (a2 - (1 : Int32)))) (Val_X9_of (up2 f7 0 11 (a2 + r6)) a1 (1 : Int32)) hs11) dX9_letsGo_62 rfl rfl (fun r12 f13 hp14 => ?_)
  replace h := h r12 f13 hp14
  refine g_iadd C dX9_letsGo_65 rfl ?_
  refine fp_X9_175 (k := 0) C rfl rfl (Nat.le_of_ble_eq_true rfl) dX9_letsGo_66 rfl ?_
  exact g_vret C dX9_letsGo_69 h
set_option maxRecDepth 100000 in
theorem ct_X9_letsGo (V_l1 : VC_l1) (V_l2 : VC_l2) (V_m1 : VC_m1) {l : Launch} {E : Ev}   (f : Fn) (a1 : Int32) (a2 : Int32) (hpre : Pre_X9_letsGo f a1 a2) : CT l E layM yX9_letsGo cX9_letsGo 5 none 54 [.ref (E.2.1 0), .int a1, .int a2] f (pV (Post_X9_letsGo f a1 a2)) := by
  refine CT.of (by decide +kernel) (Nat.le_of_ble_eq_true rfl) (fun Z hl9 hE9 hp9 C => ?_)
  subst hl9
  subst hE9
  exact wk_X9_letsGo V_l1 V_l2 V_m1 C   f a1 a2 (by rw [hp9]; exact V_m1.2.2.2.2.2.2.2.2.2.2.2.2.2.2.2.2.2.2.2.2.2.2.2.2.2.2.2.2.2.2.2.2.2.2.2.2.1  f a1 a2  hpre)
set_option maxHeartbeats 4000000 in
set_option maxRecDepth 100000 in
theorem wk_X9_size0 (V_l1 : VC_l1) (V_l2 : VC_l2) (V_m1 : VC_m1) {Z : Zt}  (C : CX Z layM RX9 cX9_size0 1 (some .int) 0)     (f : Fn) (a1 : Int32) (h : wp_X9_size0  f a1 (zp Z)) : GG Z f [(0, .int a1)] 0 [] := by
  refine g_iload_n C rfl dX9_size0_0 rfl ?_
  refine g_if_ge (tgt := 9) C dX9_size0_1 (by decide) rfl (fun hc1 => ?_) (fun hc1 => ?_)
  · replace h := h.1 hc1
    refine g_iload_n C rfl dX9_size0_9 rfl ?_
    exact g_iret C dX9_size0_10 h
  · replace h := h.2 hc1
    refine g_iload_n C rfl dX9_size0_4 rfl ?_
    refine g_ineg C dX9_size0_5 rfl ?_
    refine g_goto (q := 10) C dX9_size0_6 (by decide) ?_
    exact g_iret C dX9_size0_10 h
set_option maxRecDepth 100000 in
theorem ct_X9_size0 (V_l1 : VC_l1) (V_l2 : VC_l2) (V_m1 : VC_m1) {l : Launch} {E : Ev}   (f : Fn) (a1 : Int32)  : CT l E layM yX9_size0 cX9_size0 1 (some .int) 0 [.int a1] f (pI (fun r9 f9 => r9 = Val_X9_size0 f a1 ∧ f9 = f)) := by
  refine CT.of (by decide +kernel) (Nat.le_of_ble_eq_true rfl) (fun Z hl9 hE9 hp9 C => ?_)
  subst hl9
  subst hE9
  exact wk_X9_size0 V_l1 V_l2 V_m1 C   f a1 (by rw [hp9]; exact V_m1.2.2.2.2.2.2.2.2.2.2.2.2.2.2.2.2.2.2.2.2.2.2.2.2.2.2.2.2.2.2.2.2.2.2.2.2.2.1  f a1  )
set_option maxHeartbeats 4000000 in
set_option maxRecDepth 100000 in
theorem wk_X9_offNow (V_l1 : VC_l1) (V_l2 : VC_l2) (V_m1 : VC_m1) {Z : Zt}  (C : CX Z layM RX9 cX9_offNow 1 (some .int) 2)     (f : Fn)  (h : wp_X9_offNow  f  (zp Z)) : GG Z f [(0, .ref (zad Z 0))] 0 [] := by
  refine g_aload_n C rfl dX9_offNow_0 rfl ?_
  refine fg_X9_175I (k := 0) (x := (f 0 12)) C rfl rfl rfl dX9_offNow_1 rfl ?_
  refine g_aload_n C rfl dX9_offNow_4 rfl ?_
  refine g_aload_n C rfl dX9_offNow_5 rfl ?_
  refine fg_X9_172I (k := 0) (x := (f 0 11)) C rfl rfl rfl dX9_offNow_6 rfl ?_
  have hs1 := h.1
  replace h := h.2
  refine g_callVD C tw_1049 tw_1051 tp_39 tw_10 tw_1052 hy_X9_catcherAt (by decide) (by decide) rfl (Nat.le_of_ble_eq_true rfl) rfl rfl (ct_X9_catcherAt V_l1 V_l2 V_m1   f (f 0 11) hs1) dX9_offNow_9 rfl rfl ?_
  refine g_isub C dX9_offNow_12 rfl ?_
  exact g_iret C dX9_offNow_13 h
set_option maxRecDepth 100000 in
theorem ct_X9_offNow (V_l1 : VC_l1) (V_l2 : VC_l2) (V_m1 : VC_m1) {l : Launch} {E : Ev}   (f : Fn)  (hpre : Pre_X9_offNow f) : CT l E layM yX9_offNow cX9_offNow 1 (some .int) 2 [.ref (E.2.1 0)] f (pI (fun r9 f9 => r9 = Val_X9_offNow f ∧ f9 = f)) := by
  refine CT.of (by decide +kernel) (Nat.le_of_ble_eq_true rfl) (fun Z hl9 hE9 hp9 C => ?_)
  subst hl9
  subst hE9
  exact wk_X9_offNow V_l1 V_l2 V_m1 C   f  (by rw [hp9]; exact V_m1.2.2.2.2.2.2.2.2.2.2.2.2.2.2.2.2.2.2.2.2.2.2.2.2.2.2.2.2.2.2.2.2.2.2.2.2.2.2.1  f   hpre)
set_option maxHeartbeats 4000000 in
set_option maxRecDepth 100000 in
theorem wk_X9_isTold (V_l1 : VC_l1) (V_l2 : VC_l2) (V_m1 : VC_m1) {Z : Zt}  (C : CX Z layM RX9 cX9_isTold 3 none 55)     (f : Fn) (a1 : Int32) (a2 : Int32) (h : wp_X9_isTold  f a1 a2 (zp Z)) : GG Z f [(0, .ref (zad Z 0)), (1, .int a1), (2, .int a2)] 0 [] := by
  refine g_aload_n C rfl dX9_isTold_0 rfl ?_
  refine g_iload_n C rfl dX9_isTold_1 rfl ?_
  refine g_iload_n C rfl dX9_isTold_2 rfl ?_
  refine g_aload_n C rfl dX9_isTold_3 rfl ?_
  refine g_iload_n C rfl dX9_isTold_4 rfl ?_
  have hs1 := h.1
  replace h := h.2
  refine g_callVD C tw_993 tw_995 tp_30 tw_10 tw_996 hy_X9_lagOf (by decide) (by decide) rfl (Nat.le_of_ble_eq_true rfl) rfl rfl (ct_X9_lagOf V_l1 V_l2 V_m1   f a1 hs1) dX9_isTold_5 rfl rfl ?_
  refine g_iadd C dX9_isTold_8 rfl ?_
  have hs2 := h.1
  replace h := h.2
  refine g_callVV C tw_1037 tw_1039 tp_36 tw_10 tw_1040 hy_X9_letsGo (by decide) (by decide) rfl (Nat.le_of_ble_eq_true rfl) rfl rfl (ct_X9_letsGo V_l1 V_l2 V_m1   f a1 (a2 + (Val_X9_lagOf f a1)) hs2) dX9_isTold_9 rfl rfl (fun f3 hp4 => ?_)
  replace h := h f3 hp4
  exact g_vret C dX9_isTold_12 h
set_option maxRecDepth 100000 in
theorem ct_X9_isTold (V_l1 : VC_l1) (V_l2 : VC_l2) (V_m1 : VC_m1) {l : Launch} {E : Ev}   (f : Fn) (a1 : Int32) (a2 : Int32) (hpre : Pre_X9_isTold f a1 a2) : CT l E layM yX9_isTold cX9_isTold 3 none 55 [.ref (E.2.1 0), .int a1, .int a2] f (pV (Post_X9_isTold f a1 a2)) := by
  refine CT.of (by decide +kernel) (Nat.le_of_ble_eq_true rfl) (fun Z hl9 hE9 hp9 C => ?_)
  subst hl9
  subst hE9
  exact wk_X9_isTold V_l1 V_l2 V_m1 C   f a1 a2 (by rw [hp9]; exact V_m1.2.2.2.2.2.2.2.2.2.2.2.2.2.2.2.2.2.2.2.2.2.2.2.2.2.2.2.2.2.2.2.2.2.2.2.2.2.2.2.1  f a1 a2  hpre)
set_option maxHeartbeats 4000000 in
set_option maxRecDepth 100000 in
theorem wk_X9_isCaught (V_l1 : VC_l1) (V_l2 : VC_l2) (V_m1 : VC_m1) {Z : Zt}  (C : CX Z layM RX9 cX9_isCaught 2 (some .boolean) 3)     (f : Fn) (a1 : Int32) (h : wp_X9_isCaught  f a1 (zp Z)) : GG Z f [(0, .ref (zad Z 0)), (1, .int a1)] 0 [] := by
  refine g_aload_n C rfl dX9_isCaught_0 rfl ?_
  have hs1 := h.1
  replace h := h.2
  refine g_callVD C tw_1045 tw_1047 tp_38 tw_10 tw_1048 hy_X9_offNow (by decide) (by decide) rfl (Nat.le_of_ble_eq_true rfl) rfl rfl (ct_X9_offNow V_l1 V_l2 V_m1   f hs1) dX9_isCaught_1 rfl rfl ?_
  refine g_callSD C tw_1053 tw_1054 tw_10 tw_1055 hy_X9_size0 (by decide) (by decide) rfl (Nat.le_of_ble_eq_true rfl) (ct_X9_size0 V_l1 V_l2 V_m1   f (Val_X9_offNow f) ) dX9_isCaught_4 rfl rfl ?_
  refine g_aload_n C rfl dX9_isCaught_7 rfl ?_
  refine g_iload_n C rfl dX9_isCaught_8 rfl ?_
  have hs2 := h.1
  replace h := h.2
  refine g_callVD C tw_1001 tw_1003 tp_32 tw_10 tw_1004 hy_X9_holdsOf (by decide) (by decide) rfl (Nat.le_of_ble_eq_true rfl) rfl rfl (ct_X9_holdsOf V_l1 V_l2 V_m1   f a1 hs2) dX9_isCaught_9 rfl rfl ?_
  refine g_icmp_gt (tgt := 19) C dX9_isCaught_12 (by decide) rfl (fun hc3 => ?_) (fun hc3 => ?_)
  · replace h := h.1 hc3
    refine g_iconst C ki_0 dX9_isCaught_19 rfl ?_
    exact g_zret C (Or.inl rfl) dX9_isCaught_20 h
  · replace h := h.2 hc3
    refine g_iconst C ki_1 dX9_isCaught_15 rfl ?_
    refine g_goto (q := 20) C dX9_isCaught_16 (by decide) ?_
    exact g_zret C (Or.inr rfl) dX9_isCaught_20 h
set_option maxRecDepth 100000 in
theorem ct_X9_isCaught (V_l1 : VC_l1) (V_l2 : VC_l2) (V_m1 : VC_m1) {l : Launch} {E : Ev}   (f : Fn) (a1 : Int32) (hpre : Pre_X9_isCaught f a1) : CT l E layM yX9_isCaught cX9_isCaught 2 (some .boolean) 3 [.ref (E.2.1 0), .int a1] f (pI (fun r9 f9 => r9 = Val_X9_isCaught f a1 ∧ f9 = f)) := by
  refine CT.of (by decide +kernel) (Nat.le_of_ble_eq_true rfl) (fun Z hl9 hE9 hp9 C => ?_)
  subst hl9
  subst hE9
  exact wk_X9_isCaught V_l1 V_l2 V_m1 C   f a1 (by rw [hp9]; exact V_m1.2.2.2.2.2.2.2.2.2.2.2.2.2.2.2.2.2.2.2.2.2.2.2.2.2.2.2.2.2.2.2.2.2.2.2.2.2.2.2.2.1  f a1  hpre)
set_option maxHeartbeats 4000000 in
set_option maxRecDepth 100000 in
theorem wk_X9_fallHarm (V_l1 : VC_l1) (V_l2 : VC_l2) (V_m1 : VC_m1) {Z : Zt}  (C : CX Z layM RX9 cX9_fallHarm 3 (some .int) 2)     (f : Fn) (a1 : Int32) (a2 : Int32) (h : wp_X9_fallHarm  f a1 a2 (zp Z)) : GG Z f [(0, .ref (zad Z 0)), (1, .int a1), (2, .int a2)] 0 [] := by
  refine g_aload_n C rfl dX9_fallHarm_0 rfl ?_
  refine g_iload_n C rfl dX9_fallHarm_1 rfl ?_
  refine g_aload_n C rfl dX9_fallHarm_2 rfl ?_
  refine fg_X9_175I (k := 0) (x := (f 0 12)) C rfl rfl rfl dX9_fallHarm_3 rfl ?_
  refine g_iload_n C rfl dX9_fallHarm_6 rfl ?_
  refine g_isub C dX9_fallHarm_7 rfl ?_
  refine g_callSD C tw_1053 tw_1054 tw_10 tw_1055 hy_X9_size0 (by decide) (by decide) rfl (Nat.le_of_ble_eq_true rfl) (ct_X9_size0 V_l1 V_l2 V_m1   f ((f 0 12) - a2) ) dX9_fallHarm_8 rfl rfl ?_
  have hs1 := h.1
  replace h := h.2
  refine g_callVD C tw_1005 tw_1007 tp_33 tw_10 tw_1008 hy_X9_harmOf (by decide) (by decide) rfl (Nat.le_of_ble_eq_true rfl) rfl rfl (ct_X9_harmOf V_l1 V_l2 V_m1   f a1 (Val_X9_size0 f ((f 0 12) - a2)) hs1) dX9_fallHarm_11 rfl rfl ?_
  exact g_iret C dX9_fallHarm_14 h
set_option maxRecDepth 100000 in
theorem ct_X9_fallHarm (V_l1 : VC_l1) (V_l2 : VC_l2) (V_m1 : VC_m1) {l : Launch} {E : Ev}   (f : Fn) (a1 : Int32) (a2 : Int32) (hpre : Pre_X9_fallHarm f a1 a2) : CT l E layM yX9_fallHarm cX9_fallHarm 3 (some .int) 2 [.ref (E.2.1 0), .int a1, .int a2] f (pI (fun r9 f9 => r9 = Val_X9_fallHarm f a1 a2 ∧ f9 = f)) := by
  refine CT.of (by decide +kernel) (Nat.le_of_ble_eq_true rfl) (fun Z hl9 hE9 hp9 C => ?_)
  subst hl9
  subst hE9
  exact wk_X9_fallHarm V_l1 V_l2 V_m1 C   f a1 a2 (by rw [hp9]; exact V_m1.2.2.2.2.2.2.2.2.2.2.2.2.2.2.2.2.2.2.2.2.2.2.2.2.2.2.2.2.2.2.2.2.2.2.2.2.2.2.2.2.2.1  f a1 a2  hpre)
set_option maxHeartbeats 4000000 in
set_option maxRecDepth 100000 in
theorem wk_X9_goes_L89 (V_l1 : VC_l1) (V_l2 : VC_l2) (V_m1 : VC_m1) {Z : Zt}  (C : CX Z layM RX9 cX9_goes 5 (some .int) 56)     (f : Fn) (x1 : Int32) (x3 : Int32) (s0 : Int32) (s1 : Int32) (s2 : Int32) (h : wp_X9_goes_L89   f x1 x3 s0 s1 s2 (zp Z)) : GG Z f [(0, .ref (zad Z 0)), (1, .int x1), (3, .int x3)] 89 [.int s0, .int s1, .int s2, .ref (zad Z 1)] := by
  refine g_iadd C dX9_goes_89 rfl ?_
  refine g_iconst C ki_0 dX9_goes_90 rfl ?_
  refine g_ldc C tw_1060 dX9_goes_91 rfl ?_
  refine g_callSD C tw_944 tw_945 tw_10 tw_946 hy_X9_held (by decide) (by decide) rfl (Nat.le_of_ble_eq_true rfl) (ct_X9_held V_l1 V_l2 V_m1   f (s1 + s0) (0 : Int32) (99999 : Int32) ) dX9_goes_93 rfl rfl ?_
  have hs11 := h.1
  replace h := h.2
  refine g_iastx (k := 1) (j := s2.toNatClampNeg) C rfl hs11 rfl dX9_goes_96 rfl ?_
  refine g_aload_n C rfl dX9_goes_97 rfl ?_
  refine g_iload_n C rfl dX9_goes_98 rfl ?_
  refine g_iconst C ki_3 dX9_goes_99 rfl ?_
  refine g_aload_n C rfl dX9_goes_100 rfl ?_
  refine g_iload_n C rfl dX9_goes_101 rfl ?_
  refine g_iconst C ki_3 dX9_goes_102 rfl ?_
  have hs12 := h.1
  replace h := h.2
  refine g_callVD C tw_997 tw_999 tp_31 tw_10 tw_1000 hy_X9_of (by decide) (by decide) rfl (Nat.le_of_ble_eq_true rfl) rfl rfl (ct_X9_of V_l1 V_l2 V_m1   (up2 f 1 s2.toNatClampNeg (Val_X9_held f (s1 + s0) (0 : Int32) (99999 : Int32))) x1 (3 : Int32) hs12) dX9_goes_103 rfl rfl ?_
  refine g_iconst C ki_1 dX9_goes_106 rfl ?_
  refine g_iadd C dX9_goes_107 rfl ?_
  refine g_iconst C ki_0 dX9_goes_108 rfl ?_
  refine g_bipush C kb_99 dX9_goes_109 rfl ?_
  refine g_callSD C tw_944 tw_945 tw_10 tw_946 hy_X9_held (by decide) (by decide) rfl (Nat.le_of_ble_eq_true rfl) (ct_X9_held V_l1 V_l2 V_m1   (up2 f 1 s2.toNatClampNeg (Val_X9_held f (s1 + s0) (0 : Int32) (99999 : Int32))) ((Val_X9_of (up2 f 1 s2.toNatClampNeg (Val_X9_held f (s1 + s0) (0 : Int32) (99999 : Int32))) x1 (3 : Int32)) + (1 : Int32)) (0 : Int32) (99 : Int32) ) dX9_goes_111 rfl rfl ?_
  have hs13 := h.1
  replace h := h.2
  refine g_callVV C tw_980 tw_982 tp_28 tw_10 tw_983 hy_X9_sets (by decide) (by decide) rfl (Nat.le_of_ble_eq_true rfl) rfl rfl (ct_X9_sets V_l1 V_l2 V_m1   (up2 f 1 s2.toNatClampNeg (Val_X9_held f (s1 + s0) (0 : Int32) (99999 : Int32))) x1 (3 : Int32) (Val_X9_held (up2 f 1 s2.toNatClampNeg (Val_X9_held f (s1 + s0) (0 : Int32) (99999 : Int32))) ((Val_X9_of (up2 f 1 s2.toNatClampNeg (Val_X9_held f (s1 + s0) (0 : Int32) (99999 : Int32))) x1 (3 : Int32)) + (1 : Int32)) (0 : Int32) (99 : Int32)) hs13) dX9_goes_114 rfl rfl (fun f14 hp15 => ?_)
  replace h := h f14 hp15
  refine g_iload_n C rfl dX9_goes_117 rfl ?_
  exact g_iret C dX9_goes_118 h
set_option maxHeartbeats 4000000 in
set_option maxRecDepth 100000 in
theorem wk_X9_goes_L42 (V_l1 : VC_l1) (V_l2 : VC_l2) (V_m1 : VC_m1) {Z : Zt}  (C : CX Z layM RX9 cX9_goes 5 (some .int) 56)     (f : Fn) (x1 : Int32) (x3 : Int32) (s0 : Int32) (h : wp_X9_goes_L42   f x1 x3 s0 (zp Z)) : GG Z f [(0, .ref (zad Z 0)), (1, .int x1), (3, .int x3)] 42 [.int s0] := by
  refine g_istore (lv' := [(4, .int s0), (0, .ref (zad Z 0)), (1, .int x1), (3, .int x3)]) C dX9_goes_42 (by decide) rfl rfl ?_
  refine g_aload_n C rfl dX9_goes_44 rfl ?_
  refine fg_X9_7R (k := 0) (p := 1) C rfl rfl dX9_goes_45 rfl ?_
  refine g_iload C rfl dX9_goes_48 rfl ?_
  refine g_aload_n C rfl dX9_goes_50 rfl ?_
  refine fg_X9_7R (k := 0) (p := 1) C rfl rfl dX9_goes_51 rfl ?_
  refine g_iload C rfl dX9_goes_54 rfl ?_
  have hs8 := h.1
  replace h := h.2
  refine g_ialdx (k := 1) (j := s0.toNatClampNeg) (x := (f 1 s0.toNatClampNeg)) C rfl hs8 rfl rfl dX9_goes_56 rfl ?_
  refine g_iconst C ki_1 dX9_goes_57 rfl ?_
  refine g_iadd C dX9_goes_58 rfl ?_
  refine g_iconst C ki_0 dX9_goes_59 rfl ?_
  refine g_sipush C ks_9999 dX9_goes_60 rfl ?_
  refine g_callSD C tw_944 tw_945 tw_10 tw_946 hy_X9_held (by decide) (by decide) rfl (Nat.le_of_ble_eq_true rfl) (ct_X9_held V_l1 V_l2 V_m1   f ((f 1 s0.toNatClampNeg) + (1 : Int32)) (0 : Int32) (9999 : Int32) ) dX9_goes_63 rfl rfl ?_
  have hs9 := h.1
  replace h := h.2
  refine g_iastx (k := 1) (j := s0.toNatClampNeg) C rfl hs9 rfl dX9_goes_66 rfl ?_
  refine g_aload_n C rfl dX9_goes_67 rfl ?_
  refine fg_X9_7R (k := 0) (p := 1) C rfl rfl dX9_goes_68 rfl ?_
  refine g_iconst C ki_4 dX9_goes_71 rfl ?_
  refine g_aload_n C rfl dX9_goes_72 rfl ?_
  refine fg_X9_7R (k := 0) (p := 1) C rfl rfl dX9_goes_73 rfl ?_
  refine g_iconst C ki_4 dX9_goes_76 rfl ?_
  refine g_ialdx (k := 1) (j := 4) (x := ((up2 f 1 s0.toNatClampNeg (Val_X9_held f ((f 1 s0.toNatClampNeg) + (1 : Int32)) (0 : Int32) (9999 : Int32))) 1 4)) C rfl vi_4_264 kc_4 rfl dX9_goes_77 rfl ?_
  refine g_iload_n C rfl dX9_goes_78 rfl ?_
  refine g_if_ne (tgt := 86) C dX9_goes_79 (by decide) rfl (fun hc10 => ?_) (fun hc10 => ?_)
  · replace h := h.1 hc10
    refine g_iload_n C rfl dX9_goes_86 rfl ?_
    refine g_iconst C ki_1 dX9_goes_87 rfl ?_
    refine g_isub C dX9_goes_88 rfl ?_
    refine g_lps [0, 1, 3] rfl ?_
    exact wk_X9_goes_L89 V_l1 V_l2 V_m1  C    _ _ _ _ _ _ h
  · replace h := h.2 hc10
    refine g_iconst C ki_0 dX9_goes_82 rfl ?_
    refine g_goto (q := 89) C dX9_goes_83 (by decide) ?_
    refine g_lps [0, 1, 3] rfl ?_
    exact wk_X9_goes_L89 V_l1 V_l2 V_m1  C    _ _ _ _ _ _ h
set_option maxHeartbeats 4000000 in
set_option maxRecDepth 100000 in
theorem wk_X9_goes_L32 (V_l1 : VC_l1) (V_l2 : VC_l2) (V_m1 : VC_m1) {Z : Zt}  (C : CX Z layM RX9 cX9_goes 5 (some .int) 56)     (f : Fn) (x1 : Int32) (s0 : Int32) (h : wp_X9_goes_L32   f x1 s0 (zp Z)) : GG Z f [(0, .ref (zad Z 0)), (1, .int x1)] 32 [.int s0] := by
  refine g_istore_n (lv' := [(3, .int s0), (0, .ref (zad Z 0)), (1, .int x1)]) C dX9_goes_32 (by decide) rfl rfl ?_
  refine g_iload_n C rfl dX9_goes_33 rfl ?_
  refine g_if_ne (tgt := 41) C dX9_goes_34 (by decide) rfl (fun hc7 => ?_) (fun hc7 => ?_)
  · replace h := h.1 hc7
    refine g_iconst C ki_3 dX9_goes_41 rfl ?_
    refine g_lps [0, 1, 3] rfl ?_
    exact wk_X9_goes_L42 V_l1 V_l2 V_m1  C    _ _ _ _ h
  · replace h := h.2 hc7
    refine g_iconst C ki_2 dX9_goes_37 rfl ?_
    refine g_goto (q := 42) C dX9_goes_38 (by decide) ?_
    refine g_lps [0, 1, 3] rfl ?_
    exact wk_X9_goes_L42 V_l1 V_l2 V_m1  C    _ _ _ _ h
set_option maxHeartbeats 4000000 in
set_option maxRecDepth 100000 in
theorem wk_X9_goes (V_l1 : VC_l1) (V_l2 : VC_l2) (V_m1 : VC_m1) {Z : Zt}  (C : CX Z layM RX9 cX9_goes 5 (some .int) 56)     (f : Fn) (a1 : Int32) (a2 : Int32) (h : wp_X9_goes  f a1 a2 (zp Z)) : GG Z f [(0, .ref (zad Z 0)), (1, .int a1), (2, .int a2)] 0 [] := by
  refine g_aload_n C rfl dX9_goes_0 rfl ?_
  refine g_iload_n C rfl dX9_goes_1 rfl ?_
  refine g_iload_n C rfl dX9_goes_2 rfl ?_
  have hs1 := h.1
  replace h := h.2
  refine g_callVV C tw_1033 tw_1035 tp_35 tw_10 tw_1036 hy_X9_isTold (by decide) (by decide) rfl (Nat.le_of_ble_eq_true rfl) rfl rfl (ct_X9_isTold V_l1 V_l2 V_m1   f a1 a2 hs1) dX9_goes_3 rfl rfl (fun f2 hp3 => ?_)
  replace h := h f2 hp3
  refine g_aload_n C rfl dX9_goes_6 rfl ?_
  refine g_iload_n C rfl dX9_goes_7 rfl ?_
  have hs4 := h.1
  replace h := h.2
  refine g_callVD C tw_1041 tw_1043 tp_37 tw_10 tw_1044 hy_X9_isCaught (by decide) (by decide) rfl (Nat.le_of_ble_eq_true rfl) rfl rfl (ct_X9_isCaught V_l1 V_l2 V_m1   f2 a1 hs4) dX9_goes_8 rfl rfl ?_
  refine g_if_eq (tgt := 18) C dX9_goes_11 (by decide) rfl (fun hc5 => ?_) (fun hc5 => ?_)
  · replace h := h.1 hc5
    refine g_iconst C ki_1 dX9_goes_18 rfl ?_
    refine g_aload_n C rfl dX9_goes_19 rfl ?_
    refine g_iload_n C rfl dX9_goes_20 rfl ?_
    refine g_aload_n C rfl dX9_goes_21 rfl ?_
    refine fg_X9_7R (k := 0) (p := 1) C rfl rfl dX9_goes_22 rfl ?_
    refine g_bipush C kb_7 dX9_goes_25 rfl ?_
    refine g_ialdx (k := 1) (j := 7) (x := (f2 1 7)) C rfl vi_7_264 kc_7 rfl dX9_goes_27 rfl ?_
    have hs6 := h.1
    replace h := h.2
    refine g_callVD C tw_1056 tw_1058 tp_40 tw_10 tw_1059 hy_X9_fallHarm (by decide) (by decide) rfl (Nat.le_of_ble_eq_true rfl) rfl rfl (ct_X9_fallHarm V_l1 V_l2 V_m1   f2 a1 (f2 1 7) hs6) dX9_goes_28 rfl rfl ?_
    refine g_iadd C dX9_goes_31 rfl ?_
    refine g_lps [0, 1] rfl ?_
    exact wk_X9_goes_L32 V_l1 V_l2 V_m1  C    _ _ _ h
  · replace h := h.2 hc5
    refine g_iconst C ki_0 dX9_goes_14 rfl ?_
    refine g_goto (q := 32) C dX9_goes_15 (by decide) ?_
    refine g_lps [0, 1] rfl ?_
    exact wk_X9_goes_L32 V_l1 V_l2 V_m1  C    _ _ _ h
set_option maxRecDepth 100000 in
theorem ct_X9_goes (V_l1 : VC_l1) (V_l2 : VC_l2) (V_m1 : VC_m1) {l : Launch} {E : Ev}   (f : Fn) (a1 : Int32) (a2 : Int32) (hpre : Pre_X9_goes f a1 a2) : CT l E layM yX9_goes cX9_goes 5 (some .int) 56 [.ref (E.2.1 0), .int a1, .int a2] f (pI (Post_X9_goes f a1 a2)) := by
  refine CT.of (by decide +kernel) (Nat.le_of_ble_eq_true rfl) (fun Z hl9 hE9 hp9 C => ?_)
  subst hl9
  subst hE9
  exact wk_X9_goes V_l1 V_l2 V_m1 C   f a1 a2 (by rw [hp9]; exact V_m1.2.2.2.2.2.2.2.2.2.2.2.2.2.2.2.2.2.2.2.2.2.2.2.2.2.2.2.2.2.2.2.2.2.2.2.2.2.2.2.2.2.2.1  f a1 a2  hpre)
set_option maxHeartbeats 4000000 in
set_option maxRecDepth 100000 in
theorem wk_X9_go (V_l1 : VC_l1) (V_l2 : VC_l2) (V_m1 : VC_m1) {Z : Zt}  (C : CX Z layM RX9 cX9_go 2 (some .int) 57)     (f : Fn) (a1 : Int32) (h : wp_X9_go  f a1 (zp Z)) : GG Z f [(0, .ref (zad Z 0)), (1, .int a1)] 0 [] := by
  refine g_aload_n C rfl dX9_go_0 rfl ?_
  refine g_iload_n C rfl dX9_go_1 rfl ?_
  refine g_callVD C tw_988 tw_990 tp_29 tw_10 tw_991 hy_X9_isFlyer (by decide) (by decide) rfl (Nat.le_of_ble_eq_true rfl) rfl rfl (ct_X9_isFlyer V_l1 V_l2 V_m1   f a1 ) dX9_go_2 rfl rfl ?_
  refine g_if_eq (tgt := 22) C dX9_go_5 (by decide) rfl (fun hc1 => ?_) (fun hc1 => ?_)
  · replace h := h.1 hc1
    refine g_aload_n C rfl dX9_go_22 rfl ?_
    refine g_iconst C ki_1 dX9_go_23 rfl ?_
    have hs2 := h.1
    replace h := h.2
    refine g_callVI C tw_881 tw_883 tp_15 tw_10 tw_884 hy_X9_finds (by decide) (by decide) rfl (Nat.le_of_ble_eq_true rfl) rfl rfl (ct_X9_finds V_l1 V_l2 V_m1   f (1 : Int32) hs2) dX9_go_24 rfl rfl (fun r3 f4 hp5 => ?_)
    replace h := h r3 f4 hp5
    exact g_iret C dX9_go_27 h
  · replace h := h.2 hc1
    refine g_aload_n C rfl dX9_go_8 rfl ?_
    refine g_iload_n C rfl dX9_go_9 rfl ?_
    refine g_aload_n C rfl dX9_go_10 rfl ?_
    refine fg_X9_7R (k := 0) (p := 1) C rfl rfl dX9_go_11 rfl ?_
    refine g_iconst C ki_1 dX9_go_14 rfl ?_
    refine g_ialdx (k := 1) (j := 1) (x := (f 1 1)) C rfl vi_1_264 kc_1 rfl dX9_go_15 rfl ?_
    have hs6 := h.1
    replace h := h.2
    refine g_callVI C tw_1029 tw_1031 tp_34 tw_10 tw_1032 hy_X9_goes (by decide) (by decide) rfl (Nat.le_of_ble_eq_true rfl) rfl rfl (ct_X9_goes V_l1 V_l2 V_m1   f a1 (f 1 1) hs6) dX9_go_16 rfl rfl (fun r7 f8 hp9 => ?_)
    replace h := h r7 f8 hp9
    refine g_goto (q := 27) C dX9_go_19 (by decide) ?_
    exact g_iret C dX9_go_27 h
set_option maxRecDepth 100000 in
theorem ct_X9_go (V_l1 : VC_l1) (V_l2 : VC_l2) (V_m1 : VC_m1) {l : Launch} {E : Ev}   (f : Fn) (a1 : Int32) (hpre : Pre_X9_go f a1) : CT l E layM yX9_go cX9_go 2 (some .int) 57 [.ref (E.2.1 0), .int a1] f (pI (Post_X9_go f a1)) := by
  refine CT.of (by decide +kernel) (Nat.le_of_ble_eq_true rfl) (fun Z hl9 hE9 hp9 C => ?_)
  subst hl9
  subst hE9
  exact wk_X9_go V_l1 V_l2 V_m1 C   f a1 (by rw [hp9]; exact V_m1.2.2.2.2.2.2.2.2.2.2.2.2.2.2.2.2.2.2.2.2.2.2.2.2.2.2.2.2.2.2.2.2.2.2.2.2.2.2.2.2.2.2.2.1  f a1  hpre)
set_option maxHeartbeats 4000000 in
set_option maxRecDepth 100000 in
theorem wk_X9_ticks (V_l1 : VC_l1) (V_l2 : VC_l2) (V_m1 : VC_m1) {Z : Zt}  (C : CX Z layM RX9 cX9_ticks 2 (some .int) 1)     (f : Fn) (a1 : Int32) (h : wp_X9_ticks  f a1 (zp Z)) : GG Z f [(0, .ref (zad Z 0)), (1, .int a1)] 0 [] := by
  refine g_iload_n C rfl dX9_ticks_0 rfl ?_
  refine g_i2l C dX9_ticks_1 rfl ?_
  refine g_lconst C kl_1 dX9_ticks_2 rfl ?_
  refine g_ldc2 C tw_971 dX9_ticks_3 rfl ?_
  refine g_callSD C tw_878 tw_879 tw_10 tw_880 hy_X9_in (by decide) (by decide) rfl (Nat.le_of_ble_eq_true rfl) (ct_X9_in V_l1 V_l2 V_m1   f a1.toInt64 (1 : Int64) (200 : Int64) ) dX9_ticks_6 rfl rfl ?_
  refine g_if_ne (tgt := 18) C dX9_ticks_9 (by decide) rfl (fun hc1 => ?_) (fun hc1 => ?_)
  · replace h := h.1 hc1
    refine g_aload_n C rfl dX9_ticks_18 rfl ?_
    refine fg_X9_7R (k := 0) (p := 1) C rfl rfl dX9_ticks_19 rfl ?_
    refine g_iconst C ki_1 dX9_ticks_22 rfl ?_
    refine g_ialdx (k := 1) (j := 1) (x := (f 1 1)) C rfl vi_1_264 kc_1 rfl dX9_ticks_23 rfl ?_
    refine g_iload_n C rfl dX9_ticks_24 rfl ?_
    refine g_iadd C dX9_ticks_25 rfl ?_
    refine g_sipush C ks_9999 dX9_ticks_26 rfl ?_
    refine g_icmp_le (tgt := 38) C dX9_ticks_29 (by decide) rfl (fun hc2 => ?_) (fun hc2 => ?_)
    · replace h := h.1 hc2
      refine g_aload_n C rfl dX9_ticks_38 rfl ?_
      refine fg_X9_7R (k := 0) (p := 1) C rfl rfl dX9_ticks_39 rfl ?_
      refine g_iconst C ki_1 dX9_ticks_42 rfl ?_
      refine g_dup2 C rfl rfl dX9_ticks_43 rfl ?_
      refine g_ialdx (k := 1) (j := 1) (x := (f 1 1)) C rfl vi_1_264 kc_1 rfl dX9_ticks_44 rfl ?_
      refine g_iload_n C rfl dX9_ticks_45 rfl ?_
      refine g_iadd C dX9_ticks_46 rfl ?_
      refine g_iastx (k := 1) (j := 1) C rfl vi_1_264 kc_1 dX9_ticks_47 rfl ?_
      refine g_aload_n C rfl dX9_ticks_48 rfl ?_
      refine fg_X9_7R (k := 0) (p := 1) C rfl rfl dX9_ticks_49 rfl ?_
      refine g_iconst C ki_1 dX9_ticks_52 rfl ?_
      refine g_ialdx (k := 1) (j := 1) (x := ((f 1 1) + a1)) C rfl vi_1_264 kc_1 (by simp [up2, upd]) dX9_ticks_53 rfl ?_
      exact g_iret C dX9_ticks_54 h
    · replace h := h.2 hc2
      refine g_aload_n C rfl dX9_ticks_32 rfl ?_
      refine g_iconst C ki_3 dX9_ticks_33 rfl ?_
      have hs3 := h.1
      replace h := h.2
      refine g_callVI C tw_881 tw_883 tp_15 tw_10 tw_884 hy_X9_finds (by decide) (by decide) rfl (Nat.le_of_ble_eq_true rfl) rfl rfl (ct_X9_finds V_l1 V_l2 V_m1   f (3 : Int32) hs3) dX9_ticks_34 rfl rfl (fun r4 f5 hp6 => ?_)
      replace h := h r4 f5 hp6
      exact g_iret C dX9_ticks_37 h
  · replace h := h.2 hc1
    refine g_aload_n C rfl dX9_ticks_12 rfl ?_
    refine g_iconst C ki_1 dX9_ticks_13 rfl ?_
    have hs7 := h.1
    replace h := h.2
    refine g_callVI C tw_881 tw_883 tp_15 tw_10 tw_884 hy_X9_finds (by decide) (by decide) rfl (Nat.le_of_ble_eq_true rfl) rfl rfl (ct_X9_finds V_l1 V_l2 V_m1   f (1 : Int32) hs7) dX9_ticks_14 rfl rfl (fun r8 f9 hp10 => ?_)
    replace h := h r8 f9 hp10
    exact g_iret C dX9_ticks_17 h
set_option maxRecDepth 100000 in
theorem ct_X9_ticks (V_l1 : VC_l1) (V_l2 : VC_l2) (V_m1 : VC_m1) {l : Launch} {E : Ev}   (f : Fn) (a1 : Int32) (hpre : Pre_X9_ticks f a1) : CT l E layM yX9_ticks cX9_ticks 2 (some .int) 1 [.ref (E.2.1 0), .int a1] f (pI (Post_X9_ticks f a1)) := by
  refine CT.of (by decide +kernel) (Nat.le_of_ble_eq_true rfl) (fun Z hl9 hE9 hp9 C => ?_)
  subst hl9
  subst hE9
  exact wk_X9_ticks V_l1 V_l2 V_m1 C   f a1 (by rw [hp9]; exact V_m1.2.2.2.2.2.2.2.2.2.2.2.2.2.2.2.2.2.2.2.2.2.2.2.2.2.2.2.2.2.2.2.2.2.2.2.2.2.2.2.2.2.2.2.2.1  f a1  hpre)
set_option maxHeartbeats 4000000 in
set_option maxRecDepth 100000 in
theorem wk_X9_drawn (V_l1 : VC_l1) (V_l2 : VC_l2) (V_m1 : VC_m1) {Z : Zt}  (C : CX Z layM RX9 cX9_drawn 1 (some .int) 0)     (f : Fn)  (h : wp_X9_drawn  f  (zp Z)) : GG Z f [(0, .ref (zad Z 0))] 0 [] := by
  refine g_aload_n C rfl dX9_drawn_0 rfl ?_
  refine fg_X9_7R (k := 0) (p := 1) C rfl rfl dX9_drawn_1 rfl ?_
  refine g_bipush C kb_8 dX9_drawn_4 rfl ?_
  refine g_aload_n C rfl dX9_drawn_6 rfl ?_
  refine fg_X9_7R (k := 0) (p := 1) C rfl rfl dX9_drawn_7 rfl ?_
  refine g_bipush C kb_8 dX9_drawn_10 rfl ?_
  refine g_ialdx (k := 1) (j := 8) (x := (f 1 8)) C rfl vi_8_264 kc_8 rfl dX9_drawn_12 rfl ?_
  refine g_ldc C tw_1073 dX9_drawn_13 rfl ?_
  refine g_imul C dX9_drawn_15 rfl ?_
  refine g_sipush C ks_12345 dX9_drawn_16 rfl ?_
  refine g_iadd C dX9_drawn_19 rfl ?_
  refine g_iastx (k := 1) (j := 8) C rfl vi_8_264 kc_8 dX9_drawn_20 rfl ?_
  refine g_aload_n C rfl dX9_drawn_21 rfl ?_
  refine fg_X9_7R (k := 0) (p := 1) C rfl rfl dX9_drawn_22 rfl ?_
  refine g_bipush C kb_8 dX9_drawn_25 rfl ?_
  refine g_ialdx (k := 1) (j := 8) (x := (((f 1 8) * (1103515245 : Int32)) + (12345 : Int32))) C rfl vi_8_264 kc_8 (by simp [up2, upd]) dX9_drawn_27 rfl ?_
  refine g_bipush C kb_8 dX9_drawn_28 rfl ?_
  refine g_iushr C dX9_drawn_30 rfl ?_
  exact g_iret C dX9_drawn_31 h
set_option maxRecDepth 100000 in
theorem ct_X9_drawn (V_l1 : VC_l1) (V_l2 : VC_l2) (V_m1 : VC_m1) {l : Launch} {E : Ev}   (f : Fn)   : CT l E layM yX9_drawn cX9_drawn 1 (some .int) 0 [.ref (E.2.1 0)] f (pI (Post_X9_drawn f)) := by
  refine CT.of (by decide +kernel) (Nat.le_of_ble_eq_true rfl) (fun Z hl9 hE9 hp9 C => ?_)
  subst hl9
  subst hE9
  exact wk_X9_drawn V_l1 V_l2 V_m1 C   f  (by rw [hp9]; exact V_m1.2.2.2.2.2.2.2.2.2.2.2.2.2.2.2.2.2.2.2.2.2.2.2.2.2.2.2.2.2.2.2.2.2.2.2.2.2.2.2.2.2.2.2.2.2.1  f   )
set_option maxHeartbeats 4000000 in
set_option maxRecDepth 100000 in
theorem wkb_X9_evenings_L50 (V_l1 : VC_l1) (V_l2 : VC_l2) (V_m1 : VC_m1) {Z : Zt}  (C : CX Z layM RX9 cX9_evenings 6 (some .int) 57)   {K43 : Fn → Int32 → Int32 → Prop} {K50 : Fn → Int32 → Int32 → Int32 → Prop} (hK43 : ∀ (f : Fn) (x1 : Int32) (x2 : Int32), K43 f x1 x2 → GG Z f [(0, .ref (zad Z 0)), (1, .int x1), (2, .int x2)] 43 []) (hK50 : ∀ (f : Fn) (x1 : Int32) (x2 : Int32) (x3 : Int32), K50 f x1 x2 x3 → GG Z f [(0, .ref (zad Z 0)), (1, .int x1), (2, .int x2), (3, .int x3)] 50 []) (f : Fn) (x1 : Int32) (x2 : Int32) (x3 : Int32) (h : wpb_X9_evenings_L50  K43 K50 f x1 x2 x3 (zp Z)) : GG Z f [(0, .ref (zad Z 0)), (1, .int x1), (2, .int x2), (3, .int x3)] 50 [] := by
  refine g_iload_n C rfl dX9_evenings_50 rfl ?_
  refine g_aload_n C rfl dX9_evenings_51 rfl ?_
  refine fg_X9_7R (k := 0) (p := 1) C rfl rfl dX9_evenings_52 rfl ?_
  refine g_iconst C ki_0 dX9_evenings_55 rfl ?_
  refine g_ialdx (k := 1) (j := 0) (x := (f 1 0)) C rfl vi_0_264 kc_0 rfl dX9_evenings_56 rfl ?_
  refine g_icmp_ge (tgt := 91) C dX9_evenings_57 (by decide) rfl (fun hc4 => ?_) (fun hc4 => ?_)
  · replace h := h.1 hc4
    refine g_aload_n C rfl dX9_evenings_91 rfl ?_
    refine fg_X9_7R (k := 0) (p := 1) C rfl rfl dX9_evenings_92 rfl ?_
    refine g_iconst C ki_1 dX9_evenings_95 rfl ?_
    refine g_dup2 C rfl rfl dX9_evenings_96 rfl ?_
    refine g_ialdx (k := 1) (j := 1) (x := (f 1 1)) C rfl vi_1_264 kc_1 rfl dX9_evenings_97 rfl ?_
    refine g_bipush C kb_12 dX9_evenings_98 rfl ?_
    refine g_iadd C dX9_evenings_100 rfl ?_
    refine g_iastx (k := 1) (j := 1) C rfl vi_1_264 kc_1 dX9_evenings_101 rfl ?_
    refine g_iinc (lv' := [(2, .int (x2 + (1 : Int32))), (0, .ref (zad Z 0)), (1, .int x1), (3, .int x3)]) C dX9_evenings_102 rfl (inc_1 _) (by decide) rfl rfl ?_
    refine g_goto (q := 43) C dX9_evenings_105 (by decide) ?_
    refine g_lps [0, 1, 2] rfl ?_
    exact hK43 _ _ _ h
  · replace h := h.2 hc4
    refine g_aload_n C rfl dX9_evenings_60 rfl ?_
    refine g_callVI C tw_1069 tw_1071 tp_41 tw_10 tw_1072 hy_X9_drawn (by decide) (by decide) rfl (Nat.le_of_ble_eq_true rfl) rfl rfl (ct_X9_drawn V_l1 V_l2 V_m1   f ) dX9_evenings_61 rfl rfl (fun r5 f6 hp7 => ?_)
    replace h := h r5 f6 hp7
    refine g_bipush C kb_12 dX9_evenings_64 rfl ?_
    refine g_irem C (by decide) dX9_evenings_66 rfl ?_
    refine g_istore (lv' := [(4, .int (r5 - (r5 / (12 : Int32)) * (12 : Int32))), (0, .ref (zad Z 0)), (1, .int x1), (2, .int x2), (3, .int x3)]) C dX9_evenings_67 (by decide) rfl rfl ?_
    refine g_aload_n C rfl dX9_evenings_69 rfl ?_
    refine g_iload_n C rfl dX9_evenings_70 rfl ?_
    refine g_aload_n C rfl dX9_evenings_71 rfl ?_
    refine fg_X9_7R (k := 0) (p := 1) C rfl rfl dX9_evenings_72 rfl ?_
    refine g_iconst C ki_1 dX9_evenings_75 rfl ?_
    refine g_ialdx (k := 1) (j := 1) (x := (f6 1 1)) C rfl vi_1_264 kc_1 rfl dX9_evenings_76 rfl ?_
    refine g_iload C rfl dX9_evenings_77 rfl ?_
    refine g_iadd C dX9_evenings_79 rfl ?_
    have hs8 := h.1
    replace h := h.2
    refine g_callVI C tw_1029 tw_1031 tp_34 tw_10 tw_1032 hy_X9_goes (by decide) (by decide) rfl (Nat.le_of_ble_eq_true rfl) rfl rfl (ct_X9_goes V_l1 V_l2 V_m1   f6 x3 ((f6 1 1) + (r5 - (r5 / (12 : Int32)) * (12 : Int32))) hs8) dX9_evenings_80 rfl rfl (fun r9 f10 hp11 => ?_)
    replace h := h r9 f10 hp11
    refine g_istore (lv' := [(5, .int r9), (4, .int (r5 - (r5 / (12 : Int32)) * (12 : Int32))), (0, .ref (zad Z 0)), (1, .int x1), (2, .int x2), (3, .int x3)]) C dX9_evenings_83 (by decide) rfl rfl ?_
    refine g_iinc (lv' := [(3, .int (x3 + (1 : Int32))), (5, .int r9), (4, .int (r5 - (r5 / (12 : Int32)) * (12 : Int32))), (0, .ref (zad Z 0)), (1, .int x1), (2, .int x2)]) C dX9_evenings_85 rfl (inc_1 _) (by decide) rfl rfl ?_
    refine g_goto (q := 50) C dX9_evenings_88 (by decide) ?_
    refine g_lps [0, 1, 2, 3] rfl ?_
    exact hK50 _ _ _ _ h
set_option maxHeartbeats 4000000 in
set_option maxRecDepth 100000 in
theorem wk_X9_evenings_L50 (V_l1 : VC_l1) (V_l2 : VC_l2) (V_m1 : VC_m1) {Z : Zt}  (C : CX Z layM RX9 cX9_evenings 6 (some .int) 57)   {K43 : Fn → Int32 → Int32 → Prop} (hK43 : ∀ (f : Fn) (x1 : Int32) (x2 : Int32), K43 f x1 x2 → GG Z f [(0, .ref (zad Z 0)), (1, .int x1), (2, .int x2)] 43 []) (f : Fn) (x1 : Int32) (x2 : Int32) (x3 : Int32) (h : wp_X9_evenings_L50  K43 f x1 x2 x3 (zp Z)) : GG Z f [(0, .ref (zad Z 0)), (1, .int x1), (2, .int x2), (3, .int x3)] 50 [] := by
  obtain ⟨I, μ, h0, hs⟩ := h
  suffices H : ∀ (N : Nat) (f : Fn) (x1 : Int32) (x2 : Int32) (x3 : Int32), μ f x1 x2 x3 < N → I f x1 x2 x3 → GG Z f [(0, .ref (zad Z 0)), (1, .int x1), (2, .int x2), (3, .int x3)] 50 [] from H _ f x1 x2 x3 (Nat.lt_succ_self _) h0
  clear h0
  intro N
  induction N with
  | zero => intro f x1 x2 x3 hm; exact absurd hm (Nat.not_lt_zero _)
  | succ N ih =>
    intro f x1 x2 x3 hm hi
    exact wkb_X9_evenings_L50 V_l1 V_l2 V_m1  C   hK43 (fun f9 x19 x29 x39 hk => ih f9 x19 x29 x39 (Nat.lt_of_lt_of_le hk.2 (Nat.le_of_lt_succ hm)) hk.1) f x1 x2 x3 (hs f x1 x2 x3 hi)
set_option maxHeartbeats 4000000 in
set_option maxRecDepth 100000 in
theorem wkb_X9_evenings_L43 (V_l1 : VC_l1) (V_l2 : VC_l2) (V_m1 : VC_m1) {Z : Zt}  (C : CX Z layM RX9 cX9_evenings 6 (some .int) 57)   {K43 : Fn → Int32 → Int32 → Prop} (hK43 : ∀ (f : Fn) (x1 : Int32) (x2 : Int32), K43 f x1 x2 → GG Z f [(0, .ref (zad Z 0)), (1, .int x1), (2, .int x2)] 43 []) (f : Fn) (x1 : Int32) (x2 : Int32) (h : wpb_X9_evenings_L43   K43 f x1 x2 (zp Z)) : GG Z f [(0, .ref (zad Z 0)), (1, .int x1), (2, .int x2)] 43 [] := by
  refine g_iload_n C rfl dX9_evenings_43 rfl ?_
  refine g_iload_n C rfl dX9_evenings_44 rfl ?_
  refine g_icmp_ge (tgt := 108) C dX9_evenings_45 (by decide) rfl (fun hc3 => ?_) (fun hc3 => ?_)
  · replace h := h.1 hc3
    refine g_aload_n C rfl dX9_evenings_108 rfl ?_
    refine fg_X9_7R (k := 0) (p := 1) C rfl rfl dX9_evenings_109 rfl ?_
    refine g_iconst C ki_2 dX9_evenings_112 rfl ?_
    refine g_ialdx (k := 1) (j := 2) (x := (f 1 2)) C rfl vi_2_264 kc_2 rfl dX9_evenings_113 rfl ?_
    exact g_iret C dX9_evenings_114 h
  · replace h := h.2 hc3
    refine g_iconst C ki_0 dX9_evenings_48 rfl ?_
    refine g_istore_n (lv' := [(3, .int (0 : Int32)), (0, .ref (zad Z 0)), (1, .int x1), (2, .int x2)]) C dX9_evenings_49 (by decide) rfl rfl ?_
    refine g_lps [0, 1, 2, 3] rfl ?_
    exact wk_X9_evenings_L50 V_l1 V_l2 V_m1  C   hK43 _ _ _ _ h
set_option maxHeartbeats 4000000 in
set_option maxRecDepth 100000 in
theorem wk_X9_evenings_L43 (V_l1 : VC_l1) (V_l2 : VC_l2) (V_m1 : VC_m1) {Z : Zt}  (C : CX Z layM RX9 cX9_evenings 6 (some .int) 57)     (f : Fn) (x1 : Int32) (x2 : Int32) (h : wp_X9_evenings_L43   f x1 x2 (zp Z)) : GG Z f [(0, .ref (zad Z 0)), (1, .int x1), (2, .int x2)] 43 [] := by
  obtain ⟨I, μ, h0, hs⟩ := h
  suffices H : ∀ (N : Nat) (f : Fn) (x1 : Int32) (x2 : Int32), μ f x1 x2 < N → I f x1 x2 → GG Z f [(0, .ref (zad Z 0)), (1, .int x1), (2, .int x2)] 43 [] from H _ f x1 x2 (Nat.lt_succ_self _) h0
  clear h0
  intro N
  induction N with
  | zero => intro f x1 x2 hm; exact absurd hm (Nat.not_lt_zero _)
  | succ N ih =>
    intro f x1 x2 hm hi
    exact wkb_X9_evenings_L43 V_l1 V_l2 V_m1  C    (fun f9 x19 x29 hk => ih f9 x19 x29 (Nat.lt_of_lt_of_le hk.2 (Nat.le_of_lt_succ hm)) hk.1) f x1 x2 (hs f x1 x2 hi)
set_option maxHeartbeats 4000000 in
set_option maxRecDepth 100000 in
theorem wk_X9_evenings (V_l1 : VC_l1) (V_l2 : VC_l2) (V_m1 : VC_m1) {Z : Zt}  (C : CX Z layM RX9 cX9_evenings 6 (some .int) 57)     (f : Fn) (a1 : Int32) (h : wp_X9_evenings  f a1 (zp Z)) : GG Z f [(0, .ref (zad Z 0)), (1, .int a1)] 0 [] := by
  refine g_iload_n C rfl dX9_evenings_0 rfl ?_
  refine g_i2l C dX9_evenings_1 rfl ?_
  refine g_lconst C kl_1 dX9_evenings_2 rfl ?_
  refine g_ldc2 C tw_956 dX9_evenings_3 rfl ?_
  refine g_callSD C tw_878 tw_879 tw_10 tw_880 hy_X9_in (by decide) (by decide) rfl (Nat.le_of_ble_eq_true rfl) (ct_X9_in V_l1 V_l2 V_m1   f a1.toInt64 (1 : Int64) (40 : Int64) ) dX9_evenings_6 rfl rfl ?_
  refine g_if_ne (tgt := 18) C dX9_evenings_9 (by decide) rfl (fun hc1 => ?_) (fun hc1 => ?_)
  · replace h := h.1 hc1
    refine g_aload_n C rfl dX9_evenings_18 rfl ?_
    refine fg_X9_7R (k := 0) (p := 1) C rfl rfl dX9_evenings_19 rfl ?_
    refine g_iconst C ki_1 dX9_evenings_22 rfl ?_
    refine g_ialdx (k := 1) (j := 1) (x := (f 1 1)) C rfl vi_1_264 kc_1 rfl dX9_evenings_23 rfl ?_
    refine g_bipush C kb_12 dX9_evenings_24 rfl ?_
    refine g_iload_n C rfl dX9_evenings_26 rfl ?_
    refine g_imul C dX9_evenings_27 rfl ?_
    refine g_iadd C dX9_evenings_28 rfl ?_
    refine g_sipush C ks_9999 dX9_evenings_29 rfl ?_
    refine g_icmp_le (tgt := 41) C dX9_evenings_32 (by decide) rfl (fun hc2 => ?_) (fun hc2 => ?_)
    · replace h := h.1 hc2
      refine g_iconst C ki_0 dX9_evenings_41 rfl ?_
      refine g_istore_n (lv' := [(2, .int (0 : Int32)), (0, .ref (zad Z 0)), (1, .int a1)]) C dX9_evenings_42 (by decide) rfl rfl ?_
      refine g_lps [0, 1, 2] rfl ?_
      exact wk_X9_evenings_L43 V_l1 V_l2 V_m1  C    _ _ _ h
    · replace h := h.2 hc2
      refine g_aload_n C rfl dX9_evenings_35 rfl ?_
      refine g_iconst C ki_3 dX9_evenings_36 rfl ?_
      have hs12 := h.1
      replace h := h.2
      refine g_callVI C tw_881 tw_883 tp_15 tw_10 tw_884 hy_X9_finds (by decide) (by decide) rfl (Nat.le_of_ble_eq_true rfl) rfl rfl (ct_X9_finds V_l1 V_l2 V_m1   f (3 : Int32) hs12) dX9_evenings_37 rfl rfl (fun r13 f14 hp15 => ?_)
      replace h := h r13 f14 hp15
      exact g_iret C dX9_evenings_40 h
  · replace h := h.2 hc1
    refine g_aload_n C rfl dX9_evenings_12 rfl ?_
    refine g_iconst C ki_1 dX9_evenings_13 rfl ?_
    have hs16 := h.1
    replace h := h.2
    refine g_callVI C tw_881 tw_883 tp_15 tw_10 tw_884 hy_X9_finds (by decide) (by decide) rfl (Nat.le_of_ble_eq_true rfl) rfl rfl (ct_X9_finds V_l1 V_l2 V_m1   f (1 : Int32) hs16) dX9_evenings_14 rfl rfl (fun r17 f18 hp19 => ?_)
    replace h := h r17 f18 hp19
    exact g_iret C dX9_evenings_17 h
set_option maxRecDepth 100000 in
theorem ct_X9_evenings (V_l1 : VC_l1) (V_l2 : VC_l2) (V_m1 : VC_m1) {l : Launch} {E : Ev}   (f : Fn) (a1 : Int32) (hpre : Pre_X9_evenings f a1) : CT l E layM yX9_evenings cX9_evenings 6 (some .int) 57 [.ref (E.2.1 0), .int a1] f (pI (Post_X9_evenings f a1)) := by
  refine CT.of (by decide +kernel) (Nat.le_of_ble_eq_true rfl) (fun Z hl9 hE9 hp9 C => ?_)
  subst hl9
  subst hE9
  exact wk_X9_evenings V_l1 V_l2 V_m1 C   f a1 (by rw [hp9]; exact V_m1.2.2.2.2.2.2.2.2.2.2.2.2.2.2.2.2.2.2.2.2.2.2.2.2.2.2.2.2.2.2.2.2.2.2.2.2.2.2.2.2.2.2.2.2.2.2.1  f a1  hpre)
set_option maxHeartbeats 4000000 in
set_option maxRecDepth 100000 in
theorem wkb_X9_rest_L4 (V_l1 : VC_l1) (V_l2 : VC_l2) (V_m1 : VC_m1) {Z : Zt}  (C : CX Z layM RX9 cX9_rest 3 (some .int) 1)   {K4 : Fn → Int32 → Int32 → Prop} (hK4 : ∀ (f : Fn) (x1 : Int32) (x2 : Int32), K4 f x1 x2 → GG Z f [(0, .ref (zad Z 0)), (1, .int x1), (2, .int x2)] 4 []) (f : Fn) (x1 : Int32) (x2 : Int32) (h : wpb_X9_rest_L4   K4 f x1 x2 (zp Z)) : GG Z f [(0, .ref (zad Z 0)), (1, .int x1), (2, .int x2)] 4 [] := by
  refine g_iload_n C rfl dX9_rest_4 rfl ?_
  refine g_aload_n C rfl dX9_rest_5 rfl ?_
  refine fg_X9_7R (k := 0) (p := 1) C rfl rfl dX9_rest_6 rfl ?_
  refine g_iconst C ki_0 dX9_rest_9 rfl ?_
  refine g_ialdx (k := 1) (j := 0) (x := (f 1 0)) C rfl vi_0_264 kc_0 rfl dX9_rest_10 rfl ?_
  refine g_icmp_ge (tgt := 36) C dX9_rest_11 (by decide) rfl (fun hc1 => ?_) (fun hc1 => ?_)
  · replace h := h.1 hc1
    refine g_iload_n C rfl dX9_rest_36 rfl ?_
    exact g_iret C dX9_rest_37 h
  · replace h := h.2 hc1
    refine g_iload_n C rfl dX9_rest_14 rfl ?_
    refine g_aload_n C rfl dX9_rest_15 rfl ?_
    refine g_iload_n C rfl dX9_rest_16 rfl ?_
    refine g_iconst C ki_3 dX9_rest_17 rfl ?_
    have hs2 := h.1
    replace h := h.2
    refine g_callVD C tw_997 tw_999 tp_31 tw_10 tw_1000 hy_X9_of (by decide) (by decide) rfl (Nat.le_of_ble_eq_true rfl) rfl rfl (ct_X9_of V_l1 V_l2 V_m1   f x2 (3 : Int32) hs2) dX9_rest_18 rfl rfl ?_
    refine g_iadd C dX9_rest_21 rfl ?_
    refine g_istore_n (lv' := [(1, .int (x1 + (Val_X9_of f x2 (3 : Int32)))), (0, .ref (zad Z 0)), (2, .int x2)]) C dX9_rest_22 (by decide) rfl rfl ?_
    refine g_aload_n C rfl dX9_rest_23 rfl ?_
    refine g_iload_n C rfl dX9_rest_24 rfl ?_
    refine g_iconst C ki_3 dX9_rest_25 rfl ?_
    refine g_iconst C ki_0 dX9_rest_26 rfl ?_
    have hs3 := h.1
    replace h := h.2
    refine g_callVV C tw_980 tw_982 tp_28 tw_10 tw_983 hy_X9_sets (by decide) (by decide) rfl (Nat.le_of_ble_eq_true rfl) rfl rfl (ct_X9_sets V_l1 V_l2 V_m1   f x2 (3 : Int32) (0 : Int32) hs3) dX9_rest_27 rfl rfl (fun f4 hp5 => ?_)
    replace h := h f4 hp5
    refine g_iinc (lv' := [(2, .int (x2 + (1 : Int32))), (1, .int (x1 + (Val_X9_of f x2 (3 : Int32)))), (0, .ref (zad Z 0))]) C dX9_rest_30 rfl (inc_1 _) (by decide) rfl rfl ?_
    refine g_goto (q := 4) C dX9_rest_33 (by decide) ?_
    refine g_lps [0, 1, 2] rfl ?_
    exact hK4 _ _ _ h
set_option maxHeartbeats 4000000 in
set_option maxRecDepth 100000 in
theorem wk_X9_rest_L4 (V_l1 : VC_l1) (V_l2 : VC_l2) (V_m1 : VC_m1) {Z : Zt}  (C : CX Z layM RX9 cX9_rest 3 (some .int) 1)     (f : Fn) (x1 : Int32) (x2 : Int32) (h : wp_X9_rest_L4   f x1 x2 (zp Z)) : GG Z f [(0, .ref (zad Z 0)), (1, .int x1), (2, .int x2)] 4 [] := by
  obtain ⟨I, μ, h0, hs⟩ := h
  suffices H : ∀ (N : Nat) (f : Fn) (x1 : Int32) (x2 : Int32), μ f x1 x2 < N → I f x1 x2 → GG Z f [(0, .ref (zad Z 0)), (1, .int x1), (2, .int x2)] 4 [] from H _ f x1 x2 (Nat.lt_succ_self _) h0
  clear h0
  intro N
  induction N with
  | zero => intro f x1 x2 hm; exact absurd hm (Nat.not_lt_zero _)
  | succ N ih =>
    intro f x1 x2 hm hi
    exact wkb_X9_rest_L4 V_l1 V_l2 V_m1  C    (fun f9 x19 x29 hk => ih f9 x19 x29 (Nat.lt_of_lt_of_le hk.2 (Nat.le_of_lt_succ hm)) hk.1) f x1 x2 (hs f x1 x2 hi)
set_option maxHeartbeats 4000000 in
set_option maxRecDepth 100000 in
theorem wk_X9_rest (V_l1 : VC_l1) (V_l2 : VC_l2) (V_m1 : VC_m1) {Z : Zt}  (C : CX Z layM RX9 cX9_rest 3 (some .int) 1)     (f : Fn)  (h : wp_X9_rest  f  (zp Z)) : GG Z f [(0, .ref (zad Z 0))] 0 [] := by
  refine g_iconst C ki_0 dX9_rest_0 rfl ?_
  refine g_istore_n (lv' := [(1, .int (0 : Int32)), (0, .ref (zad Z 0))]) C dX9_rest_1 (by decide) rfl rfl ?_
  refine g_iconst C ki_0 dX9_rest_2 rfl ?_
  refine g_istore_n (lv' := [(2, .int (0 : Int32)), (1, .int (0 : Int32)), (0, .ref (zad Z 0))]) C dX9_rest_3 (by decide) rfl rfl ?_
  refine g_lps [0, 1, 2] rfl ?_
  exact wk_X9_rest_L4 V_l1 V_l2 V_m1  C    _ _ _ h
set_option maxRecDepth 100000 in
theorem ct_X9_rest (V_l1 : VC_l1) (V_l2 : VC_l2) (V_m1 : VC_m1) {l : Launch} {E : Ev}   (f : Fn)  (hpre : Pre_X9_rest f) : CT l E layM yX9_rest cX9_rest 3 (some .int) 1 [.ref (E.2.1 0)] f (pI (Post_X9_rest f)) := by
  refine CT.of (by decide +kernel) (Nat.le_of_ble_eq_true rfl) (fun Z hl9 hE9 hp9 C => ?_)
  subst hl9
  subst hE9
  exact wk_X9_rest V_l1 V_l2 V_m1 C   f  (by rw [hp9]; exact V_m1.2.2.2.2.2.2.2.2.2.2.2.2.2.2.2.2.2.2.2.2.2.2.2.2.2.2.2.2.2.2.2.2.2.2.2.2.2.2.2.2.2.2.2.2.2.2.2.1  f   hpre)
set_option maxHeartbeats 4000000 in
set_option maxRecDepth 100000 in
theorem wk_X9_isSoon (V_l1 : VC_l1) (V_l2 : VC_l2) (V_m1 : VC_m1) {Z : Zt}  (C : CX Z layM RX9 cX9_isSoon 1 (some .boolean) 1)     (f : Fn) (a1 : Int32) (h : wp_X9_isSoon  f a1 (zp Z)) : GG Z f [(0, .int a1)] 0 [] := by
  refine g_iload_n C rfl dX9_isSoon_0 rfl ?_
  refine g_i2l C dX9_isSoon_1 rfl ?_
  refine g_lconst C kl_0 dX9_isSoon_2 rfl ?_
  refine g_ldc2 C tw_957 dX9_isSoon_3 rfl ?_
  refine g_callSD C tw_878 tw_879 tw_10 tw_880 hy_X9_in (by decide) (by decide) rfl (Nat.le_of_ble_eq_true rfl) (ct_X9_in V_l1 V_l2 V_m1   f a1.toInt64 (0 : Int64) (60 : Int64) ) dX9_isSoon_6 rfl rfl ?_
  have hs1 := h.1
  replace h := h.2
  exact g_zret C hs1 dX9_isSoon_9 h
set_option maxRecDepth 100000 in
theorem ct_X9_isSoon (V_l1 : VC_l1) (V_l2 : VC_l2) (V_m1 : VC_m1) {l : Launch} {E : Ev}   (f : Fn) (a1 : Int32)  : CT l E layM yX9_isSoon cX9_isSoon 1 (some .boolean) 1 [.int a1] f (pI (fun r9 f9 => r9 = Val_X9_isSoon f a1 ∧ f9 = f)) := by
  refine CT.of (by decide +kernel) (Nat.le_of_ble_eq_true rfl) (fun Z hl9 hE9 hp9 C => ?_)
  subst hl9
  subst hE9
  exact wk_X9_isSoon V_l1 V_l2 V_m1 C   f a1 (by rw [hp9]; exact V_m1.2.2.2.2.2.2.2.2.2.2.2.2.2.2.2.2.2.2.2.2.2.2.2.2.2.2.2.2.2.2.2.2.2.2.2.2.2.2.2.2.2.2.2.2.2.2.2.2.1  f a1  )
set_option maxHeartbeats 4000000 in
set_option maxRecDepth 100000 in
theorem wk_X9_isSpan (V_l1 : VC_l1) (V_l2 : VC_l2) (V_m1 : VC_m1) {Z : Zt}  (C : CX Z layM RX9 cX9_isSpan 1 (some .boolean) 1)     (f : Fn) (a1 : Int32) (h : wp_X9_isSpan  f a1 (zp Z)) : GG Z f [(0, .int a1)] 0 [] := by
  refine g_iload_n C rfl dX9_isSpan_0 rfl ?_
  refine g_i2l C dX9_isSpan_1 rfl ?_
  refine g_lconst C kl_1 dX9_isSpan_2 rfl ?_
  refine g_ldc2 C tw_957 dX9_isSpan_3 rfl ?_
  refine g_callSD C tw_878 tw_879 tw_10 tw_880 hy_X9_in (by decide) (by decide) rfl (Nat.le_of_ble_eq_true rfl) (ct_X9_in V_l1 V_l2 V_m1   f a1.toInt64 (1 : Int64) (60 : Int64) ) dX9_isSpan_6 rfl rfl ?_
  have hs1 := h.1
  replace h := h.2
  exact g_zret C hs1 dX9_isSpan_9 h
set_option maxRecDepth 100000 in
theorem ct_X9_isSpan (V_l1 : VC_l1) (V_l2 : VC_l2) (V_m1 : VC_m1) {l : Launch} {E : Ev}   (f : Fn) (a1 : Int32)  : CT l E layM yX9_isSpan cX9_isSpan 1 (some .boolean) 1 [.int a1] f (pI (fun r9 f9 => r9 = Val_X9_isSpan f a1 ∧ f9 = f)) := by
  refine CT.of (by decide +kernel) (Nat.le_of_ble_eq_true rfl) (fun Z hl9 hE9 hp9 C => ?_)
  subst hl9
  subst hE9
  exact wk_X9_isSpan V_l1 V_l2 V_m1 C   f a1 (by rw [hp9]; exact V_m1.2.2.2.2.2.2.2.2.2.2.2.2.2.2.2.2.2.2.2.2.2.2.2.2.2.2.2.2.2.2.2.2.2.2.2.2.2.2.2.2.2.2.2.2.2.2.2.2.2.1  f a1  )
set_option maxHeartbeats 4000000 in
set_option maxRecDepth 100000 in
theorem wk_X9_then_L27 (V_l1 : VC_l1) (V_l2 : VC_l2) (V_m1 : VC_m1) {Z : Zt}  (C : CX Z layM RX9 cX9_then 4 (some .int) 56)     (f : Fn)  (h : wp_X9_then_L27   f  (zp Z)) : GG Z f [(0, .ref (zad Z 0))] 27 [] := by
  refine g_aload_n C rfl dX9_then_27 rfl ?_
  refine g_iconst C ki_1 dX9_then_28 rfl ?_
  have hs2 := h.1
  replace h := h.2
  refine g_callVI C tw_881 tw_883 tp_15 tw_10 tw_884 hy_X9_finds (by decide) (by decide) rfl (Nat.le_of_ble_eq_true rfl) rfl rfl (ct_X9_finds V_l1 V_l2 V_m1   f (1 : Int32) hs2) dX9_then_29 rfl rfl (fun r3 f4 hp5 => ?_)
  replace h := h r3 f4 hp5
  exact g_iret C dX9_then_32 h
set_option maxHeartbeats 4000000 in
set_option maxRecDepth 100000 in
theorem wk_X9_then (V_l1 : VC_l1) (V_l2 : VC_l2) (V_m1 : VC_m1) {Z : Zt}  (C : CX Z layM RX9 cX9_then 4 (some .int) 56)     (f : Fn) (a1 : Int32) (a2 : Int32) (a3 : Int32) (h : wp_X9_then  f a1 a2 a3 (zp Z)) : GG Z f [(0, .ref (zad Z 0)), (1, .int a1), (2, .int a2), (3, .int a3)] 0 [] := by
  refine g_aload_n C rfl dX9_then_0 rfl ?_
  refine g_iload_n C rfl dX9_then_1 rfl ?_
  refine g_callVD C tw_988 tw_990 tp_29 tw_10 tw_991 hy_X9_isFlyer (by decide) (by decide) rfl (Nat.le_of_ble_eq_true rfl) rfl rfl (ct_X9_isFlyer V_l1 V_l2 V_m1   f a1 ) dX9_then_2 rfl rfl ?_
  refine g_if_eq (tgt := 27) C dX9_then_5 (by decide) rfl (fun hc1 => ?_) (fun hc1 => ?_)
  · replace h := h.1 hc1
    refine g_lps [0] rfl ?_
    exact wk_X9_then_L27 V_l1 V_l2 V_m1  C    _  h
  · replace h := h.2 hc1
    refine g_iload_n C rfl dX9_then_8 rfl ?_
    refine g_callSD C tw_1082 tw_1083 tw_10 tw_1084 hy_X9_isSoon (by decide) (by decide) rfl (Nat.le_of_ble_eq_true rfl) (ct_X9_isSoon V_l1 V_l2 V_m1   f a2 ) dX9_then_9 rfl rfl ?_
    refine g_if_eq (tgt := 27) C dX9_then_12 (by decide) rfl (fun hc6 => ?_) (fun hc6 => ?_)
    · replace h := h.1 hc6
      refine g_lps [0] rfl ?_
      exact wk_X9_then_L27 V_l1 V_l2 V_m1  C    _  h
    · replace h := h.2 hc6
      refine g_iload_n C rfl dX9_then_15 rfl ?_
      refine g_i2l C dX9_then_16 rfl ?_
      refine g_lconst C kl_0 dX9_then_17 rfl ?_
      refine g_ldc2 C tw_955 dX9_then_18 rfl ?_
      refine g_callSD C tw_878 tw_879 tw_10 tw_880 hy_X9_in (by decide) (by decide) rfl (Nat.le_of_ble_eq_true rfl) (ct_X9_in V_l1 V_l2 V_m1   f a3.toInt64 (0 : Int64) (4 : Int64) ) dX9_then_21 rfl rfl ?_
      refine g_if_ne (tgt := 33) C dX9_then_24 (by decide) rfl (fun hc7 => ?_) (fun hc7 => ?_)
      · replace h := h.1 hc7
        refine g_aload_n C rfl dX9_then_33 rfl ?_
        refine g_iload_n C rfl dX9_then_34 rfl ?_
        refine g_aload_n C rfl dX9_then_35 rfl ?_
        refine fg_X9_7R (k := 0) (p := 1) C rfl rfl dX9_then_36 rfl ?_
        refine g_iconst C ki_1 dX9_then_39 rfl ?_
        refine g_ialdx (k := 1) (j := 1) (x := (f 1 1)) C rfl vi_1_264 kc_1 rfl dX9_then_40 rfl ?_
        refine g_iload_n C rfl dX9_then_41 rfl ?_
        refine g_iadd C dX9_then_42 rfl ?_
        have hs8 := h.1
        replace h := h.2
        refine g_callVV C tw_1033 tw_1035 tp_35 tw_10 tw_1036 hy_X9_isTold (by decide) (by decide) rfl (Nat.le_of_ble_eq_true rfl) rfl rfl (ct_X9_isTold V_l1 V_l2 V_m1   f a1 ((f 1 1) + a2) hs8) dX9_then_43 rfl rfl (fun f9 hp10 => ?_)
        replace h := h f9 hp10
        refine g_iload_n C rfl dX9_then_46 rfl ?_
        by_cases hk11_0 : a3 = (0 : Int32)
        · replace h := h.1 hk11_0
          refine g_tableIn (q := 76) (off := (29)) C dX9_then_47 (sw_in1 hk11_0 (by decide +kernel)) (sw_in2 hk11_0 (by decide +kernel)) (sw_ho hk11_0 (by decide +kernel)) (by decide) ?_
          refine g_aload_n C rfl dX9_then_76 rfl ?_
          have hs12 := h.1
          replace h := h.2
          refine g_callVD C tw_1045 tw_1047 tp_38 tw_10 tw_1048 hy_X9_offNow (by decide) (by decide) rfl (Nat.le_of_ble_eq_true rfl) rfl rfl (ct_X9_offNow V_l1 V_l2 V_m1   f9 hs12) dX9_then_77 rfl rfl ?_
          exact g_iret C dX9_then_80 h
        by_cases hk11_1 : a3 = (1 : Int32)
        · replace h := h.2.1 hk11_1
          refine g_tableIn (q := 81) (off := (34)) C dX9_then_47 (sw_in1 hk11_1 (by decide +kernel)) (sw_in2 hk11_1 (by decide +kernel)) (sw_ho hk11_1 (by decide +kernel)) (by decide) ?_
          refine g_aload_n C rfl dX9_then_81 rfl ?_
          refine g_iload_n C rfl dX9_then_82 rfl ?_
          have hs13 := h.1
          replace h := h.2
          refine g_callVD C tw_1041 tw_1043 tp_37 tw_10 tw_1044 hy_X9_isCaught (by decide) (by decide) rfl (Nat.le_of_ble_eq_true rfl) rfl rfl (ct_X9_isCaught V_l1 V_l2 V_m1   f9 a1 hs13) dX9_then_83 rfl rfl ?_
          refine g_if_eq (tgt := 93) C dX9_then_86 (by decide) rfl (fun hc14 => ?_) (fun hc14 => ?_)
          · replace h := h.1 hc14
            refine g_iconst C ki_0 dX9_then_93 rfl ?_
            exact g_iret C dX9_then_94 h
          · replace h := h.2 hc14
            refine g_iconst C ki_1 dX9_then_89 rfl ?_
            refine g_goto (q := 94) C dX9_then_90 (by decide) ?_
            exact g_iret C dX9_then_94 h
        by_cases hk11_2 : a3 = (2 : Int32)
        · replace h := h.2.2.1 hk11_2
          refine g_tableIn (q := 95) (off := (48)) C dX9_then_47 (sw_in1 hk11_2 (by decide +kernel)) (sw_in2 hk11_2 (by decide +kernel)) (sw_ho hk11_2 (by decide +kernel)) (by decide) ?_
          refine g_aload_n C rfl dX9_then_95 rfl ?_
          refine fg_X9_172I (k := 0) (x := (f9 0 11)) C rfl rfl rfl dX9_then_96 rfl ?_
          exact g_iret C dX9_then_99 h
        by_cases hk11_3 : a3 = (3 : Int32)
        · replace h := h.2.2.2.1 hk11_3
          refine g_tableIn (q := 100) (off := (53)) C dX9_then_47 (sw_in1 hk11_3 (by decide +kernel)) (sw_in2 hk11_3 (by decide +kernel)) (sw_ho hk11_3 (by decide +kernel)) (by decide) ?_
          refine g_aload_n C rfl dX9_then_100 rfl ?_
          refine fg_X9_175I (k := 0) (x := (f9 0 12)) C rfl rfl rfl dX9_then_101 rfl ?_
          exact g_iret C dX9_then_104 h
        replace h := h.2.2.2.2 ⟨hk11_0, hk11_1, hk11_2, hk11_3⟩
        refine g_tableOut (q := 105) C dX9_then_47 (sw_out [(0 : Int32), (1 : Int32), (2 : Int32), (3 : Int32)] 4 (fun k9 hk9 => by simp only [List.mem_cons, List.not_mem_nil, or_false] at hk9; rcases hk9 with rfl | rfl | rfl | rfl <;> assumption) (by decide +kernel) (by decide +kernel)) (by decide) ?_
        refine g_aload_n C rfl dX9_then_105 rfl ?_
        refine g_iload_n C rfl dX9_then_106 rfl ?_
        refine g_aload_n C rfl dX9_then_107 rfl ?_
        refine fg_X9_7R (k := 0) (p := 1) C rfl rfl dX9_then_108 rfl ?_
        refine g_bipush C kb_7 dX9_then_111 rfl ?_
        refine g_ialdx (k := 1) (j := 7) (x := (f9 1 7)) C rfl vi_7_264 kc_7 rfl dX9_then_113 rfl ?_
        have hs15 := h.1
        replace h := h.2
        refine g_callVD C tw_1056 tw_1058 tp_40 tw_10 tw_1059 hy_X9_fallHarm (by decide) (by decide) rfl (Nat.le_of_ble_eq_true rfl) rfl rfl (ct_X9_fallHarm V_l1 V_l2 V_m1   f9 a1 (f9 1 7) hs15) dX9_then_114 rfl rfl ?_
        exact g_iret C dX9_then_117 h
      · replace h := h.2 hc7
        refine g_lps [0] rfl ?_
        exact wk_X9_then_L27 V_l1 V_l2 V_m1  C    _  h
set_option maxRecDepth 100000 in
theorem ct_X9_then (V_l1 : VC_l1) (V_l2 : VC_l2) (V_m1 : VC_m1) {l : Launch} {E : Ev}   (f : Fn) (a1 : Int32) (a2 : Int32) (a3 : Int32) (hpre : Pre_X9_then f a1 a2 a3) : CT l E layM yX9_then cX9_then 4 (some .int) 56 [.ref (E.2.1 0), .int a1, .int a2, .int a3] f (pI (Post_X9_then f a1 a2 a3)) := by
  refine CT.of (by decide +kernel) (Nat.le_of_ble_eq_true rfl) (fun Z hl9 hE9 hp9 C => ?_)
  subst hl9
  subst hE9
  exact wk_X9_then V_l1 V_l2 V_m1 C   f a1 a2 a3 (by rw [hp9]; exact V_m1.2.2.2.2.2.2.2.2.2.2.2.2.2.2.2.2.2.2.2.2.2.2.2.2.2.2.2.2.2.2.2.2.2.2.2.2.2.2.2.2.2.2.2.2.2.2.2.2.2.2.1  f a1 a2 a3  hpre)
set_option maxHeartbeats 4000000 in
set_option maxRecDepth 100000 in
theorem wk_X9_findCan_L54 (V_l1 : VC_l1) (V_l2 : VC_l2) (V_m1 : VC_m1) {Z : Zt}  (C : CX Z layM RX9 cX9_findCan 4 none 56)   {K14 : Fn → Int32 → Int32 → Prop} (hK14 : ∀ (f : Fn) (x1 : Int32) (x3 : Int32), K14 f x1 x3 → GG Z f [(0, .ref (zad Z 0)), (1, .int x1), (3, .int x3)] 14 []) (f : Fn) (x1 : Int32) (x3 : Int32) (h : wp_X9_findCan_L54  K14 f x1 x3 (zp Z)) : GG Z f [(0, .ref (zad Z 0)), (1, .int x1), (3, .int x3)] 54 [] := by
  refine g_iinc (lv' := [(3, .int (x3 + (-1 : Int32))), (0, .ref (zad Z 0)), (1, .int x1)]) C dX9_findCan_54 rfl (inc_m1 _) (by decide) rfl rfl ?_
  refine g_goto (q := 14) C dX9_findCan_57 (by decide) ?_
  refine g_lps [0, 1, 3] rfl ?_
  exact hK14 _ _ _ h
set_option maxHeartbeats 4000000 in
set_option maxRecDepth 100000 in
theorem wkb_X9_findCan_L14 (V_l1 : VC_l1) (V_l2 : VC_l2) (V_m1 : VC_m1) {Z : Zt}  (C : CX Z layM RX9 cX9_findCan 4 none 56)   {K14 : Fn → Int32 → Int32 → Prop} (hK14 : ∀ (f : Fn) (x1 : Int32) (x3 : Int32), K14 f x1 x3 → GG Z f [(0, .ref (zad Z 0)), (1, .int x1), (3, .int x3)] 14 []) (f : Fn) (x1 : Int32) (x3 : Int32) (h : wpb_X9_findCan_L14   K14 f x1 x3 (zp Z)) : GG Z f [(0, .ref (zad Z 0)), (1, .int x1), (3, .int x3)] 14 [] := by
  refine g_iload_n C rfl dX9_findCan_14 rfl ?_
  refine g_if_lt (tgt := 60) C dX9_findCan_15 (by decide) rfl (fun hc1 => ?_) (fun hc1 => ?_)
  · replace h := h.1 hc1
    exact g_vret C dX9_findCan_60 h
  · replace h := h.2 hc1
    refine g_aload_n C rfl dX9_findCan_18 rfl ?_
    refine g_iload_n C rfl dX9_findCan_19 rfl ?_
    refine g_aload_n C rfl dX9_findCan_20 rfl ?_
    refine fg_X9_7R (k := 0) (p := 1) C rfl rfl dX9_findCan_21 rfl ?_
    refine g_iconst C ki_1 dX9_findCan_24 rfl ?_
    refine g_ialdx (k := 1) (j := 1) (x := (f 1 1)) C rfl vi_1_264 kc_1 rfl dX9_findCan_25 rfl ?_
    refine g_iload_n C rfl dX9_findCan_26 rfl ?_
    refine g_iadd C dX9_findCan_27 rfl ?_
    have hs2 := h.1
    replace h := h.2
    refine g_callVV C tw_1033 tw_1035 tp_35 tw_10 tw_1036 hy_X9_isTold (by decide) (by decide) rfl (Nat.le_of_ble_eq_true rfl) rfl rfl (ct_X9_isTold V_l1 V_l2 V_m1   f x1 ((f 1 1) + x3) hs2) dX9_findCan_28 rfl rfl (fun f3 hp4 => ?_)
    replace h := h f3 hp4
    refine g_aload_n C rfl dX9_findCan_31 rfl ?_
    refine g_iload_n C rfl dX9_findCan_32 rfl ?_
    have hs5 := h.1
    replace h := h.2
    refine g_callVD C tw_1041 tw_1043 tp_37 tw_10 tw_1044 hy_X9_isCaught (by decide) (by decide) rfl (Nat.le_of_ble_eq_true rfl) rfl rfl (ct_X9_isCaught V_l1 V_l2 V_m1   f3 x1 hs5) dX9_findCan_33 rfl rfl ?_
    refine g_if_eq (tgt := 54) C dX9_findCan_36 (by decide) rfl (fun hc6 => ?_) (fun hc6 => ?_)
    · replace h := h.1 hc6
      exact wk_X9_findCan_L54 V_l1 V_l2 V_m1  C   hK14 _ _ _ h
    · replace h := h.2 hc6
      refine g_aload_n C rfl dX9_findCan_39 rfl ?_
      refine g_dup C rfl dX9_findCan_40 rfl ?_
      refine fg_X9_211I (k := 0) (x := (f3 0 13)) C rfl rfl rfl dX9_findCan_41 rfl ?_
      refine g_iconst C ki_1 dX9_findCan_44 rfl ?_
      refine g_iadd C dX9_findCan_45 rfl ?_
      refine fp_X9_211 (k := 0) C rfl rfl (Nat.le_of_ble_eq_true rfl) dX9_findCan_46 rfl ?_
      refine g_aload_n C rfl dX9_findCan_49 rfl ?_
      refine g_iload_n C rfl dX9_findCan_50 rfl ?_
      refine fp_X9_214 (k := 0) C rfl rfl (Nat.le_of_ble_eq_true rfl) dX9_findCan_51 rfl ?_
      exact wk_X9_findCan_L54 V_l1 V_l2 V_m1  C   hK14 _ _ _ h
set_option maxHeartbeats 4000000 in
set_option maxRecDepth 100000 in
theorem wk_X9_findCan_L14 (V_l1 : VC_l1) (V_l2 : VC_l2) (V_m1 : VC_m1) {Z : Zt}  (C : CX Z layM RX9 cX9_findCan 4 none 56)     (f : Fn) (x1 : Int32) (x3 : Int32) (h : wp_X9_findCan_L14   f x1 x3 (zp Z)) : GG Z f [(0, .ref (zad Z 0)), (1, .int x1), (3, .int x3)] 14 [] := by
  obtain ⟨I, μ, h0, hs⟩ := h
  suffices H : ∀ (N : Nat) (f : Fn) (x1 : Int32) (x3 : Int32), μ f x1 x3 < N → I f x1 x3 → GG Z f [(0, .ref (zad Z 0)), (1, .int x1), (3, .int x3)] 14 [] from H _ f x1 x3 (Nat.lt_succ_self _) h0
  clear h0
  intro N
  induction N with
  | zero => intro f x1 x3 hm; exact absurd hm (Nat.not_lt_zero _)
  | succ N ih =>
    intro f x1 x3 hm hi
    exact wkb_X9_findCan_L14 V_l1 V_l2 V_m1  C    (fun f9 x19 x39 hk => ih f9 x19 x39 (Nat.lt_of_lt_of_le hk.2 (Nat.le_of_lt_succ hm)) hk.1) f x1 x3 (hs f x1 x3 hi)
set_option maxHeartbeats 4000000 in
set_option maxRecDepth 100000 in
theorem wk_X9_findCan (V_l1 : VC_l1) (V_l2 : VC_l2) (V_m1 : VC_m1) {Z : Zt}  (C : CX Z layM RX9 cX9_findCan 4 none 56)     (f : Fn) (a1 : Int32) (a2 : Int32) (h : wp_X9_findCan  f a1 a2 (zp Z)) : GG Z f [(0, .ref (zad Z 0)), (1, .int a1), (2, .int a2)] 0 [] := by
  refine g_aload_n C rfl dX9_findCan_0 rfl ?_
  refine g_iconst C ki_0 dX9_findCan_1 rfl ?_
  refine fp_X9_211 (k := 0) C rfl rfl (Nat.le_of_ble_eq_true rfl) dX9_findCan_2 rfl ?_
  refine g_aload_n C rfl dX9_findCan_5 rfl ?_
  refine g_iconst C ki_m1 dX9_findCan_6 rfl ?_
  refine fp_X9_214 (k := 0) C rfl rfl (Nat.le_of_ble_eq_true rfl) dX9_findCan_7 rfl ?_
  refine g_iload_n C rfl dX9_findCan_10 rfl ?_
  refine g_iconst C ki_1 dX9_findCan_11 rfl ?_
  refine g_isub C dX9_findCan_12 rfl ?_
  refine g_istore_n (lv' := [(3, .int (a2 - (1 : Int32))), (0, .ref (zad Z 0)), (1, .int a1), (2, .int a2)]) C dX9_findCan_13 (by decide) rfl rfl ?_
  refine g_lps [0, 1, 3] rfl ?_
  exact wk_X9_findCan_L14 V_l1 V_l2 V_m1  C    _ _ _ h
set_option maxRecDepth 100000 in
theorem ct_X9_findCan (V_l1 : VC_l1) (V_l2 : VC_l2) (V_m1 : VC_m1) {l : Launch} {E : Ev}   (f : Fn) (a1 : Int32) (a2 : Int32) (hpre : Pre_X9_findCan f a1 a2) : CT l E layM yX9_findCan cX9_findCan 4 none 56 [.ref (E.2.1 0), .int a1, .int a2] f (pV (Post_X9_findCan f a1 a2)) := by
  refine CT.of (by decide +kernel) (Nat.le_of_ble_eq_true rfl) (fun Z hl9 hE9 hp9 C => ?_)
  subst hl9
  subst hE9
  exact wk_X9_findCan V_l1 V_l2 V_m1 C   f a1 a2 (by rw [hp9]; exact V_m1.2.2.2.2.2.2.2.2.2.2.2.2.2.2.2.2.2.2.2.2.2.2.2.2.2.2.2.2.2.2.2.2.2.2.2.2.2.2.2.2.2.2.2.2.2.2.2.2.2.2.2.1  f a1 a2  hpre)
set_option maxHeartbeats 4000000 in
set_option maxRecDepth 100000 in
theorem wk_X9_can_L25 (V_l1 : VC_l1) (V_l2 : VC_l2) (V_m1 : VC_m1) {Z : Zt}  (C : CX Z layM RX9 cX9_can 4 (some .int) 57)     (f : Fn)  (h : wp_X9_can_L25   f  (zp Z)) : GG Z f [(0, .ref (zad Z 0))] 25 [] := by
  refine g_aload_n C rfl dX9_can_25 rfl ?_
  refine g_iconst C ki_1 dX9_can_26 rfl ?_
  have hs2 := h.1
  replace h := h.2
  refine g_callVI C tw_881 tw_883 tp_15 tw_10 tw_884 hy_X9_finds (by decide) (by decide) rfl (Nat.le_of_ble_eq_true rfl) rfl rfl (ct_X9_finds V_l1 V_l2 V_m1   f (1 : Int32) hs2) dX9_can_27 rfl rfl (fun r3 f4 hp5 => ?_)
  replace h := h r3 f4 hp5
  exact g_iret C dX9_can_30 h
set_option maxHeartbeats 4000000 in
set_option maxRecDepth 100000 in
theorem wk_X9_can (V_l1 : VC_l1) (V_l2 : VC_l2) (V_m1 : VC_m1) {Z : Zt}  (C : CX Z layM RX9 cX9_can 4 (some .int) 57)     (f : Fn) (a1 : Int32) (a2 : Int32) (a3 : Int32) (h : wp_X9_can  f a1 a2 a3 (zp Z)) : GG Z f [(0, .ref (zad Z 0)), (1, .int a1), (2, .int a2), (3, .int a3)] 0 [] := by
  refine g_aload_n C rfl dX9_can_0 rfl ?_
  refine g_iload_n C rfl dX9_can_1 rfl ?_
  refine g_callVD C tw_988 tw_990 tp_29 tw_10 tw_991 hy_X9_isFlyer (by decide) (by decide) rfl (Nat.le_of_ble_eq_true rfl) rfl rfl (ct_X9_isFlyer V_l1 V_l2 V_m1   f a1 ) dX9_can_2 rfl rfl ?_
  refine g_if_eq (tgt := 25) C dX9_can_5 (by decide) rfl (fun hc1 => ?_) (fun hc1 => ?_)
  · replace h := h.1 hc1
    refine g_lps [0] rfl ?_
    exact wk_X9_can_L25 V_l1 V_l2 V_m1  C    _  h
  · replace h := h.2 hc1
    refine g_iload_n C rfl dX9_can_8 rfl ?_
    refine g_callSD C tw_1089 tw_1090 tw_10 tw_1091 hy_X9_isSpan (by decide) (by decide) rfl (Nat.le_of_ble_eq_true rfl) (ct_X9_isSpan V_l1 V_l2 V_m1   f a2 ) dX9_can_9 rfl rfl ?_
    refine g_if_eq (tgt := 25) C dX9_can_12 (by decide) rfl (fun hc6 => ?_) (fun hc6 => ?_)
    · replace h := h.1 hc6
      refine g_lps [0] rfl ?_
      exact wk_X9_can_L25 V_l1 V_l2 V_m1  C    _  h
    · replace h := h.2 hc6
      refine g_iload_n C rfl dX9_can_15 rfl ?_
      refine g_i2l C dX9_can_16 rfl ?_
      refine g_lconst C kl_0 dX9_can_17 rfl ?_
      refine g_lconst C kl_1 dX9_can_18 rfl ?_
      refine g_callSD C tw_878 tw_879 tw_10 tw_880 hy_X9_in (by decide) (by decide) rfl (Nat.le_of_ble_eq_true rfl) (ct_X9_in V_l1 V_l2 V_m1   f a3.toInt64 (0 : Int64) (1 : Int64) ) dX9_can_19 rfl rfl ?_
      refine g_if_ne (tgt := 31) C dX9_can_22 (by decide) rfl (fun hc7 => ?_) (fun hc7 => ?_)
      · replace h := h.1 hc7
        refine g_aload_n C rfl dX9_can_31 rfl ?_
        refine g_iload_n C rfl dX9_can_32 rfl ?_
        refine g_iload_n C rfl dX9_can_33 rfl ?_
        have hs8 := h.1
        replace h := h.2
        refine g_callVV C tw_1092 tw_1094 tp_42 tw_10 tw_1095 hy_X9_findCan (by decide) (by decide) rfl (Nat.le_of_ble_eq_true rfl) rfl rfl (ct_X9_findCan V_l1 V_l2 V_m1   f a1 a2 hs8) dX9_can_34 rfl rfl (fun f9 hp10 => ?_)
        replace h := h f9 hp10
        refine g_iload_n C rfl dX9_can_37 rfl ?_
        refine g_if_ne (tgt := 46) C dX9_can_38 (by decide) rfl (fun hc11 => ?_) (fun hc11 => ?_)
        · replace h := h.1 hc11
          refine g_aload_n C rfl dX9_can_46 rfl ?_
          refine fg_X9_214I (k := 0) (x := (f9 0 14)) C rfl rfl rfl dX9_can_47 rfl ?_
          refine g_if_ge (tgt := 61) C dX9_can_50 (by decide) rfl (fun hc12 => ?_) (fun hc12 => ?_)
          · replace h := h.1 hc12
            refine g_aload_n C rfl dX9_can_61 rfl ?_
            refine fg_X9_214I (k := 0) (x := (f9 0 14)) C rfl rfl rfl dX9_can_62 rfl ?_
            exact g_iret C dX9_can_65 h
          · replace h := h.2 hc12
            refine g_aload_n C rfl dX9_can_53 rfl ?_
            refine g_iconst C ki_2 dX9_can_54 rfl ?_
            have hs13 := h.1
            replace h := h.2
            refine g_callVI C tw_881 tw_883 tp_15 tw_10 tw_884 hy_X9_finds (by decide) (by decide) rfl (Nat.le_of_ble_eq_true rfl) rfl rfl (ct_X9_finds V_l1 V_l2 V_m1   f9 (2 : Int32) hs13) dX9_can_55 rfl rfl (fun r14 f15 hp16 => ?_)
            replace h := h r14 f15 hp16
            refine g_goto (q := 65) C dX9_can_58 (by decide) ?_
            exact g_iret C dX9_can_65 h
        · replace h := h.2 hc11
          refine g_aload_n C rfl dX9_can_41 rfl ?_
          refine fg_X9_211I (k := 0) (x := (f9 0 13)) C rfl rfl rfl dX9_can_42 rfl ?_
          exact g_iret C dX9_can_45 h
      · replace h := h.2 hc7
        refine g_lps [0] rfl ?_
        exact wk_X9_can_L25 V_l1 V_l2 V_m1  C    _  h
set_option maxRecDepth 100000 in
theorem ct_X9_can (V_l1 : VC_l1) (V_l2 : VC_l2) (V_m1 : VC_m1) {l : Launch} {E : Ev}   (f : Fn) (a1 : Int32) (a2 : Int32) (a3 : Int32) (hpre : Pre_X9_can f a1 a2 a3) : CT l E layM yX9_can cX9_can 4 (some .int) 57 [.ref (E.2.1 0), .int a1, .int a2, .int a3] f (pI (Post_X9_can f a1 a2 a3)) := by
  refine CT.of (by decide +kernel) (Nat.le_of_ble_eq_true rfl) (fun Z hl9 hE9 hp9 C => ?_)
  subst hl9
  subst hE9
  exact wk_X9_can V_l1 V_l2 V_m1 C   f a1 a2 a3 (by rw [hp9]; exact V_m1.2.2.2.2.2.2.2.2.2.2.2.2.2.2.2.2.2.2.2.2.2.2.2.2.2.2.2.2.2.2.2.2.2.2.2.2.2.2.2.2.2.2.2.2.2.2.2.2.2.2.2.2.1  f a1 a2 a3  hpre)
set_option maxHeartbeats 4000000 in
set_option maxRecDepth 100000 in
theorem wk_X9_casesAt_L68 (V_l1 : VC_l1) (V_l2 : VC_l2) (V_m1 : VC_m1) {Z : Zt}  (C : CX Z layM RX9 cX9_casesAt 6 (some .int) 55)   {K5 : Fn → Int32 → Int32 → Int32 → Int32 → Prop} {K29 : Fn → Int32 → Int32 → Int32 → Int32 → Int32 → Prop} (hK5 : ∀ (f : Fn) (x1 : Int32) (x2 : Int32) (x3 : Int32) (x4 : Int32), K5 f x1 x2 x3 x4 → GG Z f [(0, .ref (zad Z 0)), (1, .int x1), (2, .int x2), (3, .int x3), (4, .int x4)] 5 []) (hK29 : ∀ (f : Fn) (x1 : Int32) (x2 : Int32) (x3 : Int32) (x4 : Int32) (x5 : Int32), K29 f x1 x2 x3 x4 x5 → GG Z f [(0, .ref (zad Z 0)), (1, .int x1), (2, .int x2), (3, .int x3), (4, .int x4), (5, .int x5)] 29 []) (f : Fn) (x1 : Int32) (x2 : Int32) (x4 : Int32) (x5 : Int32) (s0 : Int32) (s1 : Int32) (h : wp_X9_casesAt_L68  K5 K29 f x1 x2 x4 x5 s0 s1 (zp Z)) : GG Z f [(0, .ref (zad Z 0)), (1, .int x1), (2, .int x2), (4, .int x4), (5, .int x5)] 68 [.int s0, .int s1] := by
  refine g_iadd C dX9_casesAt_68 rfl ?_
  refine g_istore_n (lv' := [(3, .int (s1 + s0)), (0, .ref (zad Z 0)), (1, .int x1), (2, .int x2), (4, .int x4), (5, .int x5)]) C dX9_casesAt_69 (by decide) rfl rfl ?_
  refine g_iinc (lv' := [(5, .int (x5 + (1 : Int32))), (3, .int (s1 + s0)), (0, .ref (zad Z 0)), (1, .int x1), (2, .int x2), (4, .int x4)]) C dX9_casesAt_70 rfl (inc_1 _) (by decide) rfl rfl ?_
  refine g_goto (q := 29) C dX9_casesAt_73 (by decide) ?_
  refine g_lps [0, 1, 2, 3, 4, 5] rfl ?_
  exact hK29 _ _ _ _ _ _ h
set_option maxHeartbeats 4000000 in
set_option maxRecDepth 100000 in
theorem wkb_X9_casesAt_L29 (V_l1 : VC_l1) (V_l2 : VC_l2) (V_m1 : VC_m1) {Z : Zt}  (C : CX Z layM RX9 cX9_casesAt 6 (some .int) 55)   {K5 : Fn → Int32 → Int32 → Int32 → Int32 → Prop} {K29 : Fn → Int32 → Int32 → Int32 → Int32 → Int32 → Prop} (hK5 : ∀ (f : Fn) (x1 : Int32) (x2 : Int32) (x3 : Int32) (x4 : Int32), K5 f x1 x2 x3 x4 → GG Z f [(0, .ref (zad Z 0)), (1, .int x1), (2, .int x2), (3, .int x3), (4, .int x4)] 5 []) (hK29 : ∀ (f : Fn) (x1 : Int32) (x2 : Int32) (x3 : Int32) (x4 : Int32) (x5 : Int32), K29 f x1 x2 x3 x4 x5 → GG Z f [(0, .ref (zad Z 0)), (1, .int x1), (2, .int x2), (3, .int x3), (4, .int x4), (5, .int x5)] 29 []) (f : Fn) (x1 : Int32) (x2 : Int32) (x3 : Int32) (x4 : Int32) (x5 : Int32) (h : wpb_X9_casesAt_L29  K5 K29 f x1 x2 x3 x4 x5 (zp Z)) : GG Z f [(0, .ref (zad Z 0)), (1, .int x1), (2, .int x2), (3, .int x3), (4, .int x4), (5, .int x5)] 29 [] := by
  refine g_iload C rfl dX9_casesAt_29 rfl ?_
  refine g_iconst C ki_1 dX9_casesAt_31 rfl ?_
  refine g_icmp_gt (tgt := 76) C dX9_casesAt_32 (by decide) rfl (fun hc6 => ?_) (fun hc6 => ?_)
  · replace h := h.1 hc6
    refine g_iinc (lv' := [(4, .int (x4 + (1 : Int32))), (0, .ref (zad Z 0)), (1, .int x1), (2, .int x2), (3, .int x3), (5, .int x5)]) C dX9_casesAt_76 rfl (inc_1 _) (by decide) rfl rfl ?_
    refine g_goto (q := 5) C dX9_casesAt_79 (by decide) ?_
    refine g_lps [0, 1, 2, 3, 4] rfl ?_
    exact hK5 _ _ _ _ _ h
  · replace h := h.2 hc6
    refine g_iload_n C rfl dX9_casesAt_35 rfl ?_
    refine g_aload_n C rfl dX9_casesAt_36 rfl ?_
    refine fg_X9_175I (k := 0) (x := (f 0 12)) C rfl rfl rfl dX9_casesAt_37 rfl ?_
    refine g_aload_n C rfl dX9_casesAt_40 rfl ?_
    refine g_aload_n C rfl dX9_casesAt_41 rfl ?_
    refine fg_X9_172I (k := 0) (x := (f 0 11)) C rfl rfl rfl dX9_casesAt_42 rfl ?_
    refine g_iload C rfl dX9_casesAt_45 rfl ?_
    refine g_iadd C dX9_casesAt_47 rfl ?_
    have hs7 := h.1
    replace h := h.2
    refine g_callVD C tw_1049 tw_1051 tp_39 tw_10 tw_1052 hy_X9_catcherAt (by decide) (by decide) rfl (Nat.le_of_ble_eq_true rfl) rfl rfl (ct_X9_catcherAt V_l1 V_l2 V_m1   f ((f 0 11) + x5) hs7) dX9_casesAt_48 rfl rfl ?_
    refine g_isub C dX9_casesAt_51 rfl ?_
    refine g_callSD C tw_1053 tw_1054 tw_10 tw_1055 hy_X9_size0 (by decide) (by decide) rfl (Nat.le_of_ble_eq_true rfl) (ct_X9_size0 V_l1 V_l2 V_m1   f ((f 0 12) - (Val_X9_catcherAt f ((f 0 11) + x5))) ) dX9_casesAt_52 rfl rfl ?_
    refine g_aload_n C rfl dX9_casesAt_55 rfl ?_
    refine g_iload_n C rfl dX9_casesAt_56 rfl ?_
    have hs8 := h.1
    replace h := h.2
    refine g_callVD C tw_1001 tw_1003 tp_32 tw_10 tw_1004 hy_X9_holdsOf (by decide) (by decide) rfl (Nat.le_of_ble_eq_true rfl) rfl rfl (ct_X9_holdsOf V_l1 V_l2 V_m1   f x1 hs8) dX9_casesAt_57 rfl rfl ?_
    refine g_icmp_gt (tgt := 67) C dX9_casesAt_60 (by decide) rfl (fun hc9 => ?_) (fun hc9 => ?_)
    · replace h := h.1 hc9
      refine g_iconst C ki_0 dX9_casesAt_67 rfl ?_
      refine g_lps [0, 1, 2, 4, 5] rfl ?_
      exact wk_X9_casesAt_L68 V_l1 V_l2 V_m1  C   hK5 hK29 _ _ _ _ _ _ _ h
    · replace h := h.2 hc9
      refine g_iconst C ki_1 dX9_casesAt_63 rfl ?_
      refine g_goto (q := 68) C dX9_casesAt_64 (by decide) ?_
      refine g_lps [0, 1, 2, 4, 5] rfl ?_
      exact wk_X9_casesAt_L68 V_l1 V_l2 V_m1  C   hK5 hK29 _ _ _ _ _ _ _ h
set_option maxHeartbeats 4000000 in
set_option maxRecDepth 100000 in
theorem wk_X9_casesAt_L29 (V_l1 : VC_l1) (V_l2 : VC_l2) (V_m1 : VC_m1) {Z : Zt}  (C : CX Z layM RX9 cX9_casesAt 6 (some .int) 55)   {K5 : Fn → Int32 → Int32 → Int32 → Int32 → Prop} (hK5 : ∀ (f : Fn) (x1 : Int32) (x2 : Int32) (x3 : Int32) (x4 : Int32), K5 f x1 x2 x3 x4 → GG Z f [(0, .ref (zad Z 0)), (1, .int x1), (2, .int x2), (3, .int x3), (4, .int x4)] 5 []) (f : Fn) (x1 : Int32) (x2 : Int32) (x3 : Int32) (x4 : Int32) (x5 : Int32) (h : wp_X9_casesAt_L29  K5 f x1 x2 x3 x4 x5 (zp Z)) : GG Z f [(0, .ref (zad Z 0)), (1, .int x1), (2, .int x2), (3, .int x3), (4, .int x4), (5, .int x5)] 29 [] := by
  obtain ⟨I, μ, h0, hs⟩ := h
  suffices H : ∀ (N : Nat) (f : Fn) (x1 : Int32) (x2 : Int32) (x3 : Int32) (x4 : Int32) (x5 : Int32), μ f x1 x2 x3 x4 x5 < N → I f x1 x2 x3 x4 x5 → GG Z f [(0, .ref (zad Z 0)), (1, .int x1), (2, .int x2), (3, .int x3), (4, .int x4), (5, .int x5)] 29 [] from H _ f x1 x2 x3 x4 x5 (Nat.lt_succ_self _) h0
  clear h0
  intro N
  induction N with
  | zero => intro f x1 x2 x3 x4 x5 hm; exact absurd hm (Nat.not_lt_zero _)
  | succ N ih =>
    intro f x1 x2 x3 x4 x5 hm hi
    exact wkb_X9_casesAt_L29 V_l1 V_l2 V_m1  C   hK5 (fun f9 x19 x29 x39 x49 x59 hk => ih f9 x19 x29 x39 x49 x59 (Nat.lt_of_lt_of_le hk.2 (Nat.le_of_lt_succ hm)) hk.1) f x1 x2 x3 x4 x5 (hs f x1 x2 x3 x4 x5 hi)
set_option maxHeartbeats 4000000 in
set_option maxRecDepth 100000 in
theorem wkb_X9_casesAt_L5 (V_l1 : VC_l1) (V_l2 : VC_l2) (V_m1 : VC_m1) {Z : Zt}  (C : CX Z layM RX9 cX9_casesAt 6 (some .int) 55)   {K5 : Fn → Int32 → Int32 → Int32 → Int32 → Prop} (hK5 : ∀ (f : Fn) (x1 : Int32) (x2 : Int32) (x3 : Int32) (x4 : Int32), K5 f x1 x2 x3 x4 → GG Z f [(0, .ref (zad Z 0)), (1, .int x1), (2, .int x2), (3, .int x3), (4, .int x4)] 5 []) (f : Fn) (x1 : Int32) (x2 : Int32) (x3 : Int32) (x4 : Int32) (h : wpb_X9_casesAt_L5   K5 f x1 x2 x3 x4 (zp Z)) : GG Z f [(0, .ref (zad Z 0)), (1, .int x1), (2, .int x2), (3, .int x3), (4, .int x4)] 5 [] := by
  refine g_iload C rfl dX9_casesAt_5 rfl ?_
  refine g_iconst C ki_1 dX9_casesAt_7 rfl ?_
  refine g_icmp_gt (tgt := 82) C dX9_casesAt_8 (by decide) rfl (fun hc1 => ?_) (fun hc1 => ?_)
  · replace h := h.1 hc1
    refine g_iload_n C rfl dX9_casesAt_82 rfl ?_
    exact g_iret C dX9_casesAt_83 h
  · replace h := h.2 hc1
    refine g_aload_n C rfl dX9_casesAt_11 rfl ?_
    refine g_iload_n C rfl dX9_casesAt_12 rfl ?_
    refine g_iload_n C rfl dX9_casesAt_13 rfl ?_
    refine g_aload_n C rfl dX9_casesAt_14 rfl ?_
    refine g_iload_n C rfl dX9_casesAt_15 rfl ?_
    have hs2 := h.1
    replace h := h.2
    refine g_callVD C tw_993 tw_995 tp_30 tw_10 tw_996 hy_X9_lagOf (by decide) (by decide) rfl (Nat.le_of_ble_eq_true rfl) rfl rfl (ct_X9_lagOf V_l1 V_l2 V_m1   f x1 hs2) dX9_casesAt_16 rfl rfl ?_
    refine g_iadd C dX9_casesAt_19 rfl ?_
    refine g_iload C rfl dX9_casesAt_20 rfl ?_
    refine g_iadd C dX9_casesAt_22 rfl ?_
    have hs3 := h.1
    replace h := h.2
    refine g_callVV C tw_1037 tw_1039 tp_36 tw_10 tw_1040 hy_X9_letsGo (by decide) (by decide) rfl (Nat.le_of_ble_eq_true rfl) rfl rfl (ct_X9_letsGo V_l1 V_l2 V_m1   f x1 ((x2 + (Val_X9_lagOf f x1)) + x4) hs3) dX9_casesAt_23 rfl rfl (fun f4 hp5 => ?_)
    replace h := h f4 hp5
    refine g_iconst C ki_m1 dX9_casesAt_26 rfl ?_
    refine g_istore (lv' := [(5, .int (-1 : Int32)), (0, .ref (zad Z 0)), (1, .int x1), (2, .int x2), (3, .int x3), (4, .int x4)]) C dX9_casesAt_27 (by decide) rfl rfl ?_
    refine g_lps [0, 1, 2, 3, 4, 5] rfl ?_
    exact wk_X9_casesAt_L29 V_l1 V_l2 V_m1  C   hK5 _ _ _ _ _ _ h
set_option maxHeartbeats 4000000 in
set_option maxRecDepth 100000 in
theorem wk_X9_casesAt_L5 (V_l1 : VC_l1) (V_l2 : VC_l2) (V_m1 : VC_m1) {Z : Zt}  (C : CX Z layM RX9 cX9_casesAt 6 (some .int) 55)     (f : Fn) (x1 : Int32) (x2 : Int32) (x3 : Int32) (x4 : Int32) (h : wp_X9_casesAt_L5   f x1 x2 x3 x4 (zp Z)) : GG Z f [(0, .ref (zad Z 0)), (1, .int x1), (2, .int x2), (3, .int x3), (4, .int x4)] 5 [] := by
  obtain ⟨I, μ, h0, hs⟩ := h
  suffices H : ∀ (N : Nat) (f : Fn) (x1 : Int32) (x2 : Int32) (x3 : Int32) (x4 : Int32), μ f x1 x2 x3 x4 < N → I f x1 x2 x3 x4 → GG Z f [(0, .ref (zad Z 0)), (1, .int x1), (2, .int x2), (3, .int x3), (4, .int x4)] 5 [] from H _ f x1 x2 x3 x4 (Nat.lt_succ_self _) h0
  clear h0
  intro N
  induction N with
  | zero => intro f x1 x2 x3 x4 hm; exact absurd hm (Nat.not_lt_zero _)
  | succ N ih =>
    intro f x1 x2 x3 x4 hm hi
    exact wkb_X9_casesAt_L5 V_l1 V_l2 V_m1  C    (fun f9 x19 x29 x39 x49 hk => ih f9 x19 x29 x39 x49 (Nat.lt_of_lt_of_le hk.2 (Nat.le_of_lt_succ hm)) hk.1) f x1 x2 x3 x4 (hs f x1 x2 x3 x4 hi)
set_option maxHeartbeats 4000000 in
set_option maxRecDepth 100000 in
theorem wk_X9_casesAt (V_l1 : VC_l1) (V_l2 : VC_l2) (V_m1 : VC_m1) {Z : Zt}  (C : CX Z layM RX9 cX9_casesAt 6 (some .int) 55)     (f : Fn) (a1 : Int32) (a2 : Int32) (h : wp_X9_casesAt  f a1 a2 (zp Z)) : GG Z f [(0, .ref (zad Z 0)), (1, .int a1), (2, .int a2)] 0 [] := by
  refine g_iconst C ki_0 dX9_casesAt_0 rfl ?_
  refine g_istore_n (lv' := [(3, .int (0 : Int32)), (0, .ref (zad Z 0)), (1, .int a1), (2, .int a2)]) C dX9_casesAt_1 (by decide) rfl rfl ?_
  refine g_iconst C ki_m1 dX9_casesAt_2 rfl ?_
  refine g_istore (lv' := [(4, .int (-1 : Int32)), (3, .int (0 : Int32)), (0, .ref (zad Z 0)), (1, .int a1), (2, .int a2)]) C dX9_casesAt_3 (by decide) rfl rfl ?_
  refine g_lps [0, 1, 2, 3, 4] rfl ?_
  exact wk_X9_casesAt_L5 V_l1 V_l2 V_m1  C    _ _ _ _ _ h
set_option maxRecDepth 100000 in
theorem ct_X9_casesAt (V_l1 : VC_l1) (V_l2 : VC_l2) (V_m1 : VC_m1) {l : Launch} {E : Ev}   (f : Fn) (a1 : Int32) (a2 : Int32) (hpre : Pre_X9_casesAt f a1 a2) : CT l E layM yX9_casesAt cX9_casesAt 6 (some .int) 55 [.ref (E.2.1 0), .int a1, .int a2] f (pI (Post_X9_casesAt f a1 a2)) := by
  refine CT.of (by decide +kernel) (Nat.le_of_ble_eq_true rfl) (fun Z hl9 hE9 hp9 C => ?_)
  subst hl9
  subst hE9
  exact wk_X9_casesAt V_l1 V_l2 V_m1 C   f a1 a2 (by rw [hp9]; exact V_m1.2.2.2.2.2.2.2.2.2.2.2.2.2.2.2.2.2.2.2.2.2.2.2.2.2.2.2.2.2.2.2.2.2.2.2.2.2.2.2.2.2.2.2.2.2.2.2.2.2.2.2.2.2.1  f a1 a2  hpre)
set_option maxHeartbeats 4000000 in
set_option maxRecDepth 100000 in
theorem wk_X9_surestOf_L58 (V_l1 : VC_l1) (V_l2 : VC_l2) (V_m1 : VC_m1) {Z : Zt}  (C : CX Z layM RX9 cX9_surestOf 7 (some .int) 56)   {K8 : Fn → Int32 → Int32 → Int32 → Int32 → Int32 → Prop} (hK8 : ∀ (f : Fn) (x1 : Int32) (x2 : Int32) (x3 : Int32) (x4 : Int32) (x5 : Int32), K8 f x1 x2 x3 x4 x5 → GG Z f [(0, .ref (zad Z 0)), (1, .int x1), (2, .int x2), (3, .int x3), (4, .int x4), (5, .int x5)] 8 []) (f : Fn) (x1 : Int32) (x2 : Int32) (x3 : Int32) (x5 : Int32) (s0 : Int32) (h : wp_X9_surestOf_L58  K8 f x1 x2 x3 x5 s0 (zp Z)) : GG Z f [(0, .ref (zad Z 0)), (1, .int x1), (2, .int x2), (3, .int x3), (5, .int x5)] 58 [.int s0] := by
  refine g_istore (lv' := [(4, .int s0), (0, .ref (zad Z 0)), (1, .int x1), (2, .int x2), (3, .int x3), (5, .int x5)]) C dX9_surestOf_58 (by decide) rfl rfl ?_
  refine g_iinc (lv' := [(5, .int (x5 + (1 : Int32))), (4, .int s0), (0, .ref (zad Z 0)), (1, .int x1), (2, .int x2), (3, .int x3)]) C dX9_surestOf_60 rfl (inc_1 _) (by decide) rfl rfl ?_
  refine g_goto (q := 8) C dX9_surestOf_63 (by decide) ?_
  refine g_lps [0, 1, 2, 3, 4, 5] rfl ?_
  exact hK8 _ _ _ _ _ _ h
set_option maxHeartbeats 4000000 in
set_option maxRecDepth 100000 in
theorem wk_X9_surestOf_L43 (V_l1 : VC_l1) (V_l2 : VC_l2) (V_m1 : VC_m1) {Z : Zt}  (C : CX Z layM RX9 cX9_surestOf 7 (some .int) 56)   {K8 : Fn → Int32 → Int32 → Int32 → Int32 → Int32 → Prop} (hK8 : ∀ (f : Fn) (x1 : Int32) (x2 : Int32) (x3 : Int32) (x4 : Int32) (x5 : Int32), K8 f x1 x2 x3 x4 x5 → GG Z f [(0, .ref (zad Z 0)), (1, .int x1), (2, .int x2), (3, .int x3), (4, .int x4), (5, .int x5)] 8 []) (f : Fn) (x1 : Int32) (x2 : Int32) (x4 : Int32) (x5 : Int32) (x6 : Int32) (s0 : Int32) (h : wp_X9_surestOf_L43  K8 f x1 x2 x4 x5 x6 s0 (zp Z)) : GG Z f [(0, .ref (zad Z 0)), (1, .int x1), (2, .int x2), (4, .int x4), (5, .int x5), (6, .int x6)] 43 [.int s0] := by
  refine g_istore_n (lv' := [(3, .int s0), (0, .ref (zad Z 0)), (1, .int x1), (2, .int x2), (4, .int x4), (5, .int x5), (6, .int x6)]) C dX9_surestOf_43 (by decide) rfl rfl ?_
  refine g_iload C rfl dX9_surestOf_44 rfl ?_
  refine g_iload C rfl dX9_surestOf_46 rfl ?_
  refine g_icmp_le (tgt := 56) C dX9_surestOf_48 (by decide) rfl (fun hc7 => ?_) (fun hc7 => ?_)
  · replace h := h.1 hc7
    refine g_iload C rfl dX9_surestOf_56 rfl ?_
    refine g_lps [0, 1, 2, 3, 5] rfl ?_
    exact wk_X9_surestOf_L58 V_l1 V_l2 V_m1  C   hK8 _ _ _ _ _ _ h
  · replace h := h.2 hc7
    refine g_iload C rfl dX9_surestOf_51 rfl ?_
    refine g_goto (q := 58) C dX9_surestOf_53 (by decide) ?_
    refine g_lps [0, 1, 2, 3, 5] rfl ?_
    exact wk_X9_surestOf_L58 V_l1 V_l2 V_m1  C   hK8 _ _ _ _ _ _ h
set_option maxHeartbeats 4000000 in
set_option maxRecDepth 100000 in
theorem wkb_X9_surestOf_L8 (V_l1 : VC_l1) (V_l2 : VC_l2) (V_m1 : VC_m1) {Z : Zt}  (C : CX Z layM RX9 cX9_surestOf 7 (some .int) 56)   {K8 : Fn → Int32 → Int32 → Int32 → Int32 → Int32 → Prop} (hK8 : ∀ (f : Fn) (x1 : Int32) (x2 : Int32) (x3 : Int32) (x4 : Int32) (x5 : Int32), K8 f x1 x2 x3 x4 x5 → GG Z f [(0, .ref (zad Z 0)), (1, .int x1), (2, .int x2), (3, .int x3), (4, .int x4), (5, .int x5)] 8 []) (f : Fn) (x1 : Int32) (x2 : Int32) (x3 : Int32) (x4 : Int32) (x5 : Int32) (h : wpb_X9_surestOf_L8   K8 f x1 x2 x3 x4 x5 (zp Z)) : GG Z f [(0, .ref (zad Z 0)), (1, .int x1), (2, .int x2), (3, .int x3), (4, .int x4), (5, .int x5)] 8 [] := by
  refine g_iload C rfl dX9_surestOf_8 rfl ?_
  refine g_iload_n C rfl dX9_surestOf_10 rfl ?_
  refine g_icmp_ge (tgt := 66) C dX9_surestOf_11 (by decide) rfl (fun hc1 => ?_) (fun hc1 => ?_)
  · replace h := h.1 hc1
    refine g_iload_n C rfl dX9_surestOf_66 rfl ?_
    exact g_iret C dX9_surestOf_67 h
  · replace h := h.2 hc1
    refine g_aload_n C rfl dX9_surestOf_14 rfl ?_
    refine g_iload_n C rfl dX9_surestOf_15 rfl ?_
    refine g_aload_n C rfl dX9_surestOf_16 rfl ?_
    refine fg_X9_7R (k := 0) (p := 1) C rfl rfl dX9_surestOf_17 rfl ?_
    refine g_iconst C ki_1 dX9_surestOf_20 rfl ?_
    refine g_ialdx (k := 1) (j := 1) (x := (f 1 1)) C rfl vi_1_264 kc_1 rfl dX9_surestOf_21 rfl ?_
    refine g_iload C rfl dX9_surestOf_22 rfl ?_
    refine g_iadd C dX9_surestOf_24 rfl ?_
    have hs2 := h.1
    replace h := h.2
    refine g_callVI C tw_1104 tw_1106 tp_44 tw_10 tw_1107 hy_X9_casesAt (by decide) (by decide) rfl (Nat.le_of_ble_eq_true rfl) rfl rfl (ct_X9_casesAt V_l1 V_l2 V_m1   f x1 ((f 1 1) + x5) hs2) dX9_surestOf_25 rfl rfl (fun r3 f4 hp5 => ?_)
    replace h := h r3 f4 hp5
    refine g_istore (lv' := [(6, .int r3), (0, .ref (zad Z 0)), (1, .int x1), (2, .int x2), (3, .int x3), (4, .int x4), (5, .int x5)]) C dX9_surestOf_28 (by decide) rfl rfl ?_
    refine g_iload C rfl dX9_surestOf_30 rfl ?_
    refine g_iload C rfl dX9_surestOf_32 rfl ?_
    refine g_icmp_le (tgt := 42) C dX9_surestOf_34 (by decide) rfl (fun hc6 => ?_) (fun hc6 => ?_)
    · replace h := h.1 hc6
      refine g_iload_n C rfl dX9_surestOf_42 rfl ?_
      refine g_lps [0, 1, 2, 4, 5, 6] rfl ?_
      exact wk_X9_surestOf_L43 V_l1 V_l2 V_m1  C   hK8 _ _ _ _ _ _ _ h
    · replace h := h.2 hc6
      refine g_iload C rfl dX9_surestOf_37 rfl ?_
      refine g_goto (q := 43) C dX9_surestOf_39 (by decide) ?_
      refine g_lps [0, 1, 2, 4, 5, 6] rfl ?_
      exact wk_X9_surestOf_L43 V_l1 V_l2 V_m1  C   hK8 _ _ _ _ _ _ _ h
set_option maxHeartbeats 4000000 in
set_option maxRecDepth 100000 in
theorem wk_X9_surestOf_L8 (V_l1 : VC_l1) (V_l2 : VC_l2) (V_m1 : VC_m1) {Z : Zt}  (C : CX Z layM RX9 cX9_surestOf 7 (some .int) 56)     (f : Fn) (x1 : Int32) (x2 : Int32) (x3 : Int32) (x4 : Int32) (x5 : Int32) (h : wp_X9_surestOf_L8   f x1 x2 x3 x4 x5 (zp Z)) : GG Z f [(0, .ref (zad Z 0)), (1, .int x1), (2, .int x2), (3, .int x3), (4, .int x4), (5, .int x5)] 8 [] := by
  obtain ⟨I, μ, h0, hs⟩ := h
  suffices H : ∀ (N : Nat) (f : Fn) (x1 : Int32) (x2 : Int32) (x3 : Int32) (x4 : Int32) (x5 : Int32), μ f x1 x2 x3 x4 x5 < N → I f x1 x2 x3 x4 x5 → GG Z f [(0, .ref (zad Z 0)), (1, .int x1), (2, .int x2), (3, .int x3), (4, .int x4), (5, .int x5)] 8 [] from H _ f x1 x2 x3 x4 x5 (Nat.lt_succ_self _) h0
  clear h0
  intro N
  induction N with
  | zero => intro f x1 x2 x3 x4 x5 hm; exact absurd hm (Nat.not_lt_zero _)
  | succ N ih =>
    intro f x1 x2 x3 x4 x5 hm hi
    exact wkb_X9_surestOf_L8 V_l1 V_l2 V_m1  C    (fun f9 x19 x29 x39 x49 x59 hk => ih f9 x19 x29 x39 x49 x59 (Nat.lt_of_lt_of_le hk.2 (Nat.le_of_lt_succ hm)) hk.1) f x1 x2 x3 x4 x5 (hs f x1 x2 x3 x4 x5 hi)
set_option maxHeartbeats 4000000 in
set_option maxRecDepth 100000 in
theorem wk_X9_surestOf (V_l1 : VC_l1) (V_l2 : VC_l2) (V_m1 : VC_m1) {Z : Zt}  (C : CX Z layM RX9 cX9_surestOf 7 (some .int) 56)     (f : Fn) (a1 : Int32) (a2 : Int32) (h : wp_X9_surestOf  f a1 a2 (zp Z)) : GG Z f [(0, .ref (zad Z 0)), (1, .int a1), (2, .int a2)] 0 [] := by
  refine g_iconst C ki_0 dX9_surestOf_0 rfl ?_
  refine g_istore_n (lv' := [(3, .int (0 : Int32)), (0, .ref (zad Z 0)), (1, .int a1), (2, .int a2)]) C dX9_surestOf_1 (by decide) rfl rfl ?_
  refine g_iconst C ki_m1 dX9_surestOf_2 rfl ?_
  refine g_istore (lv' := [(4, .int (-1 : Int32)), (3, .int (0 : Int32)), (0, .ref (zad Z 0)), (1, .int a1), (2, .int a2)]) C dX9_surestOf_3 (by decide) rfl rfl ?_
  refine g_iconst C ki_0 dX9_surestOf_5 rfl ?_
  refine g_istore (lv' := [(5, .int (0 : Int32)), (4, .int (-1 : Int32)), (3, .int (0 : Int32)), (0, .ref (zad Z 0)), (1, .int a1), (2, .int a2)]) C dX9_surestOf_6 (by decide) rfl rfl ?_
  refine g_lps [0, 1, 2, 3, 4, 5] rfl ?_
  exact wk_X9_surestOf_L8 V_l1 V_l2 V_m1  C    _ _ _ _ _ _ h
set_option maxRecDepth 100000 in
theorem ct_X9_surestOf (V_l1 : VC_l1) (V_l2 : VC_l2) (V_m1 : VC_m1) {l : Launch} {E : Ev}   (f : Fn) (a1 : Int32) (a2 : Int32) (hpre : Pre_X9_surestOf f a1 a2) : CT l E layM yX9_surestOf cX9_surestOf 7 (some .int) 56 [.ref (E.2.1 0), .int a1, .int a2] f (pI (Post_X9_surestOf f a1 a2)) := by
  refine CT.of (by decide +kernel) (Nat.le_of_ble_eq_true rfl) (fun Z hl9 hE9 hp9 C => ?_)
  subst hl9
  subst hE9
  exact wk_X9_surestOf V_l1 V_l2 V_m1 C   f a1 a2 (by rw [hp9]; exact V_m1.2.2.2.2.2.2.2.2.2.2.2.2.2.2.2.2.2.2.2.2.2.2.2.2.2.2.2.2.2.2.2.2.2.2.2.2.2.2.2.2.2.2.2.2.2.2.2.2.2.2.2.2.2.2.1  f a1 a2  hpre)
set_option maxHeartbeats 4000000 in
set_option maxRecDepth 100000 in
theorem wk_X9_surest_L24 (V_l1 : VC_l1) (V_l2 : VC_l2) (V_m1 : VC_m1) {Z : Zt}  (C : CX Z layM RX9 cX9_surest 3 (some .int) 57)     (f : Fn)  (h : wp_X9_surest_L24   f  (zp Z)) : GG Z f [(0, .ref (zad Z 0))] 24 [] := by
  refine g_aload_n C rfl dX9_surest_24 rfl ?_
  refine g_iconst C ki_1 dX9_surest_25 rfl ?_
  have hs2 := h.1
  replace h := h.2
  refine g_callVI C tw_881 tw_883 tp_15 tw_10 tw_884 hy_X9_finds (by decide) (by decide) rfl (Nat.le_of_ble_eq_true rfl) rfl rfl (ct_X9_finds V_l1 V_l2 V_m1   f (1 : Int32) hs2) dX9_surest_26 rfl rfl (fun r3 f4 hp5 => ?_)
  replace h := h r3 f4 hp5
  exact g_iret C dX9_surest_29 h
set_option maxHeartbeats 4000000 in
set_option maxRecDepth 100000 in
theorem wk_X9_surest (V_l1 : VC_l1) (V_l2 : VC_l2) (V_m1 : VC_m1) {Z : Zt}  (C : CX Z layM RX9 cX9_surest 3 (some .int) 57)     (f : Fn) (a1 : Int32) (a2 : Int32) (h : wp_X9_surest  f a1 a2 (zp Z)) : GG Z f [(0, .ref (zad Z 0)), (1, .int a1), (2, .int a2)] 0 [] := by
  refine g_aload_n C rfl dX9_surest_0 rfl ?_
  refine g_iload_n C rfl dX9_surest_1 rfl ?_
  refine g_callVD C tw_988 tw_990 tp_29 tw_10 tw_991 hy_X9_isFlyer (by decide) (by decide) rfl (Nat.le_of_ble_eq_true rfl) rfl rfl (ct_X9_isFlyer V_l1 V_l2 V_m1   f a1 ) dX9_surest_2 rfl rfl ?_
  refine g_if_eq (tgt := 24) C dX9_surest_5 (by decide) rfl (fun hc1 => ?_) (fun hc1 => ?_)
  · replace h := h.1 hc1
    refine g_lps [0] rfl ?_
    exact wk_X9_surest_L24 V_l1 V_l2 V_m1  C    _  h
  · replace h := h.2 hc1
    refine g_iload_n C rfl dX9_surest_8 rfl ?_
    refine g_callSD C tw_1089 tw_1090 tw_10 tw_1091 hy_X9_isSpan (by decide) (by decide) rfl (Nat.le_of_ble_eq_true rfl) (ct_X9_isSpan V_l1 V_l2 V_m1   f a2 ) dX9_surest_9 rfl rfl ?_
    refine g_if_eq (tgt := 24) C dX9_surest_12 (by decide) rfl (fun hc6 => ?_) (fun hc6 => ?_)
    · replace h := h.1 hc6
      refine g_lps [0] rfl ?_
      exact wk_X9_surest_L24 V_l1 V_l2 V_m1  C    _  h
    · replace h := h.2 hc6
      refine g_aload_n C rfl dX9_surest_15 rfl ?_
      refine g_iload_n C rfl dX9_surest_16 rfl ?_
      refine g_iload_n C rfl dX9_surest_17 rfl ?_
      have hs7 := h.1
      replace h := h.2
      refine g_callVI C tw_1100 tw_1102 tp_43 tw_10 tw_1103 hy_X9_surestOf (by decide) (by decide) rfl (Nat.le_of_ble_eq_true rfl) rfl rfl (ct_X9_surestOf V_l1 V_l2 V_m1   f a1 a2 hs7) dX9_surest_18 rfl rfl (fun r8 f9 hp10 => ?_)
      replace h := h r8 f9 hp10
      refine g_goto (q := 29) C dX9_surest_21 (by decide) ?_
      exact g_iret C dX9_surest_29 h
set_option maxRecDepth 100000 in
theorem ct_X9_surest (V_l1 : VC_l1) (V_l2 : VC_l2) (V_m1 : VC_m1) {l : Launch} {E : Ev}   (f : Fn) (a1 : Int32) (a2 : Int32) (hpre : Pre_X9_surest f a1 a2) : CT l E layM yX9_surest cX9_surest 3 (some .int) 57 [.ref (E.2.1 0), .int a1, .int a2] f (pI (Post_X9_surest f a1 a2)) := by
  refine CT.of (by decide +kernel) (Nat.le_of_ble_eq_true rfl) (fun Z hl9 hE9 hp9 C => ?_)
  subst hl9
  subst hE9
  exact wk_X9_surest V_l1 V_l2 V_m1 C   f a1 a2 (by rw [hp9]; exact V_m1.2.2.2.2.2.2.2.2.2.2.2.2.2.2.2.2.2.2.2.2.2.2.2.2.2.2.2.2.2.2.2.2.2.2.2.2.2.2.2.2.2.2.2.2.2.2.2.2.2.2.2.2.2.2.2.1  f a1 a2  hpre)
set_option maxHeartbeats 4000000 in
set_option maxRecDepth 100000 in
theorem wkb_X9_common_L17 (V_l1 : VC_l1) (V_l2 : VC_l2) (V_m1 : VC_m1) {Z : Zt}  (C : CX Z layM RX9 cX9_common 10 (some .long) 0)   {K17 : Fn → Int64 → Int64 → Prop} (hK17 : ∀ (f : Fn) (x4 : Int64) (x6 : Int64), K17 f x4 x6 → GG Z f [(4, .long x4), (6, .long x6)] 17 []) (f : Fn) (x4 : Int64) (x6 : Int64) (h : wpb_X9_common_L17   K17 f x4 x6 (zp Z)) : GG Z f [(4, .long x4), (6, .long x6)] 17 [] := by
  refine g_lload C rfl dX9_common_17 rfl ?_
  refine g_lconst C kl_0 dX9_common_19 rfl ?_
  refine g_lcmp C dX9_common_20 rfl ?_
  refine g_if_eq (tgt := 42) C dX9_common_21 (by decide) rfl (fun hc2 => ?_) (fun hc2 => ?_)
  · replace h := h.1 hc2
    refine g_lload C rfl dX9_common_42 rfl ?_
    exact g_lret C dX9_common_44 h
  · replace h := h.2 hc2
    refine g_lload C rfl dX9_common_24 rfl ?_
    refine g_lload C rfl dX9_common_26 rfl ?_
    have hs3 := h.1
    replace h := h.2
    refine g_lrem C hs3 dX9_common_28 rfl ?_
    refine g_lstore (lv' := [(8, .long (x4 - (x4 / x6) * x6)), (4, .long x4), (6, .long x6)]) C dX9_common_29 (by decide) rfl rfl ?_
    refine g_lload C rfl dX9_common_31 rfl ?_
    refine g_lstore (lv' := [(4, .long x6), (8, .long (x4 - (x4 / x6) * x6)), (6, .long x6)]) C dX9_common_33 (by decide) rfl rfl ?_
    refine g_lload C rfl dX9_common_35 rfl ?_
    refine g_lstore (lv' := [(6, .long (x4 - (x4 / x6) * x6)), (4, .long x6), (8, .long (x4 - (x4 / x6) * x6))]) C dX9_common_37 (by decide) rfl rfl ?_
    refine g_goto (q := 17) C dX9_common_39 (by decide) ?_
    refine g_lps [4, 6] rfl ?_
    exact hK17 _ _ _ h
set_option maxHeartbeats 4000000 in
set_option maxRecDepth 100000 in
theorem wk_X9_common_L17 (V_l1 : VC_l1) (V_l2 : VC_l2) (V_m1 : VC_m1) {Z : Zt}  (C : CX Z layM RX9 cX9_common 10 (some .long) 0)     (f : Fn) (x4 : Int64) (x6 : Int64) (h : wp_X9_common_L17   f x4 x6 (zp Z)) : GG Z f [(4, .long x4), (6, .long x6)] 17 [] := by
  obtain ⟨I, μ, h0, hs⟩ := h
  suffices H : ∀ (N : Nat) (f : Fn) (x4 : Int64) (x6 : Int64), μ f x4 x6 < N → I f x4 x6 → GG Z f [(4, .long x4), (6, .long x6)] 17 [] from H _ f x4 x6 (Nat.lt_succ_self _) h0
  clear h0
  intro N
  induction N with
  | zero => intro f x4 x6 hm; exact absurd hm (Nat.not_lt_zero _)
  | succ N ih =>
    intro f x4 x6 hm hi
    exact wkb_X9_common_L17 V_l1 V_l2 V_m1  C    (fun f9 x49 x69 hk => ih f9 x49 x69 (Nat.lt_of_lt_of_le hk.2 (Nat.le_of_lt_succ hm)) hk.1) f x4 x6 (hs f x4 x6 hi)
set_option maxHeartbeats 4000000 in
set_option maxRecDepth 100000 in
theorem wk_X9_common_L12 (V_l1 : VC_l1) (V_l2 : VC_l2) (V_m1 : VC_m1) {Z : Zt}  (C : CX Z layM RX9 cX9_common 10 (some .long) 0)     (f : Fn) (x2 : Int64) (s0 : Int64) (h : wp_X9_common_L12   f x2 s0 (zp Z)) : GG Z f [(2, .long x2)] 12 [.long s0] := by
  refine g_lstore (lv' := [(4, .long s0), (2, .long x2)]) C dX9_common_12 (by decide) rfl rfl ?_
  refine g_lload_n C rfl dX9_common_14 rfl ?_
  refine g_lstore (lv' := [(6, .long x2), (4, .long s0), (2, .long x2)]) C dX9_common_15 (by decide) rfl rfl ?_
  refine g_lps [4, 6] rfl ?_
  exact wk_X9_common_L17 V_l1 V_l2 V_m1  C    _ _ _ h
set_option maxHeartbeats 4000000 in
set_option maxRecDepth 100000 in
theorem wk_X9_common (V_l1 : VC_l1) (V_l2 : VC_l2) (V_m1 : VC_m1) {Z : Zt}  (C : CX Z layM RX9 cX9_common 10 (some .long) 0)     (f : Fn) (a1 : Int64) (a2 : Int64) (h : wp_X9_common  f a1 a2 (zp Z)) : GG Z f [(0, .long a1), (2, .long a2)] 0 [] := by
  refine g_lload_n C rfl dX9_common_0 rfl ?_
  refine g_lconst C kl_0 dX9_common_1 rfl ?_
  refine g_lcmp C dX9_common_2 rfl ?_
  refine g_if_ge (tgt := 11) C dX9_common_3 (by decide) rfl (fun hc1 => ?_) (fun hc1 => ?_)
  · replace h := h.1 hc1
    refine g_lload_n C rfl dX9_common_11 rfl ?_
    refine g_lps [2] rfl ?_
    exact wk_X9_common_L12 V_l1 V_l2 V_m1  C    _ _ _ h
  · replace h := h.2 hc1
    refine g_lload_n C rfl dX9_common_6 rfl ?_
    refine g_lneg C dX9_common_7 rfl ?_
    refine g_goto (q := 12) C dX9_common_8 (by decide) ?_
    refine g_lps [2] rfl ?_
    exact wk_X9_common_L12 V_l1 V_l2 V_m1  C    _ _ _ h
set_option maxRecDepth 100000 in
theorem ct_X9_common (V_l1 : VC_l1) (V_l2 : VC_l2) (V_m1 : VC_m1) {l : Launch} {E : Ev}   (f : Fn) (a1 : Int64) (a2 : Int64) (hpre : Pre_X9_common f a1 a2) : CT l E layM yX9_common cX9_common 10 (some .long) 0 [.long a1, .long a2] f (pL (Post_X9_common f a1 a2)) := by
  refine CT.of (by decide +kernel) (Nat.le_of_ble_eq_true rfl) (fun Z hl9 hE9 hp9 C => ?_)
  subst hl9
  subst hE9
  exact wk_X9_common V_l1 V_l2 V_m1 C   f a1 a2 (by rw [hp9]; exact V_m1.2.2.2.2.2.2.2.2.2.2.2.2.2.2.2.2.2.2.2.2.2.2.2.2.2.2.2.2.2.2.2.2.2.2.2.2.2.2.2.2.2.2.2.2.2.2.2.2.2.2.2.2.2.2.2.2.1  f a1 a2  hpre)
set_option maxHeartbeats 4000000 in
set_option maxRecDepth 100000 in
theorem wk_X9_odds_L25 (V_l1 : VC_l1) (V_l2 : VC_l2) (V_m1 : VC_m1) {Z : Zt}  (C : CX Z layM RX9 cX9_odds 6 (some .int) 56)     (f : Fn)  (h : wp_X9_odds_L25   f  (zp Z)) : GG Z f [(0, .ref (zad Z 0))] 25 [] := by
  refine g_aload_n C rfl dX9_odds_25 rfl ?_
  refine g_iconst C ki_1 dX9_odds_26 rfl ?_
  have hs2 := h.1
  replace h := h.2
  refine g_callVI C tw_881 tw_883 tp_15 tw_10 tw_884 hy_X9_finds (by decide) (by decide) rfl (Nat.le_of_ble_eq_true rfl) rfl rfl (ct_X9_finds V_l1 V_l2 V_m1   f (1 : Int32) hs2) dX9_odds_27 rfl rfl (fun r3 f4 hp5 => ?_)
  replace h := h r3 f4 hp5
  exact g_iret C dX9_odds_30 h
set_option maxHeartbeats 4000000 in
set_option maxRecDepth 100000 in
theorem wk_X9_odds (V_l1 : VC_l1) (V_l2 : VC_l2) (V_m1 : VC_m1) {Z : Zt}  (C : CX Z layM RX9 cX9_odds 6 (some .int) 56)     (f : Fn) (a1 : Int32) (a2 : Int32) (a3 : Int32) (h : wp_X9_odds  f a1 a2 a3 (zp Z)) : GG Z f [(0, .ref (zad Z 0)), (1, .int a1), (2, .int a2), (3, .int a3)] 0 [] := by
  refine g_aload_n C rfl dX9_odds_0 rfl ?_
  refine g_iload_n C rfl dX9_odds_1 rfl ?_
  refine g_callVD C tw_988 tw_990 tp_29 tw_10 tw_991 hy_X9_isFlyer (by decide) (by decide) rfl (Nat.le_of_ble_eq_true rfl) rfl rfl (ct_X9_isFlyer V_l1 V_l2 V_m1   f a1 ) dX9_odds_2 rfl rfl ?_
  refine g_if_eq (tgt := 25) C dX9_odds_5 (by decide) rfl (fun hc1 => ?_) (fun hc1 => ?_)
  · replace h := h.1 hc1
    refine g_lps [0] rfl ?_
    exact wk_X9_odds_L25 V_l1 V_l2 V_m1  C    _  h
  · replace h := h.2 hc1
    refine g_iload_n C rfl dX9_odds_8 rfl ?_
    refine g_callSD C tw_1082 tw_1083 tw_10 tw_1084 hy_X9_isSoon (by decide) (by decide) rfl (Nat.le_of_ble_eq_true rfl) (ct_X9_isSoon V_l1 V_l2 V_m1   f a2 ) dX9_odds_9 rfl rfl ?_
    refine g_if_eq (tgt := 25) C dX9_odds_12 (by decide) rfl (fun hc6 => ?_) (fun hc6 => ?_)
    · replace h := h.1 hc6
      refine g_lps [0] rfl ?_
      exact wk_X9_odds_L25 V_l1 V_l2 V_m1  C    _  h
    · replace h := h.2 hc6
      refine g_iload_n C rfl dX9_odds_15 rfl ?_
      refine g_i2l C dX9_odds_16 rfl ?_
      refine g_lconst C kl_0 dX9_odds_17 rfl ?_
      refine g_lconst C kl_1 dX9_odds_18 rfl ?_
      refine g_callSD C tw_878 tw_879 tw_10 tw_880 hy_X9_in (by decide) (by decide) rfl (Nat.le_of_ble_eq_true rfl) (ct_X9_in V_l1 V_l2 V_m1   f a3.toInt64 (0 : Int64) (1 : Int64) ) dX9_odds_19 rfl rfl ?_
      refine g_if_ne (tgt := 31) C dX9_odds_22 (by decide) rfl (fun hc7 => ?_) (fun hc7 => ?_)
      · replace h := h.1 hc7
        refine g_aload_n C rfl dX9_odds_31 rfl ?_
        refine g_iload_n C rfl dX9_odds_32 rfl ?_
        refine g_aload_n C rfl dX9_odds_33 rfl ?_
        refine fg_X9_7R (k := 0) (p := 1) C rfl rfl dX9_odds_34 rfl ?_
        refine g_iconst C ki_1 dX9_odds_37 rfl ?_
        refine g_ialdx (k := 1) (j := 1) (x := (f 1 1)) C rfl vi_1_264 kc_1 rfl dX9_odds_38 rfl ?_
        refine g_iload_n C rfl dX9_odds_39 rfl ?_
        refine g_iadd C dX9_odds_40 rfl ?_
        have hs8 := h.1
        replace h := h.2
        refine g_callVI C tw_1104 tw_1106 tp_44 tw_10 tw_1107 hy_X9_casesAt (by decide) (by decide) rfl (Nat.le_of_ble_eq_true rfl) rfl rfl (ct_X9_casesAt V_l1 V_l2 V_m1   f a1 ((f 1 1) + a2) hs8) dX9_odds_41 rfl rfl (fun r9 f10 hp11 => ?_)
        replace h := h r9 f10 hp11
        refine g_istore (lv' := [(4, .int r9), (0, .ref (zad Z 0)), (1, .int a1), (2, .int a2), (3, .int a3)]) C dX9_odds_44 (by decide) rfl rfl ?_
        refine g_iload C rfl dX9_odds_46 rfl ?_
        refine g_i2l C dX9_odds_48 rfl ?_
        refine g_ldc2 C tw_1112 dX9_odds_49 rfl ?_
        have hs12 := h.1
        replace h := h.2
        refine g_callSL C tw_1113 tw_1114 tw_10 tw_1115 hy_X9_common (by decide) (by decide) rfl (Nat.le_of_ble_eq_true rfl) (ct_X9_common V_l1 V_l2 V_m1   f10 r9.toInt64 (9 : Int64) hs12) dX9_odds_52 rfl rfl (fun r13 f14 hp15 => ?_)
        replace h := h r13 f14 hp15
        refine g_l2i C dX9_odds_55 rfl ?_
        refine g_istore (lv' := [(5, .int r13.toInt32), (4, .int r9), (0, .ref (zad Z 0)), (1, .int a1), (2, .int a2), (3, .int a3)]) C dX9_odds_56 (by decide) rfl rfl ?_
        refine g_iload_n C rfl dX9_odds_58 rfl ?_
        refine g_if_ne (tgt := 70) C dX9_odds_59 (by decide) rfl (fun hc16 => ?_) (fun hc16 => ?_)
        · replace h := h.1 hc16
          refine g_bipush C kb_9 dX9_odds_70 rfl ?_
          refine g_iload C rfl dX9_odds_72 rfl ?_
          have hs17 := h.1
          replace h := h.2
          refine g_idiv C hs17 dX9_odds_74 rfl ?_
          exact g_iret C dX9_odds_75 h
        · replace h := h.2 hc16
          refine g_iload C rfl dX9_odds_62 rfl ?_
          refine g_iload C rfl dX9_odds_64 rfl ?_
          have hs18 := h.1
          replace h := h.2
          refine g_idiv C hs18 dX9_odds_66 rfl ?_
          refine g_goto (q := 75) C dX9_odds_67 (by decide) ?_
          exact g_iret C dX9_odds_75 h
      · replace h := h.2 hc7
        refine g_lps [0] rfl ?_
        exact wk_X9_odds_L25 V_l1 V_l2 V_m1  C    _  h
set_option maxRecDepth 100000 in
theorem ct_X9_odds (V_l1 : VC_l1) (V_l2 : VC_l2) (V_m1 : VC_m1) {l : Launch} {E : Ev}   (f : Fn) (a1 : Int32) (a2 : Int32) (a3 : Int32) (hpre : Pre_X9_odds f a1 a2 a3) : CT l E layM yX9_odds cX9_odds 6 (some .int) 56 [.ref (E.2.1 0), .int a1, .int a2, .int a3] f (pI (Post_X9_odds f a1 a2 a3)) := by
  refine CT.of (by decide +kernel) (Nat.le_of_ble_eq_true rfl) (fun Z hl9 hE9 hp9 C => ?_)
  subst hl9
  subst hE9
  exact wk_X9_odds V_l1 V_l2 V_m1 C   f a1 a2 a3 (by rw [hp9]; exact V_m1.2.2.2.2.2.2.2.2.2.2.2.2.2.2.2.2.2.2.2.2.2.2.2.2.2.2.2.2.2.2.2.2.2.2.2.2.2.2.2.2.2.2.2.2.2.2.2.2.2.2.2.2.2.2.2.2.2.1  f a1 a2 a3  hpre)
set_option maxHeartbeats 4000000 in
set_option maxRecDepth 100000 in
theorem wk_X9_hasNext (V_l1 : VC_l1) (V_l2 : VC_l2) (V_m1 : VC_m1) {Z : Zt}  (C : CX Z layM RX9 cX9_hasNext 3 (some .boolean) 57)     (f : Fn) (a1 : Int32) (a2 : Int32) (h : wp_X9_hasNext  f a1 a2 (zp Z)) : GG Z f [(0, .ref (zad Z 0)), (1, .int a1), (2, .int a2)] 0 [] := by
  refine g_aload_n C rfl dX9_hasNext_0 rfl ?_
  refine g_iload_n C rfl dX9_hasNext_1 rfl ?_
  refine g_iload_n C rfl dX9_hasNext_2 rfl ?_
  have hs1 := h.1
  replace h := h.2
  refine g_callVV C tw_1092 tw_1094 tp_42 tw_10 tw_1095 hy_X9_findCan (by decide) (by decide) rfl (Nat.le_of_ble_eq_true rfl) rfl rfl (ct_X9_findCan V_l1 V_l2 V_m1   f a1 a2 hs1) dX9_hasNext_3 rfl rfl (fun f2 hp3 => ?_)
  replace h := h f2 hp3
  refine g_aload_n C rfl dX9_hasNext_6 rfl ?_
  refine fg_X9_211I (k := 0) (x := (f2 0 13)) C rfl rfl rfl dX9_hasNext_7 rfl ?_
  refine g_if_le (tgt := 17) C dX9_hasNext_10 (by decide) rfl (fun hc4 => ?_) (fun hc4 => ?_)
  · replace h := h.1 hc4
    refine g_iconst C ki_0 dX9_hasNext_17 rfl ?_
    exact g_zret C (Or.inl rfl) dX9_hasNext_18 h
  · replace h := h.2 hc4
    refine g_iconst C ki_1 dX9_hasNext_13 rfl ?_
    refine g_goto (q := 18) C dX9_hasNext_14 (by decide) ?_
    exact g_zret C (Or.inr rfl) dX9_hasNext_18 h
set_option maxRecDepth 100000 in
theorem ct_X9_hasNext (V_l1 : VC_l1) (V_l2 : VC_l2) (V_m1 : VC_m1) {l : Launch} {E : Ev}   (f : Fn) (a1 : Int32) (a2 : Int32) (hpre : Pre_X9_hasNext f a1 a2) : CT l E layM yX9_hasNext cX9_hasNext 3 (some .boolean) 57 [.ref (E.2.1 0), .int a1, .int a2] f (pI (Post_X9_hasNext f a1 a2)) := by
  refine CT.of (by decide +kernel) (Nat.le_of_ble_eq_true rfl) (fun Z hl9 hE9 hp9 C => ?_)
  subst hl9
  subst hE9
  exact wk_X9_hasNext V_l1 V_l2 V_m1 C   f a1 a2 (by rw [hp9]; exact V_m1.2.2.2.2.2.2.2.2.2.2.2.2.2.2.2.2.2.2.2.2.2.2.2.2.2.2.2.2.2.2.2.2.2.2.2.2.2.2.2.2.2.2.2.2.2.2.2.2.2.2.2.2.2.2.2.2.2.2.1  f a1 a2  hpre)
set_option maxHeartbeats 4000000 in
set_option maxRecDepth 100000 in
theorem wk_X9_pumped_L15 (V_l1 : VC_l1) (V_l2 : VC_l2) (V_m1 : VC_m1) {Z : Zt}  (C : CX Z layM RX9 cX9_pumped 6 (some .int) 58)     (f : Fn)  (h : wp_X9_pumped_L15   f  (zp Z)) : GG Z f [(0, .ref (zad Z 0))] 15 [] := by
  refine g_aload_n C rfl dX9_pumped_15 rfl ?_
  refine g_iconst C ki_1 dX9_pumped_16 rfl ?_
  have hs2 := h.1
  replace h := h.2
  refine g_callVI C tw_881 tw_883 tp_15 tw_10 tw_884 hy_X9_finds (by decide) (by decide) rfl (Nat.le_of_ble_eq_true rfl) rfl rfl (ct_X9_finds V_l1 V_l2 V_m1   f (1 : Int32) hs2) dX9_pumped_17 rfl rfl (fun r3 f4 hp5 => ?_)
  replace h := h r3 f4 hp5
  exact g_iret C dX9_pumped_20 h
set_option maxHeartbeats 4000000 in
set_option maxRecDepth 100000 in
theorem wk_X9_pumped_L87 (V_l1 : VC_l1) (V_l2 : VC_l2) (V_m1 : VC_m1) {Z : Zt}  (C : CX Z layM RX9 cX9_pumped 6 (some .int) 58)     (f : Fn) (x3 : Int32) (x4 : Int32) (h : wp_X9_pumped_L87   f x3 x4 (zp Z)) : GG Z f [(0, .ref (zad Z 0)), (3, .int x3), (4, .int x4)] 87 [] := by
  refine g_aload_n C rfl dX9_pumped_87 rfl ?_
  refine fg_X9_7R (k := 0) (p := 1) C rfl rfl dX9_pumped_88 rfl ?_
  refine g_bipush C kb_13 dX9_pumped_91 rfl ?_
  refine g_iload_n C rfl dX9_pumped_93 rfl ?_
  refine g_iastx (k := 1) (j := 13) C rfl vi_13_264 kc_13 dX9_pumped_94 rfl ?_
  refine g_iload C rfl dX9_pumped_95 rfl ?_
  refine g_if_ge (tgt := 108) C dX9_pumped_97 (by decide) rfl (fun hc8 => ?_) (fun hc8 => ?_)
  · replace h := h.1 hc8
    refine g_iload C rfl dX9_pumped_108 rfl ?_
    exact g_iret C dX9_pumped_110 h
  · replace h := h.2 hc8
    refine g_aload_n C rfl dX9_pumped_100 rfl ?_
    refine g_iconst C ki_2 dX9_pumped_101 rfl ?_
    have hs9 := h.1
    replace h := h.2
    refine g_callVI C tw_881 tw_883 tp_15 tw_10 tw_884 hy_X9_finds (by decide) (by decide) rfl (Nat.le_of_ble_eq_true rfl) rfl rfl (ct_X9_finds V_l1 V_l2 V_m1   (up2 f 1 13 x3) (2 : Int32) hs9) dX9_pumped_102 rfl rfl (fun r10 f11 hp12 => ?_)
    replace h := h r10 f11 hp12
    refine g_goto (q := 110) C dX9_pumped_105 (by decide) ?_
    exact g_iret C dX9_pumped_110 h
set_option maxHeartbeats 4000000 in
set_option maxRecDepth 100000 in
theorem wk_X9_pumped_L79 (V_l1 : VC_l1) (V_l2 : VC_l2) (V_m1 : VC_m1) {Z : Zt}  (C : CX Z layM RX9 cX9_pumped 6 (some .int) 58)   {K35 : Fn → Int32 → Int32 → Int32 → Int32 → Int32 → Prop} (hK35 : ∀ (f : Fn) (x1 : Int32) (x2 : Int32) (x3 : Int32) (x4 : Int32) (x5 : Int32), K35 f x1 x2 x3 x4 x5 → GG Z f [(0, .ref (zad Z 0)), (1, .int x1), (2, .int x2), (3, .int x3), (4, .int x4), (5, .int x5)] 35 []) (f : Fn) (x1 : Int32) (x2 : Int32) (x3 : Int32) (x5 : Int32) (s0 : Int32) (h : wp_X9_pumped_L79  K35 f x1 x2 x3 x5 s0 (zp Z)) : GG Z f [(0, .ref (zad Z 0)), (1, .int x1), (2, .int x2), (3, .int x3), (5, .int x5)] 79 [.int s0] := by
  refine g_istore (lv' := [(4, .int s0), (0, .ref (zad Z 0)), (1, .int x1), (2, .int x2), (3, .int x3), (5, .int x5)]) C dX9_pumped_79 (by decide) rfl rfl ?_
  refine g_iinc (lv' := [(5, .int (x5 + (1 : Int32))), (4, .int s0), (0, .ref (zad Z 0)), (1, .int x1), (2, .int x2), (3, .int x3)]) C dX9_pumped_81 rfl (inc_1 _) (by decide) rfl rfl ?_
  refine g_goto (q := 35) C dX9_pumped_84 (by decide) ?_
  refine g_lps [0, 1, 2, 3, 4, 5] rfl ?_
  exact hK35 _ _ _ _ _ _ h
set_option maxHeartbeats 4000000 in
set_option maxRecDepth 100000 in
theorem wkb_X9_pumped_L35 (V_l1 : VC_l1) (V_l2 : VC_l2) (V_m1 : VC_m1) {Z : Zt}  (C : CX Z layM RX9 cX9_pumped 6 (some .int) 58)   {K35 : Fn → Int32 → Int32 → Int32 → Int32 → Int32 → Prop} (hK35 : ∀ (f : Fn) (x1 : Int32) (x2 : Int32) (x3 : Int32) (x4 : Int32) (x5 : Int32), K35 f x1 x2 x3 x4 x5 → GG Z f [(0, .ref (zad Z 0)), (1, .int x1), (2, .int x2), (3, .int x3), (4, .int x4), (5, .int x5)] 35 []) (f : Fn) (x1 : Int32) (x2 : Int32) (x3 : Int32) (x4 : Int32) (x5 : Int32) (h : wpb_X9_pumped_L35   K35 f x1 x2 x3 x4 x5 (zp Z)) : GG Z f [(0, .ref (zad Z 0)), (1, .int x1), (2, .int x2), (3, .int x3), (4, .int x4), (5, .int x5)] 35 [] := by
  refine g_iload C rfl dX9_pumped_35 rfl ?_
  refine g_bipush C kb_59 dX9_pumped_37 rfl ?_
  refine g_icmp_gt (tgt := 87) C dX9_pumped_39 (by decide) rfl (fun hc7 => ?_) (fun hc7 => ?_)
  · replace h := h.1 hc7
    refine g_lps [0, 3, 4] rfl ?_
    exact wk_X9_pumped_L87 V_l1 V_l2 V_m1  C    _ _ _ h
  · replace h := h.2 hc7
    refine g_iload C rfl dX9_pumped_42 rfl ?_
    refine g_if_ge (tgt := 87) C dX9_pumped_44 (by decide) rfl (fun hc13 => ?_) (fun hc13 => ?_)
    · replace h := h.1 hc13
      refine g_lps [0, 3, 4] rfl ?_
      exact wk_X9_pumped_L87 V_l1 V_l2 V_m1  C    _ _ _ h
    · replace h := h.2 hc13
      refine g_aload_n C rfl dX9_pumped_47 rfl ?_
      refine fg_X9_7R (k := 0) (p := 1) C rfl rfl dX9_pumped_48 rfl ?_
      refine g_bipush C kb_13 dX9_pumped_51 rfl ?_
      refine g_iload_n C rfl dX9_pumped_53 rfl ?_
      refine g_iload C rfl dX9_pumped_54 rfl ?_
      refine g_iadd C dX9_pumped_56 rfl ?_
      refine g_iconst C ki_1 dX9_pumped_57 rfl ?_
      refine g_bipush C kb_60 dX9_pumped_58 rfl ?_
      refine g_callSD C tw_944 tw_945 tw_10 tw_946 hy_X9_held (by decide) (by decide) rfl (Nat.le_of_ble_eq_true rfl) (ct_X9_held V_l1 V_l2 V_m1   f (x3 + x5) (1 : Int32) (60 : Int32) ) dX9_pumped_60 rfl rfl ?_
      refine g_iastx (k := 1) (j := 13) C rfl vi_13_264 kc_13 dX9_pumped_63 rfl ?_
      refine g_aload_n C rfl dX9_pumped_64 rfl ?_
      refine g_iload_n C rfl dX9_pumped_65 rfl ?_
      refine g_iload_n C rfl dX9_pumped_66 rfl ?_
      have hs14 := h.1
      replace h := h.2
      refine g_callVI C tw_1120 tw_1122 tp_45 tw_10 tw_1123 hy_X9_hasNext (by decide) (by decide) rfl (Nat.le_of_ble_eq_true rfl) rfl rfl (ct_X9_hasNext V_l1 V_l2 V_m1   (up2 f 1 13 (Val_X9_held f (x3 + x5) (1 : Int32) (60 : Int32))) x1 x2 hs14) dX9_pumped_67 rfl rfl (fun r15 f16 hp17 => ?_)
      replace h := h r15 f16 hp17
      refine g_if_eq (tgt := 78) C dX9_pumped_70 (by decide) rfl (fun hc18 => ?_) (fun hc18 => ?_)
      · replace h := h.1 hc18
        refine g_iconst C ki_m1 dX9_pumped_78 rfl ?_
        refine g_lps [0, 1, 2, 3, 5] rfl ?_
        exact wk_X9_pumped_L79 V_l1 V_l2 V_m1  C   hK35 _ _ _ _ _ _ h
      · replace h := h.2 hc18
        refine g_iload C rfl dX9_pumped_73 rfl ?_
        refine g_goto (q := 79) C dX9_pumped_75 (by decide) ?_
        refine g_lps [0, 1, 2, 3, 5] rfl ?_
        exact wk_X9_pumped_L79 V_l1 V_l2 V_m1  C   hK35 _ _ _ _ _ _ h
set_option maxHeartbeats 4000000 in
set_option maxRecDepth 100000 in
theorem wk_X9_pumped_L35 (V_l1 : VC_l1) (V_l2 : VC_l2) (V_m1 : VC_m1) {Z : Zt}  (C : CX Z layM RX9 cX9_pumped 6 (some .int) 58)     (f : Fn) (x1 : Int32) (x2 : Int32) (x3 : Int32) (x4 : Int32) (x5 : Int32) (h : wp_X9_pumped_L35   f x1 x2 x3 x4 x5 (zp Z)) : GG Z f [(0, .ref (zad Z 0)), (1, .int x1), (2, .int x2), (3, .int x3), (4, .int x4), (5, .int x5)] 35 [] := by
  obtain ⟨I, μ, h0, hs⟩ := h
  suffices H : ∀ (N : Nat) (f : Fn) (x1 : Int32) (x2 : Int32) (x3 : Int32) (x4 : Int32) (x5 : Int32), μ f x1 x2 x3 x4 x5 < N → I f x1 x2 x3 x4 x5 → GG Z f [(0, .ref (zad Z 0)), (1, .int x1), (2, .int x2), (3, .int x3), (4, .int x4), (5, .int x5)] 35 [] from H _ f x1 x2 x3 x4 x5 (Nat.lt_succ_self _) h0
  clear h0
  intro N
  induction N with
  | zero => intro f x1 x2 x3 x4 x5 hm; exact absurd hm (Nat.not_lt_zero _)
  | succ N ih =>
    intro f x1 x2 x3 x4 x5 hm hi
    exact wkb_X9_pumped_L35 V_l1 V_l2 V_m1  C    (fun f9 x19 x29 x39 x49 x59 hk => ih f9 x19 x29 x39 x49 x59 (Nat.lt_of_lt_of_le hk.2 (Nat.le_of_lt_succ hm)) hk.1) f x1 x2 x3 x4 x5 (hs f x1 x2 x3 x4 x5 hi)
set_option maxHeartbeats 4000000 in
set_option maxRecDepth 100000 in
theorem wk_X9_pumped (V_l1 : VC_l1) (V_l2 : VC_l2) (V_m1 : VC_m1) {Z : Zt}  (C : CX Z layM RX9 cX9_pumped 6 (some .int) 58)     (f : Fn) (a1 : Int32) (a2 : Int32) (h : wp_X9_pumped  f a1 a2 (zp Z)) : GG Z f [(0, .ref (zad Z 0)), (1, .int a1), (2, .int a2)] 0 [] := by
  refine g_aload_n C rfl dX9_pumped_0 rfl ?_
  refine g_iload_n C rfl dX9_pumped_1 rfl ?_
  refine g_callVD C tw_988 tw_990 tp_29 tw_10 tw_991 hy_X9_isFlyer (by decide) (by decide) rfl (Nat.le_of_ble_eq_true rfl) rfl rfl (ct_X9_isFlyer V_l1 V_l2 V_m1   f a1 ) dX9_pumped_2 rfl rfl ?_
  refine g_if_eq (tgt := 15) C dX9_pumped_5 (by decide) rfl (fun hc1 => ?_) (fun hc1 => ?_)
  · replace h := h.1 hc1
    refine g_lps [0] rfl ?_
    exact wk_X9_pumped_L15 V_l1 V_l2 V_m1  C    _  h
  · replace h := h.2 hc1
    refine g_iload_n C rfl dX9_pumped_8 rfl ?_
    refine g_callSD C tw_1089 tw_1090 tw_10 tw_1091 hy_X9_isSpan (by decide) (by decide) rfl (Nat.le_of_ble_eq_true rfl) (ct_X9_isSpan V_l1 V_l2 V_m1   f a2 ) dX9_pumped_9 rfl rfl ?_
    refine g_if_ne (tgt := 21) C dX9_pumped_12 (by decide) rfl (fun hc6 => ?_) (fun hc6 => ?_)
    · replace h := h.1 hc6
      refine g_aload_n C rfl dX9_pumped_21 rfl ?_
      refine fg_X9_7R (k := 0) (p := 1) C rfl rfl dX9_pumped_22 rfl ?_
      refine g_bipush C kb_13 dX9_pumped_25 rfl ?_
      refine g_ialdx (k := 1) (j := 13) (x := (f 1 13)) C rfl vi_13_264 kc_13 rfl dX9_pumped_27 rfl ?_
      refine g_istore_n (lv' := [(3, .int (f 1 13)), (0, .ref (zad Z 0)), (1, .int a1), (2, .int a2)]) C dX9_pumped_28 (by decide) rfl rfl ?_
      refine g_iconst C ki_m1 dX9_pumped_29 rfl ?_
      refine g_istore (lv' := [(4, .int (-1 : Int32)), (3, .int (f 1 13)), (0, .ref (zad Z 0)), (1, .int a1), (2, .int a2)]) C dX9_pumped_30 (by decide) rfl rfl ?_
      refine g_iconst C ki_0 dX9_pumped_32 rfl ?_
      refine g_istore (lv' := [(5, .int (0 : Int32)), (4, .int (-1 : Int32)), (3, .int (f 1 13)), (0, .ref (zad Z 0)), (1, .int a1), (2, .int a2)]) C dX9_pumped_33 (by decide) rfl rfl ?_
      refine g_lps [0, 1, 2, 3, 4, 5] rfl ?_
      exact wk_X9_pumped_L35 V_l1 V_l2 V_m1  C    _ _ _ _ _ _ h
    · replace h := h.2 hc6
      refine g_lps [0] rfl ?_
      exact wk_X9_pumped_L15 V_l1 V_l2 V_m1  C    _  h
set_option maxRecDepth 100000 in
theorem ct_X9_pumped (V_l1 : VC_l1) (V_l2 : VC_l2) (V_m1 : VC_m1) {l : Launch} {E : Ev}   (f : Fn) (a1 : Int32) (a2 : Int32) (hpre : Pre_X9_pumped f a1 a2) : CT l E layM yX9_pumped cX9_pumped 6 (some .int) 58 [.ref (E.2.1 0), .int a1, .int a2] f (pI (Post_X9_pumped f a1 a2)) := by
  refine CT.of (by decide +kernel) (Nat.le_of_ble_eq_true rfl) (fun Z hl9 hE9 hp9 C => ?_)
  subst hl9
  subst hE9
  exact wk_X9_pumped V_l1 V_l2 V_m1 C   f a1 a2 (by rw [hp9]; exact V_m1.2.2.2.2.2.2.2.2.2.2.2.2.2.2.2.2.2.2.2.2.2.2.2.2.2.2.2.2.2.2.2.2.2.2.2.2.2.2.2.2.2.2.2.2.2.2.2.2.2.2.2.2.2.2.2.2.2.2.2.1  f a1 a2  hpre)
set_option maxHeartbeats 4000000 in
set_option maxRecDepth 100000 in
theorem wk_X9_inStep_L15 (V_l1 : VC_l1) (V_l2 : VC_l2) (V_m1 : VC_m1) {Z : Zt}  (C : CX Z layM RX9 cX9_inStep 6 (some .int) 58)     (f : Fn)  (h : wp_X9_inStep_L15   f  (zp Z)) : GG Z f [(0, .ref (zad Z 0))] 15 [] := by
  refine g_aload_n C rfl dX9_inStep_15 rfl ?_
  refine g_iconst C ki_1 dX9_inStep_16 rfl ?_
  have hs2 := h.1
  replace h := h.2
  refine g_callVI C tw_881 tw_883 tp_15 tw_10 tw_884 hy_X9_finds (by decide) (by decide) rfl (Nat.le_of_ble_eq_true rfl) rfl rfl (ct_X9_finds V_l1 V_l2 V_m1   f (1 : Int32) hs2) dX9_inStep_17 rfl rfl (fun r3 f4 hp5 => ?_)
  replace h := h r3 f4 hp5
  exact g_iret C dX9_inStep_20 h
set_option maxHeartbeats 4000000 in
set_option maxRecDepth 100000 in
theorem wk_X9_inStep_L89 (V_l1 : VC_l1) (V_l2 : VC_l2) (V_m1 : VC_m1) {Z : Zt}  (C : CX Z layM RX9 cX9_inStep 6 (some .int) 58)     (f : Fn) (x3 : Int32) (x4 : Int32) (h : wp_X9_inStep_L89   f x3 x4 (zp Z)) : GG Z f [(0, .ref (zad Z 0)), (3, .int x3), (4, .int x4)] 89 [] := by
  refine g_aload_n C rfl dX9_inStep_89 rfl ?_
  refine fg_X9_7R (k := 0) (p := 1) C rfl rfl dX9_inStep_90 rfl ?_
  refine g_bipush C kb_17 dX9_inStep_93 rfl ?_
  refine g_iload_n C rfl dX9_inStep_95 rfl ?_
  refine g_iastx (k := 1) (j := 17) C rfl vi_17_264 kc_17 dX9_inStep_96 rfl ?_
  refine g_iload C rfl dX9_inStep_97 rfl ?_
  refine g_if_ge (tgt := 110) C dX9_inStep_99 (by decide) rfl (fun hc8 => ?_) (fun hc8 => ?_)
  · replace h := h.1 hc8
    refine g_iload C rfl dX9_inStep_110 rfl ?_
    exact g_iret C dX9_inStep_112 h
  · replace h := h.2 hc8
    refine g_aload_n C rfl dX9_inStep_102 rfl ?_
    refine g_iconst C ki_2 dX9_inStep_103 rfl ?_
    have hs9 := h.1
    replace h := h.2
    refine g_callVI C tw_881 tw_883 tp_15 tw_10 tw_884 hy_X9_finds (by decide) (by decide) rfl (Nat.le_of_ble_eq_true rfl) rfl rfl (ct_X9_finds V_l1 V_l2 V_m1   (up2 f 1 17 x3) (2 : Int32) hs9) dX9_inStep_104 rfl rfl (fun r10 f11 hp12 => ?_)
    replace h := h r10 f11 hp12
    refine g_goto (q := 112) C dX9_inStep_107 (by decide) ?_
    exact g_iret C dX9_inStep_112 h
set_option maxHeartbeats 4000000 in
set_option maxRecDepth 100000 in
theorem wk_X9_inStep_L81 (V_l1 : VC_l1) (V_l2 : VC_l2) (V_m1 : VC_m1) {Z : Zt}  (C : CX Z layM RX9 cX9_inStep 6 (some .int) 58)   {K35 : Fn → Int32 → Int32 → Int32 → Int32 → Int32 → Prop} (hK35 : ∀ (f : Fn) (x1 : Int32) (x2 : Int32) (x3 : Int32) (x4 : Int32) (x5 : Int32), K35 f x1 x2 x3 x4 x5 → GG Z f [(0, .ref (zad Z 0)), (1, .int x1), (2, .int x2), (3, .int x3), (4, .int x4), (5, .int x5)] 35 []) (f : Fn) (x1 : Int32) (x2 : Int32) (x3 : Int32) (x5 : Int32) (s0 : Int32) (h : wp_X9_inStep_L81  K35 f x1 x2 x3 x5 s0 (zp Z)) : GG Z f [(0, .ref (zad Z 0)), (1, .int x1), (2, .int x2), (3, .int x3), (5, .int x5)] 81 [.int s0] := by
  refine g_istore (lv' := [(4, .int s0), (0, .ref (zad Z 0)), (1, .int x1), (2, .int x2), (3, .int x3), (5, .int x5)]) C dX9_inStep_81 (by decide) rfl rfl ?_
  refine g_iinc (lv' := [(5, .int (x5 + (1 : Int32))), (4, .int s0), (0, .ref (zad Z 0)), (1, .int x1), (2, .int x2), (3, .int x3)]) C dX9_inStep_83 rfl (inc_1 _) (by decide) rfl rfl ?_
  refine g_goto (q := 35) C dX9_inStep_86 (by decide) ?_
  refine g_lps [0, 1, 2, 3, 4, 5] rfl ?_
  exact hK35 _ _ _ _ _ _ h
set_option maxHeartbeats 4000000 in
set_option maxRecDepth 100000 in
theorem wkb_X9_inStep_L35 (V_l1 : VC_l1) (V_l2 : VC_l2) (V_m1 : VC_m1) {Z : Zt}  (C : CX Z layM RX9 cX9_inStep 6 (some .int) 58)   {K35 : Fn → Int32 → Int32 → Int32 → Int32 → Int32 → Prop} (hK35 : ∀ (f : Fn) (x1 : Int32) (x2 : Int32) (x3 : Int32) (x4 : Int32) (x5 : Int32), K35 f x1 x2 x3 x4 x5 → GG Z f [(0, .ref (zad Z 0)), (1, .int x1), (2, .int x2), (3, .int x3), (4, .int x4), (5, .int x5)] 35 []) (f : Fn) (x1 : Int32) (x2 : Int32) (x3 : Int32) (x4 : Int32) (x5 : Int32) (h : wpb_X9_inStep_L35   K35 f x1 x2 x3 x4 x5 (zp Z)) : GG Z f [(0, .ref (zad Z 0)), (1, .int x1), (2, .int x2), (3, .int x3), (4, .int x4), (5, .int x5)] 35 [] := by
  refine g_iload C rfl dX9_inStep_35 rfl ?_
  refine g_bipush C kb_39 dX9_inStep_37 rfl ?_
  refine g_icmp_gt (tgt := 89) C dX9_inStep_39 (by decide) rfl (fun hc7 => ?_) (fun hc7 => ?_)
  · replace h := h.1 hc7
    refine g_lps [0, 3, 4] rfl ?_
    exact wk_X9_inStep_L89 V_l1 V_l2 V_m1  C    _ _ _ h
  · replace h := h.2 hc7
    refine g_iload C rfl dX9_inStep_42 rfl ?_
    refine g_if_ge (tgt := 89) C dX9_inStep_44 (by decide) rfl (fun hc13 => ?_) (fun hc13 => ?_)
    · replace h := h.1 hc13
      refine g_lps [0, 3, 4] rfl ?_
      exact wk_X9_inStep_L89 V_l1 V_l2 V_m1  C    _ _ _ h
    · replace h := h.2 hc13
      refine g_aload_n C rfl dX9_inStep_47 rfl ?_
      refine fg_X9_7R (k := 0) (p := 1) C rfl rfl dX9_inStep_48 rfl ?_
      refine g_bipush C kb_17 dX9_inStep_51 rfl ?_
      refine g_iload_n C rfl dX9_inStep_53 rfl ?_
      refine g_iload C rfl dX9_inStep_54 rfl ?_
      refine g_iadd C dX9_inStep_56 rfl ?_
      refine g_aload_n C rfl dX9_inStep_57 rfl ?_
      refine fg_X9_7R (k := 0) (p := 1) C rfl rfl dX9_inStep_58 rfl ?_
      refine g_bipush C kb_15 dX9_inStep_61 rfl ?_
      refine g_ialdx (k := 1) (j := 15) (x := (f 1 15)) C rfl vi_15_264 kc_15 rfl dX9_inStep_63 rfl ?_
      have hs14 := h.1
      replace h := h.2
      refine g_irem C hs14 dX9_inStep_64 rfl ?_
      refine g_iastx (k := 1) (j := 17) C rfl vi_17_264 kc_17 dX9_inStep_65 rfl ?_
      refine g_aload_n C rfl dX9_inStep_66 rfl ?_
      refine g_iload_n C rfl dX9_inStep_67 rfl ?_
      refine g_iload_n C rfl dX9_inStep_68 rfl ?_
      have hs15 := h.1
      replace h := h.2
      refine g_callVI C tw_1120 tw_1122 tp_45 tw_10 tw_1123 hy_X9_hasNext (by decide) (by decide) rfl (Nat.le_of_ble_eq_true rfl) rfl rfl (ct_X9_hasNext V_l1 V_l2 V_m1   (up2 f 1 17 ((x3 + x5) - ((x3 + x5) / (f 1 15)) * (f 1 15))) x1 x2 hs15) dX9_inStep_69 rfl rfl (fun r16 f17 hp18 => ?_)
      replace h := h r16 f17 hp18
      refine g_if_eq (tgt := 80) C dX9_inStep_72 (by decide) rfl (fun hc19 => ?_) (fun hc19 => ?_)
      · replace h := h.1 hc19
        refine g_iconst C ki_m1 dX9_inStep_80 rfl ?_
        refine g_lps [0, 1, 2, 3, 5] rfl ?_
        exact wk_X9_inStep_L81 V_l1 V_l2 V_m1  C   hK35 _ _ _ _ _ _ h
      · replace h := h.2 hc19
        refine g_iload C rfl dX9_inStep_75 rfl ?_
        refine g_goto (q := 81) C dX9_inStep_77 (by decide) ?_
        refine g_lps [0, 1, 2, 3, 5] rfl ?_
        exact wk_X9_inStep_L81 V_l1 V_l2 V_m1  C   hK35 _ _ _ _ _ _ h
set_option maxHeartbeats 4000000 in
set_option maxRecDepth 100000 in
theorem wk_X9_inStep_L35 (V_l1 : VC_l1) (V_l2 : VC_l2) (V_m1 : VC_m1) {Z : Zt}  (C : CX Z layM RX9 cX9_inStep 6 (some .int) 58)     (f : Fn) (x1 : Int32) (x2 : Int32) (x3 : Int32) (x4 : Int32) (x5 : Int32) (h : wp_X9_inStep_L35   f x1 x2 x3 x4 x5 (zp Z)) : GG Z f [(0, .ref (zad Z 0)), (1, .int x1), (2, .int x2), (3, .int x3), (4, .int x4), (5, .int x5)] 35 [] := by
  obtain ⟨I, μ, h0, hs⟩ := h
  suffices H : ∀ (N : Nat) (f : Fn) (x1 : Int32) (x2 : Int32) (x3 : Int32) (x4 : Int32) (x5 : Int32), μ f x1 x2 x3 x4 x5 < N → I f x1 x2 x3 x4 x5 → GG Z f [(0, .ref (zad Z 0)), (1, .int x1), (2, .int x2), (3, .int x3), (4, .int x4), (5, .int x5)] 35 [] from H _ f x1 x2 x3 x4 x5 (Nat.lt_succ_self _) h0
  clear h0
  intro N
  induction N with
  | zero => intro f x1 x2 x3 x4 x5 hm; exact absurd hm (Nat.not_lt_zero _)
  | succ N ih =>
    intro f x1 x2 x3 x4 x5 hm hi
    exact wkb_X9_inStep_L35 V_l1 V_l2 V_m1  C    (fun f9 x19 x29 x39 x49 x59 hk => ih f9 x19 x29 x39 x49 x59 (Nat.lt_of_lt_of_le hk.2 (Nat.le_of_lt_succ hm)) hk.1) f x1 x2 x3 x4 x5 (hs f x1 x2 x3 x4 x5 hi)
set_option maxHeartbeats 4000000 in
set_option maxRecDepth 100000 in
theorem wk_X9_inStep (V_l1 : VC_l1) (V_l2 : VC_l2) (V_m1 : VC_m1) {Z : Zt}  (C : CX Z layM RX9 cX9_inStep 6 (some .int) 58)     (f : Fn) (a1 : Int32) (a2 : Int32) (h : wp_X9_inStep  f a1 a2 (zp Z)) : GG Z f [(0, .ref (zad Z 0)), (1, .int a1), (2, .int a2)] 0 [] := by
  refine g_aload_n C rfl dX9_inStep_0 rfl ?_
  refine g_iload_n C rfl dX9_inStep_1 rfl ?_
  refine g_callVD C tw_988 tw_990 tp_29 tw_10 tw_991 hy_X9_isFlyer (by decide) (by decide) rfl (Nat.le_of_ble_eq_true rfl) rfl rfl (ct_X9_isFlyer V_l1 V_l2 V_m1   f a1 ) dX9_inStep_2 rfl rfl ?_
  refine g_if_eq (tgt := 15) C dX9_inStep_5 (by decide) rfl (fun hc1 => ?_) (fun hc1 => ?_)
  · replace h := h.1 hc1
    refine g_lps [0] rfl ?_
    exact wk_X9_inStep_L15 V_l1 V_l2 V_m1  C    _  h
  · replace h := h.2 hc1
    refine g_iload_n C rfl dX9_inStep_8 rfl ?_
    refine g_callSD C tw_1089 tw_1090 tw_10 tw_1091 hy_X9_isSpan (by decide) (by decide) rfl (Nat.le_of_ble_eq_true rfl) (ct_X9_isSpan V_l1 V_l2 V_m1   f a2 ) dX9_inStep_9 rfl rfl ?_
    refine g_if_ne (tgt := 21) C dX9_inStep_12 (by decide) rfl (fun hc6 => ?_) (fun hc6 => ?_)
    · replace h := h.1 hc6
      refine g_aload_n C rfl dX9_inStep_21 rfl ?_
      refine fg_X9_7R (k := 0) (p := 1) C rfl rfl dX9_inStep_22 rfl ?_
      refine g_bipush C kb_17 dX9_inStep_25 rfl ?_
      refine g_ialdx (k := 1) (j := 17) (x := (f 1 17)) C rfl vi_17_264 kc_17 rfl dX9_inStep_27 rfl ?_
      refine g_istore_n (lv' := [(3, .int (f 1 17)), (0, .ref (zad Z 0)), (1, .int a1), (2, .int a2)]) C dX9_inStep_28 (by decide) rfl rfl ?_
      refine g_iconst C ki_m1 dX9_inStep_29 rfl ?_
      refine g_istore (lv' := [(4, .int (-1 : Int32)), (3, .int (f 1 17)), (0, .ref (zad Z 0)), (1, .int a1), (2, .int a2)]) C dX9_inStep_30 (by decide) rfl rfl ?_
      refine g_iconst C ki_0 dX9_inStep_32 rfl ?_
      refine g_istore (lv' := [(5, .int (0 : Int32)), (4, .int (-1 : Int32)), (3, .int (f 1 17)), (0, .ref (zad Z 0)), (1, .int a1), (2, .int a2)]) C dX9_inStep_33 (by decide) rfl rfl ?_
      refine g_lps [0, 1, 2, 3, 4, 5] rfl ?_
      exact wk_X9_inStep_L35 V_l1 V_l2 V_m1  C    _ _ _ _ _ _ h
    · replace h := h.2 hc6
      refine g_lps [0] rfl ?_
      exact wk_X9_inStep_L15 V_l1 V_l2 V_m1  C    _  h
set_option maxRecDepth 100000 in
theorem ct_X9_inStep (V_l1 : VC_l1) (V_l2 : VC_l2) (V_m1 : VC_m1) {l : Launch} {E : Ev}   (f : Fn) (a1 : Int32) (a2 : Int32) (hpre : Pre_X9_inStep f a1 a2) : CT l E layM yX9_inStep cX9_inStep 6 (some .int) 58 [.ref (E.2.1 0), .int a1, .int a2] f (pI (Post_X9_inStep f a1 a2)) := by
  refine CT.of (by decide +kernel) (Nat.le_of_ble_eq_true rfl) (fun Z hl9 hE9 hp9 C => ?_)
  subst hl9
  subst hE9
  exact wk_X9_inStep V_l1 V_l2 V_m1 C   f a1 a2 (by rw [hp9]; exact V_m1.2.2.2.2.2.2.2.2.2.2.2.2.2.2.2.2.2.2.2.2.2.2.2.2.2.2.2.2.2.2.2.2.2.2.2.2.2.2.2.2.2.2.2.2.2.2.2.2.2.2.2.2.2.2.2.2.2.2.2.2.1  f a1 a2  hpre)
set_option maxHeartbeats 4000000 in
set_option maxRecDepth 100000 in
theorem wk_X9_mend_L40 (V_l1 : VC_l1) (V_l2 : VC_l2) (V_m1 : VC_m1) {Z : Zt}  (C : CX Z layM RX9 cX9_mend 6 (some .int) 56)     (f : Fn)  (h : wp_X9_mend_L40   f  (zp Z)) : GG Z f [(0, .ref (zad Z 0))] 40 [] := by
  refine g_aload_n C rfl dX9_mend_40 rfl ?_
  refine g_iconst C ki_1 dX9_mend_41 rfl ?_
  have hs2 := h.1
  replace h := h.2
  refine g_callVI C tw_881 tw_883 tp_15 tw_10 tw_884 hy_X9_finds (by decide) (by decide) rfl (Nat.le_of_ble_eq_true rfl) rfl rfl (ct_X9_finds V_l1 V_l2 V_m1   f (1 : Int32) hs2) dX9_mend_42 rfl rfl (fun r3 f4 hp5 => ?_)
  replace h := h r3 f4 hp5
  exact g_iret C dX9_mend_45 h
set_option maxHeartbeats 4000000 in
set_option maxRecDepth 100000 in
theorem wk_X9_mend (V_l1 : VC_l1) (V_l2 : VC_l2) (V_m1 : VC_m1) {Z : Zt}  (C : CX Z layM RX9 cX9_mend 6 (some .int) 56)     (f : Fn) (a1 : Int32) (a2 : Int32) (a3 : Int32) (a4 : Int32) (h : wp_X9_mend  f a1 a2 a3 a4 (zp Z)) : GG Z f [(0, .ref (zad Z 0)), (1, .int a1), (2, .int a2), (3, .int a3), (4, .int a4)] 0 [] := by
  refine g_aload_n C rfl dX9_mend_0 rfl ?_
  refine g_iload_n C rfl dX9_mend_1 rfl ?_
  refine g_callVD C tw_988 tw_990 tp_29 tw_10 tw_991 hy_X9_isFlyer (by decide) (by decide) rfl (Nat.le_of_ble_eq_true rfl) rfl rfl (ct_X9_isFlyer V_l1 V_l2 V_m1   f a1 ) dX9_mend_2 rfl rfl ?_
  refine g_if_eq (tgt := 40) C dX9_mend_5 (by decide) rfl (fun hc1 => ?_) (fun hc1 => ?_)
  · replace h := h.1 hc1
    refine g_lps [0] rfl ?_
    exact wk_X9_mend_L40 V_l1 V_l2 V_m1  C    _  h
  · replace h := h.2 hc1
    refine g_iload_n C rfl dX9_mend_8 rfl ?_
    refine g_callSD C tw_1082 tw_1083 tw_10 tw_1084 hy_X9_isSoon (by decide) (by decide) rfl (Nat.le_of_ble_eq_true rfl) (ct_X9_isSoon V_l1 V_l2 V_m1   f a2 ) dX9_mend_9 rfl rfl ?_
    refine g_if_eq (tgt := 40) C dX9_mend_12 (by decide) rfl (fun hc6 => ?_) (fun hc6 => ?_)
    · replace h := h.1 hc6
      refine g_lps [0] rfl ?_
      exact wk_X9_mend_L40 V_l1 V_l2 V_m1  C    _  h
    · replace h := h.2 hc6
      refine g_iload_n C rfl dX9_mend_15 rfl ?_
      refine g_i2l C dX9_mend_16 rfl ?_
      refine g_lconst C kl_0 dX9_mend_17 rfl ?_
      refine g_ldc2 C tw_1112 dX9_mend_18 rfl ?_
      refine g_callSD C tw_878 tw_879 tw_10 tw_880 hy_X9_in (by decide) (by decide) rfl (Nat.le_of_ble_eq_true rfl) (ct_X9_in V_l1 V_l2 V_m1   f a3.toInt64 (0 : Int64) (9 : Int64) ) dX9_mend_21 rfl rfl ?_
      refine g_if_eq (tgt := 40) C dX9_mend_24 (by decide) rfl (fun hc7 => ?_) (fun hc7 => ?_)
      · replace h := h.1 hc7
        refine g_lps [0] rfl ?_
        exact wk_X9_mend_L40 V_l1 V_l2 V_m1  C    _  h
      · replace h := h.2 hc7
        refine g_iload C rfl dX9_mend_27 rfl ?_
        refine g_i2l C dX9_mend_29 rfl ?_
        refine g_lconst C kl_0 dX9_mend_30 rfl ?_
        refine g_ldc2 C tw_1112 dX9_mend_31 rfl ?_
        refine g_callSD C tw_878 tw_879 tw_10 tw_880 hy_X9_in (by decide) (by decide) rfl (Nat.le_of_ble_eq_true rfl) (ct_X9_in V_l1 V_l2 V_m1   f a4.toInt64 (0 : Int64) (9 : Int64) ) dX9_mend_34 rfl rfl ?_
        refine g_if_ne (tgt := 46) C dX9_mend_37 (by decide) rfl (fun hc8 => ?_) (fun hc8 => ?_)
        · replace h := h.1 hc8
          refine g_aload_n C rfl dX9_mend_46 rfl ?_
          refine g_iload_n C rfl dX9_mend_47 rfl ?_
          refine g_aload_n C rfl dX9_mend_48 rfl ?_
          refine fg_X9_7R (k := 0) (p := 1) C rfl rfl dX9_mend_49 rfl ?_
          refine g_iconst C ki_1 dX9_mend_52 rfl ?_
          refine g_ialdx (k := 1) (j := 1) (x := (f 1 1)) C rfl vi_1_264 kc_1 rfl dX9_mend_53 rfl ?_
          refine g_iload_n C rfl dX9_mend_54 rfl ?_
          refine g_iadd C dX9_mend_55 rfl ?_
          have hs9 := h.1
          replace h := h.2
          refine g_callVV C tw_1033 tw_1035 tp_35 tw_10 tw_1036 hy_X9_isTold (by decide) (by decide) rfl (Nat.le_of_ble_eq_true rfl) rfl rfl (ct_X9_isTold V_l1 V_l2 V_m1   f a1 ((f 1 1) + a2) hs9) dX9_mend_56 rfl rfl (fun f10 hp11 => ?_)
          replace h := h f10 hp11
          refine g_aload_n C rfl dX9_mend_59 rfl ?_
          have hs12 := h.1
          replace h := h.2
          refine g_callVD C tw_1045 tw_1047 tp_38 tw_10 tw_1048 hy_X9_offNow (by decide) (by decide) rfl (Nat.le_of_ble_eq_true rfl) rfl rfl (ct_X9_offNow V_l1 V_l2 V_m1   f10 hs12) dX9_mend_60 rfl rfl ?_
          refine g_istore (lv' := [(5, .int (Val_X9_offNow f10)), (0, .ref (zad Z 0)), (1, .int a1), (2, .int a2), (3, .int a3), (4, .int a4)]) C dX9_mend_63 (by decide) rfl rfl ?_
          refine g_iload C rfl dX9_mend_65 rfl ?_
          refine g_iload C rfl dX9_mend_67 rfl ?_
          refine g_iload_n C rfl dX9_mend_69 rfl ?_
          refine g_imul C dX9_mend_70 rfl ?_
          refine g_bipush C kb_10 dX9_mend_71 rfl ?_
          refine g_idiv C (by decide) dX9_mend_73 rfl ?_
          refine g_isub C dX9_mend_74 rfl ?_
          refine g_iload C rfl dX9_mend_75 rfl ?_
          refine g_iload C rfl dX9_mend_77 rfl ?_
          refine g_imul C dX9_mend_79 rfl ?_
          refine g_bipush C kb_10 dX9_mend_80 rfl ?_
          refine g_idiv C (by decide) dX9_mend_82 rfl ?_
          refine g_isub C dX9_mend_83 rfl ?_
          exact g_iret C dX9_mend_84 h
        · replace h := h.2 hc8
          refine g_lps [0] rfl ?_
          exact wk_X9_mend_L40 V_l1 V_l2 V_m1  C    _  h
set_option maxRecDepth 100000 in
theorem ct_X9_mend (V_l1 : VC_l1) (V_l2 : VC_l2) (V_m1 : VC_m1) {l : Launch} {E : Ev}   (f : Fn) (a1 : Int32) (a2 : Int32) (a3 : Int32) (a4 : Int32) (hpre : Pre_X9_mend f a1 a2 a3 a4) : CT l E layM yX9_mend cX9_mend 6 (some .int) 56 [.ref (E.2.1 0), .int a1, .int a2, .int a3, .int a4] f (pI (Post_X9_mend f a1 a2 a3 a4)) := by
  refine CT.of (by decide +kernel) (Nat.le_of_ble_eq_true rfl) (fun Z hl9 hE9 hp9 C => ?_)
  subst hl9
  subst hE9
  exact wk_X9_mend V_l1 V_l2 V_m1 C   f a1 a2 a3 a4 (by rw [hp9]; exact V_m1.2.2.2.2.2.2.2.2.2.2.2.2.2.2.2.2.2.2.2.2.2.2.2.2.2.2.2.2.2.2.2.2.2.2.2.2.2.2.2.2.2.2.2.2.2.2.2.2.2.2.2.2.2.2.2.2.2.2.2.2.2.1  f a1 a2 a3 a4  hpre)
set_option maxHeartbeats 4000000 in
set_option maxRecDepth 100000 in
theorem wk_X9_again_L51 (V_l1 : VC_l1) (V_l2 : VC_l2) (V_m1 : VC_m1) {Z : Zt}  (C : CX Z layM RX9 cX9_again 16 (some .long) 57)     (f : Fn)  (h : wp_X9_again_L51   f  (zp Z)) : GG Z f [(0, .ref (zad Z 0))] 51 [] := by
  refine g_aload_n C rfl dX9_again_51 rfl ?_
  refine g_iconst C ki_1 dX9_again_52 rfl ?_
  have hs2 := h.1
  replace h := h.2
  refine g_callVI C tw_881 tw_883 tp_15 tw_10 tw_884 hy_X9_finds (by decide) (by decide) rfl (Nat.le_of_ble_eq_true rfl) rfl rfl (ct_X9_finds V_l1 V_l2 V_m1   f (1 : Int32) hs2) dX9_again_53 rfl rfl (fun r3 f4 hp5 => ?_)
  replace h := h r3 f4 hp5
  refine g_i2l C dX9_again_56 rfl ?_
  exact g_lret C dX9_again_57 h
set_option maxHeartbeats 4000000 in
set_option maxRecDepth 100000 in
theorem wk_X9_again_L110 (V_l1 : VC_l1) (V_l2 : VC_l2) (V_m1 : VC_m1) {Z : Zt}  (C : CX Z layM RX9 cX9_again 16 (some .long) 57)     (f : Fn) (x5 : Int32) (x6 : Int64) (x8 : Int64) (s0 : Int64) (h : wp_X9_again_L110   f x5 x6 x8 s0 (zp Z)) : GG Z f [(5, .int x5), (6, .long x6), (8, .long x8)] 110 [.long s0] := by
  refine g_lstore (lv' := [(10, .long s0), (5, .int x5), (6, .long x6), (8, .long x8)]) C dX9_again_110 (by decide) rfl rfl ?_
  refine g_ldc2 C tw_1112 dX9_again_112 rfl ?_
  refine g_lload C rfl dX9_again_115 rfl ?_
  refine g_lmul C dX9_again_117 rfl ?_
  refine g_ldc2 C tw_1112 dX9_again_118 rfl ?_
  refine g_lload C rfl dX9_again_121 rfl ?_
  refine g_lsub C dX9_again_123 rfl ?_
  refine g_lload C rfl dX9_again_124 rfl ?_
  refine g_lmul C dX9_again_126 rfl ?_
  refine g_ladd C dX9_again_127 rfl ?_
  refine g_lstore (lv' := [(12, .long (((9 : Int64) * x8) + (((9 : Int64) - x6) * s0))), (10, .long s0), (5, .int x5), (6, .long x6), (8, .long x8)]) C dX9_again_128 (by decide) rfl rfl ?_
  refine g_lload C rfl dX9_again_130 rfl ?_
  refine g_ldc2 C tw_1137 dX9_again_132 rfl ?_
  have hs19 := h.1
  replace h := h.2
  refine g_callSL C tw_1113 tw_1114 tw_10 tw_1115 hy_X9_common (by decide) (by decide) rfl (Nat.le_of_ble_eq_true rfl) (ct_X9_common V_l1 V_l2 V_m1   f (((9 : Int64) * x8) + (((9 : Int64) - x6) * s0)) (81 : Int64) hs19) dX9_again_135 rfl rfl (fun r20 f21 hp22 => ?_)
  replace h := h r20 f21 hp22
  refine g_lstore (lv' := [(14, .long r20), (12, .long (((9 : Int64) * x8) + (((9 : Int64) - x6) * s0))), (10, .long s0), (5, .int x5), (6, .long x6), (8, .long x8)]) C dX9_again_138 (by decide) rfl rfl ?_
  refine g_iload C rfl dX9_again_140 rfl ?_
  refine g_if_ne (tgt := 153) C dX9_again_142 (by decide) rfl (fun hc23 => ?_) (fun hc23 => ?_)
  · replace h := h.1 hc23
    refine g_ldc2 C tw_1137 dX9_again_153 rfl ?_
    refine g_lload C rfl dX9_again_156 rfl ?_
    have hs24 := h.1
    replace h := h.2
    refine g_ldiv C hs24 dX9_again_158 rfl ?_
    exact g_lret C dX9_again_159 h
  · replace h := h.2 hc23
    refine g_lload C rfl dX9_again_145 rfl ?_
    refine g_lload C rfl dX9_again_147 rfl ?_
    have hs25 := h.1
    replace h := h.2
    refine g_ldiv C hs25 dX9_again_149 rfl ?_
    refine g_goto (q := 159) C dX9_again_150 (by decide) ?_
    exact g_lret C dX9_again_159 h
set_option maxHeartbeats 4000000 in
set_option maxRecDepth 100000 in
theorem wk_X9_again (V_l1 : VC_l1) (V_l2 : VC_l2) (V_m1 : VC_m1) {Z : Zt}  (C : CX Z layM RX9 cX9_again 16 (some .long) 57)     (f : Fn) (a1 : Int32) (a2 : Int32) (a3 : Int32) (a4 : Int32) (a5 : Int32) (h : wp_X9_again  f a1 a2 a3 a4 a5 (zp Z)) : GG Z f [(0, .ref (zad Z 0)), (1, .int a1), (2, .int a2), (3, .int a3), (4, .int a4), (5, .int a5)] 0 [] := by
  refine g_aload_n C rfl dX9_again_0 rfl ?_
  refine g_iload_n C rfl dX9_again_1 rfl ?_
  refine g_callVD C tw_988 tw_990 tp_29 tw_10 tw_991 hy_X9_isFlyer (by decide) (by decide) rfl (Nat.le_of_ble_eq_true rfl) rfl rfl (ct_X9_isFlyer V_l1 V_l2 V_m1   f a1 ) dX9_again_2 rfl rfl ?_
  refine g_if_eq (tgt := 51) C dX9_again_5 (by decide) rfl (fun hc1 => ?_) (fun hc1 => ?_)
  · replace h := h.1 hc1
    refine g_lps [0] rfl ?_
    exact wk_X9_again_L51 V_l1 V_l2 V_m1  C    _  h
  · replace h := h.2 hc1
    refine g_iload_n C rfl dX9_again_8 rfl ?_
    refine g_callSD C tw_1089 tw_1090 tw_10 tw_1091 hy_X9_isSpan (by decide) (by decide) rfl (Nat.le_of_ble_eq_true rfl) (ct_X9_isSpan V_l1 V_l2 V_m1   f a2 ) dX9_again_9 rfl rfl ?_
    refine g_if_eq (tgt := 51) C dX9_again_12 (by decide) rfl (fun hc6 => ?_) (fun hc6 => ?_)
    · replace h := h.1 hc6
      refine g_lps [0] rfl ?_
      exact wk_X9_again_L51 V_l1 V_l2 V_m1  C    _  h
    · replace h := h.2 hc6
      refine g_iload_n C rfl dX9_again_15 rfl ?_
      refine g_i2l C dX9_again_16 rfl ?_
      refine g_lconst C kl_0 dX9_again_17 rfl ?_
      refine g_ldc2 C tw_1136 dX9_again_18 rfl ?_
      refine g_callSD C tw_878 tw_879 tw_10 tw_880 hy_X9_in (by decide) (by decide) rfl (Nat.le_of_ble_eq_true rfl) (ct_X9_in V_l1 V_l2 V_m1   f a3.toInt64 (0 : Int64) (99 : Int64) ) dX9_again_21 rfl rfl ?_
      refine g_if_eq (tgt := 51) C dX9_again_24 (by decide) rfl (fun hc7 => ?_) (fun hc7 => ?_)
      · replace h := h.1 hc7
        refine g_lps [0] rfl ?_
        exact wk_X9_again_L51 V_l1 V_l2 V_m1  C    _  h
      · replace h := h.2 hc7
        refine g_iload C rfl dX9_again_27 rfl ?_
        refine g_i2l C dX9_again_29 rfl ?_
        refine g_lconst C kl_0 dX9_again_30 rfl ?_
        refine g_ldc2 C tw_1136 dX9_again_31 rfl ?_
        refine g_callSD C tw_878 tw_879 tw_10 tw_880 hy_X9_in (by decide) (by decide) rfl (Nat.le_of_ble_eq_true rfl) (ct_X9_in V_l1 V_l2 V_m1   f a4.toInt64 (0 : Int64) (99 : Int64) ) dX9_again_34 rfl rfl ?_
        refine g_if_eq (tgt := 51) C dX9_again_37 (by decide) rfl (fun hc8 => ?_) (fun hc8 => ?_)
        · replace h := h.1 hc8
          refine g_lps [0] rfl ?_
          exact wk_X9_again_L51 V_l1 V_l2 V_m1  C    _  h
        · replace h := h.2 hc8
          refine g_iload C rfl dX9_again_40 rfl ?_
          refine g_i2l C dX9_again_42 rfl ?_
          refine g_lconst C kl_0 dX9_again_43 rfl ?_
          refine g_lconst C kl_1 dX9_again_44 rfl ?_
          refine g_callSD C tw_878 tw_879 tw_10 tw_880 hy_X9_in (by decide) (by decide) rfl (Nat.le_of_ble_eq_true rfl) (ct_X9_in V_l1 V_l2 V_m1   f a5.toInt64 (0 : Int64) (1 : Int64) ) dX9_again_45 rfl rfl ?_
          refine g_if_ne (tgt := 58) C dX9_again_48 (by decide) rfl (fun hc9 => ?_) (fun hc9 => ?_)
          · replace h := h.1 hc9
            refine g_aload_n C rfl dX9_again_58 rfl ?_
            refine g_iload_n C rfl dX9_again_59 rfl ?_
            refine g_aload_n C rfl dX9_again_60 rfl ?_
            refine fg_X9_7R (k := 0) (p := 1) C rfl rfl dX9_again_61 rfl ?_
            refine g_iconst C ki_1 dX9_again_64 rfl ?_
            refine g_ialdx (k := 1) (j := 1) (x := (f 1 1)) C rfl vi_1_264 kc_1 rfl dX9_again_65 rfl ?_
            refine g_aload_n C rfl dX9_again_66 rfl ?_
            refine g_iload_n C rfl dX9_again_67 rfl ?_
            refine g_iload_n C rfl dX9_again_68 rfl ?_
            have hs10 := h.1
            replace h := h.2
            refine g_callVI C tw_1100 tw_1102 tp_43 tw_10 tw_1103 hy_X9_surestOf (by decide) (by decide) rfl (Nat.le_of_ble_eq_true rfl) rfl rfl (ct_X9_surestOf V_l1 V_l2 V_m1   f a1 a2 hs10) dX9_again_69 rfl rfl (fun r11 f12 hp13 => ?_)
            replace h := h r11 f12 hp13
            refine g_iadd C dX9_again_72 rfl ?_
            have hs14 := h.1
            replace h := h.2
            refine g_callVI C tw_1104 tw_1106 tp_44 tw_10 tw_1107 hy_X9_casesAt (by decide) (by decide) rfl (Nat.le_of_ble_eq_true rfl) rfl rfl (ct_X9_casesAt V_l1 V_l2 V_m1   f12 a1 ((f 1 1) + r11) hs14) dX9_again_73 rfl rfl (fun r15 f16 hp17 => ?_)
            replace h := h r15 f16 hp17
            refine g_i2l C dX9_again_76 rfl ?_
            refine g_lstore (lv' := [(6, .long r15.toInt64), (0, .ref (zad Z 0)), (1, .int a1), (2, .int a2), (3, .int a3), (4, .int a4), (5, .int a5)]) C dX9_again_77 (by decide) rfl rfl ?_
            refine g_lload C rfl dX9_again_79 rfl ?_
            refine g_iload_n C rfl dX9_again_81 rfl ?_
            refine g_i2l C dX9_again_82 rfl ?_
            refine g_lmul C dX9_again_83 rfl ?_
            refine g_ldc2 C tw_1112 dX9_again_84 rfl ?_
            refine g_lload C rfl dX9_again_87 rfl ?_
            refine g_lsub C dX9_again_89 rfl ?_
            refine g_iload C rfl dX9_again_90 rfl ?_
            refine g_i2l C dX9_again_92 rfl ?_
            refine g_lmul C dX9_again_93 rfl ?_
            refine g_lsub C dX9_again_94 rfl ?_
            refine g_lstore (lv' := [(8, .long ((r15.toInt64 * a3.toInt64) - (((9 : Int64) - r15.toInt64) * a4.toInt64))), (6, .long r15.toInt64), (0, .ref (zad Z 0)), (1, .int a1), (2, .int a2), (3, .int a3), (4, .int a4), (5, .int a5)]) C dX9_again_95 (by decide) rfl rfl ?_
            refine g_lload C rfl dX9_again_97 rfl ?_
            refine g_lconst C kl_0 dX9_again_99 rfl ?_
            refine g_lcmp C dX9_again_100 rfl ?_
            refine g_if_le (tgt := 109) C dX9_again_101 (by decide) rfl (fun hc18 => ?_) (fun hc18 => ?_)
            · replace h := h.1 hc18
              refine g_lconst C kl_0 dX9_again_109 rfl ?_
              refine g_lps [5, 6, 8] rfl ?_
              exact wk_X9_again_L110 V_l1 V_l2 V_m1  C    _ _ _ _ _ h
            · replace h := h.2 hc18
              refine g_lload C rfl dX9_again_104 rfl ?_
              refine g_goto (q := 110) C dX9_again_106 (by decide) ?_
              refine g_lps [5, 6, 8] rfl ?_
              exact wk_X9_again_L110 V_l1 V_l2 V_m1  C    _ _ _ _ _ h
          · replace h := h.2 hc9
            refine g_lps [0] rfl ?_
            exact wk_X9_again_L51 V_l1 V_l2 V_m1  C    _  h
set_option maxRecDepth 100000 in
theorem ct_X9_again (V_l1 : VC_l1) (V_l2 : VC_l2) (V_m1 : VC_m1) {l : Launch} {E : Ev}   (f : Fn) (a1 : Int32) (a2 : Int32) (a3 : Int32) (a4 : Int32) (a5 : Int32) (hpre : Pre_X9_again f a1 a2 a3 a4 a5) : CT l E layM yX9_again cX9_again 16 (some .long) 57 [.ref (E.2.1 0), .int a1, .int a2, .int a3, .int a4, .int a5] f (pL (Post_X9_again f a1 a2 a3 a4 a5)) := by
  refine CT.of (by decide +kernel) (Nat.le_of_ble_eq_true rfl) (fun Z hl9 hE9 hp9 C => ?_)
  subst hl9
  subst hE9
  exact wk_X9_again V_l1 V_l2 V_m1 C   f a1 a2 a3 a4 a5 (by rw [hp9]; exact V_m1.2.2.2.2.2.2.2.2.2.2.2.2.2.2.2.2.2.2.2.2.2.2.2.2.2.2.2.2.2.2.2.2.2.2.2.2.2.2.2.2.2.2.2.2.2.2.2.2.2.2.2.2.2.2.2.2.2.2.2.2.2.2.1  f a1 a2 a3 a4 a5  hpre)
set_option maxHeartbeats 4000000 in
set_option maxRecDepth 100000 in
theorem wk_X9_findFalls_L56 (V_l1 : VC_l1) (V_l2 : VC_l2) (V_m1 : VC_m1) {Z : Zt}  (C : CX Z layM RX9 cX9_findFalls 4 none 56)   {K7 : Fn → Int32 → Int32 → Int32 → Prop} (hK7 : ∀ (f : Fn) (x1 : Int32) (x2 : Int32) (x3 : Int32), K7 f x1 x2 x3 → GG Z f [(0, .ref (zad Z 0)), (1, .int x1), (2, .int x2), (3, .int x3)] 7 []) (f : Fn) (x1 : Int32) (x2 : Int32) (x3 : Int32) (h : wp_X9_findFalls_L56  K7 f x1 x2 x3 (zp Z)) : GG Z f [(0, .ref (zad Z 0)), (1, .int x1), (2, .int x2), (3, .int x3)] 56 [] := by
  refine g_iinc (lv' := [(3, .int (x3 + (1 : Int32))), (0, .ref (zad Z 0)), (1, .int x1), (2, .int x2)]) C dX9_findFalls_56 rfl (inc_1 _) (by decide) rfl rfl ?_
  refine g_goto (q := 7) C dX9_findFalls_59 (by decide) ?_
  refine g_lps [0, 1, 2, 3] rfl ?_
  exact hK7 _ _ _ _ h
set_option maxHeartbeats 4000000 in
set_option maxRecDepth 100000 in
theorem wkb_X9_findFalls_L7 (V_l1 : VC_l1) (V_l2 : VC_l2) (V_m1 : VC_m1) {Z : Zt}  (C : CX Z layM RX9 cX9_findFalls 4 none 56)   {K7 : Fn → Int32 → Int32 → Int32 → Prop} (hK7 : ∀ (f : Fn) (x1 : Int32) (x2 : Int32) (x3 : Int32), K7 f x1 x2 x3 → GG Z f [(0, .ref (zad Z 0)), (1, .int x1), (2, .int x2), (3, .int x3)] 7 []) (f : Fn) (x1 : Int32) (x2 : Int32) (x3 : Int32) (h : wpb_X9_findFalls_L7   K7 f x1 x2 x3 (zp Z)) : GG Z f [(0, .ref (zad Z 0)), (1, .int x1), (2, .int x2), (3, .int x3)] 7 [] := by
  refine g_iload_n C rfl dX9_findFalls_7 rfl ?_
  refine g_iload_n C rfl dX9_findFalls_8 rfl ?_
  refine g_icmp_ge (tgt := 62) C dX9_findFalls_9 (by decide) rfl (fun hc1 => ?_) (fun hc1 => ?_)
  · replace h := h.1 hc1
    exact g_vret C dX9_findFalls_62 h
  · replace h := h.2 hc1
    refine g_aload_n C rfl dX9_findFalls_12 rfl ?_
    refine g_iload_n C rfl dX9_findFalls_13 rfl ?_
    refine g_aload_n C rfl dX9_findFalls_14 rfl ?_
    refine fg_X9_7R (k := 0) (p := 1) C rfl rfl dX9_findFalls_15 rfl ?_
    refine g_iconst C ki_1 dX9_findFalls_18 rfl ?_
    refine g_ialdx (k := 1) (j := 1) (x := (f 1 1)) C rfl vi_1_264 kc_1 rfl dX9_findFalls_19 rfl ?_
    refine g_iload_n C rfl dX9_findFalls_20 rfl ?_
    refine g_iadd C dX9_findFalls_21 rfl ?_
    have hs2 := h.1
    replace h := h.2
    refine g_callVV C tw_1033 tw_1035 tp_35 tw_10 tw_1036 hy_X9_isTold (by decide) (by decide) rfl (Nat.le_of_ble_eq_true rfl) rfl rfl (ct_X9_isTold V_l1 V_l2 V_m1   f x1 ((f 1 1) + x3) hs2) dX9_findFalls_22 rfl rfl (fun f3 hp4 => ?_)
    replace h := h f3 hp4
    refine g_aload_n C rfl dX9_findFalls_25 rfl ?_
    refine g_iload_n C rfl dX9_findFalls_26 rfl ?_
    have hs5 := h.1
    replace h := h.2
    refine g_callVD C tw_1041 tw_1043 tp_37 tw_10 tw_1044 hy_X9_isCaught (by decide) (by decide) rfl (Nat.le_of_ble_eq_true rfl) rfl rfl (ct_X9_isCaught V_l1 V_l2 V_m1   f3 x1 hs5) dX9_findFalls_27 rfl rfl ?_
    refine g_if_ne (tgt := 56) C dX9_findFalls_30 (by decide) rfl (fun hc6 => ?_) (fun hc6 => ?_)
    · replace h := h.1 hc6
      exact wk_X9_findFalls_L56 V_l1 V_l2 V_m1  C   hK7 _ _ _ _ h
    · replace h := h.2 hc6
      refine g_aload_n C rfl dX9_findFalls_33 rfl ?_
      refine fg_X9_26R (k := 0) (p := 5) C rfl rfl dX9_findFalls_34 rfl ?_
      refine g_aload_n C rfl dX9_findFalls_37 rfl ?_
      refine fg_X9_243I (k := 0) (x := (f3 0 17)) C rfl rfl rfl dX9_findFalls_38 rfl ?_
      refine g_aload_n C rfl dX9_findFalls_41 rfl ?_
      refine fg_X9_175I (k := 0) (x := (f3 0 12)) C rfl rfl rfl dX9_findFalls_42 rfl ?_
      have hs7 := h.1
      replace h := h.2
      refine g_iastx (k := 5) (j := (f3 0 17).toNatClampNeg) C rfl hs7 rfl dX9_findFalls_45 rfl ?_
      refine g_aload_n C rfl dX9_findFalls_46 rfl ?_
      refine g_dup C rfl dX9_findFalls_47 rfl ?_
      refine fg_X9_243I (k := 0) (x := (f3 0 17)) C rfl rfl (by simp [up2, upd]) dX9_findFalls_48 rfl ?_
      refine g_iconst C ki_1 dX9_findFalls_51 rfl ?_
      refine g_iadd C dX9_findFalls_52 rfl ?_
      refine fp_X9_243 (k := 0) C rfl rfl (Nat.le_of_ble_eq_true rfl) dX9_findFalls_53 rfl ?_
      exact wk_X9_findFalls_L56 V_l1 V_l2 V_m1  C   hK7 _ _ _ _ h
set_option maxHeartbeats 4000000 in
set_option maxRecDepth 100000 in
theorem wk_X9_findFalls_L7 (V_l1 : VC_l1) (V_l2 : VC_l2) (V_m1 : VC_m1) {Z : Zt}  (C : CX Z layM RX9 cX9_findFalls 4 none 56)     (f : Fn) (x1 : Int32) (x2 : Int32) (x3 : Int32) (h : wp_X9_findFalls_L7   f x1 x2 x3 (zp Z)) : GG Z f [(0, .ref (zad Z 0)), (1, .int x1), (2, .int x2), (3, .int x3)] 7 [] := by
  obtain ⟨I, μ, h0, hs⟩ := h
  suffices H : ∀ (N : Nat) (f : Fn) (x1 : Int32) (x2 : Int32) (x3 : Int32), μ f x1 x2 x3 < N → I f x1 x2 x3 → GG Z f [(0, .ref (zad Z 0)), (1, .int x1), (2, .int x2), (3, .int x3)] 7 [] from H _ f x1 x2 x3 (Nat.lt_succ_self _) h0
  clear h0
  intro N
  induction N with
  | zero => intro f x1 x2 x3 hm; exact absurd hm (Nat.not_lt_zero _)
  | succ N ih =>
    intro f x1 x2 x3 hm hi
    exact wkb_X9_findFalls_L7 V_l1 V_l2 V_m1  C    (fun f9 x19 x29 x39 hk => ih f9 x19 x29 x39 (Nat.lt_of_lt_of_le hk.2 (Nat.le_of_lt_succ hm)) hk.1) f x1 x2 x3 (hs f x1 x2 x3 hi)
set_option maxHeartbeats 4000000 in
set_option maxRecDepth 100000 in
theorem wk_X9_findFalls (V_l1 : VC_l1) (V_l2 : VC_l2) (V_m1 : VC_m1) {Z : Zt}  (C : CX Z layM RX9 cX9_findFalls 4 none 56)     (f : Fn) (a1 : Int32) (a2 : Int32) (h : wp_X9_findFalls  f a1 a2 (zp Z)) : GG Z f [(0, .ref (zad Z 0)), (1, .int a1), (2, .int a2)] 0 [] := by
  refine g_aload_n C rfl dX9_findFalls_0 rfl ?_
  refine g_iconst C ki_0 dX9_findFalls_1 rfl ?_
  refine fp_X9_243 (k := 0) C rfl rfl (Nat.le_of_ble_eq_true rfl) dX9_findFalls_2 rfl ?_
  refine g_iconst C ki_0 dX9_findFalls_5 rfl ?_
  refine g_istore_n (lv' := [(3, .int (0 : Int32)), (0, .ref (zad Z 0)), (1, .int a1), (2, .int a2)]) C dX9_findFalls_6 (by decide) rfl rfl ?_
  refine g_lps [0, 1, 2, 3] rfl ?_
  exact wk_X9_findFalls_L7 V_l1 V_l2 V_m1  C    _ _ _ _ h
set_option maxRecDepth 100000 in
theorem ct_X9_findFalls (V_l1 : VC_l1) (V_l2 : VC_l2) (V_m1 : VC_m1) {l : Launch} {E : Ev}   (f : Fn) (a1 : Int32) (a2 : Int32) (hpre : Pre_X9_findFalls f a1 a2) : CT l E layM yX9_findFalls cX9_findFalls 4 none 56 [.ref (E.2.1 0), .int a1, .int a2] f (pV (Post_X9_findFalls f a1 a2)) := by
  refine CT.of (by decide +kernel) (Nat.le_of_ble_eq_true rfl) (fun Z hl9 hE9 hp9 C => ?_)
  subst hl9
  subst hE9
  exact wk_X9_findFalls V_l1 V_l2 V_m1 C   f a1 a2 (by rw [hp9]; exact V_m1.2.2.2.2.2.2.2.2.2.2.2.2.2.2.2.2.2.2.2.2.2.2.2.2.2.2.2.2.2.2.2.2.2.2.2.2.2.2.2.2.2.2.2.2.2.2.2.2.2.2.2.2.2.2.2.2.2.2.2.2.2.2.2.1  f a1 a2  hpre)
set_option maxHeartbeats 4000000 in
set_option maxRecDepth 100000 in
theorem wkb_X9_harmBy_L5 (V_l1 : VC_l1) (V_l2 : VC_l2) (V_m1 : VC_m1) {Z : Zt}  (C : CX Z layM RX9 cX9_harmBy 6 (some .long) 2)   {K5 : Fn → Int32 → Int32 → Int64 → Int32 → Prop} (hK5 : ∀ (f : Fn) (x1 : Int32) (x2 : Int32) (x3 : Int64) (x5 : Int32), K5 f x1 x2 x3 x5 → GG Z f [(0, .ref (zad Z 0)), (1, .int x1), (2, .int x2), (3, .long x3), (5, .int x5)] 5 []) (f : Fn) (x1 : Int32) (x2 : Int32) (x3 : Int64) (x5 : Int32) (h : wpb_X9_harmBy_L5   K5 f x1 x2 x3 x5 (zp Z)) : GG Z f [(0, .ref (zad Z 0)), (1, .int x1), (2, .int x2), (3, .long x3), (5, .int x5)] 5 [] := by
  refine g_iload C rfl dX9_harmBy_5 rfl ?_
  refine g_aload_n C rfl dX9_harmBy_7 rfl ?_
  refine fg_X9_243I (k := 0) (x := (f 0 17)) C rfl rfl rfl dX9_harmBy_8 rfl ?_
  refine g_icmp_ge (tgt := 41) C dX9_harmBy_11 (by decide) rfl (fun hc1 => ?_) (fun hc1 => ?_)
  · replace h := h.1 hc1
    refine g_lload_n C rfl dX9_harmBy_41 rfl ?_
    exact g_lret C dX9_harmBy_42 h
  · replace h := h.2 hc1
    refine g_lload_n C rfl dX9_harmBy_14 rfl ?_
    refine g_aload_n C rfl dX9_harmBy_15 rfl ?_
    refine g_iload_n C rfl dX9_harmBy_16 rfl ?_
    refine g_aload_n C rfl dX9_harmBy_17 rfl ?_
    refine fg_X9_26R (k := 0) (p := 5) C rfl rfl dX9_harmBy_18 rfl ?_
    refine g_iload C rfl dX9_harmBy_21 rfl ?_
    have hs2 := h.1
    replace h := h.2
    refine g_ialdx (k := 5) (j := x5.toNatClampNeg) (x := (f 5 x5.toNatClampNeg)) C rfl hs2 rfl rfl dX9_harmBy_23 rfl ?_
    refine g_iload_n C rfl dX9_harmBy_24 rfl ?_
    refine g_isub C dX9_harmBy_25 rfl ?_
    refine g_callSD C tw_1053 tw_1054 tw_10 tw_1055 hy_X9_size0 (by decide) (by decide) rfl (Nat.le_of_ble_eq_true rfl) (ct_X9_size0 V_l1 V_l2 V_m1   f ((f 5 x5.toNatClampNeg) - x2) ) dX9_harmBy_26 rfl rfl ?_
    have hs3 := h.1
    replace h := h.2
    refine g_callVD C tw_1005 tw_1007 tp_33 tw_10 tw_1008 hy_X9_harmOf (by decide) (by decide) rfl (Nat.le_of_ble_eq_true rfl) rfl rfl (ct_X9_harmOf V_l1 V_l2 V_m1   f x1 (Val_X9_size0 f ((f 5 x5.toNatClampNeg) - x2)) hs3) dX9_harmBy_29 rfl rfl ?_
    refine g_i2l C dX9_harmBy_32 rfl ?_
    refine g_ladd C dX9_harmBy_33 rfl ?_
    refine g_lstore_n (lv' := [(3, .long (x3 + (Val_X9_harmOf f x1 (Val_X9_size0 f ((f 5 x5.toNatClampNeg) - x2))).toInt64)), (0, .ref (zad Z 0)), (1, .int x1), (2, .int x2), (5, .int x5)]) C dX9_harmBy_34 (by decide) rfl rfl ?_
    refine g_iinc (lv' := [(5, .int (x5 + (1 : Int32))), (3, .long (x3 + (Val_X9_harmOf f x1 (Val_X9_size0 f ((f 5 x5.toNatClampNeg) - x2))).toInt64)), (0, .ref (zad Z 0)), (1, .int x1), (2, .int x2)]) C dX9_harmBy_35 rfl (inc_1 _) (by decide) rfl rfl ?_
    refine g_goto (q := 5) C dX9_harmBy_38 (by decide) ?_
    refine g_lps [0, 1, 2, 3, 5] rfl ?_
    exact hK5 _ _ _ _ _ h
set_option maxHeartbeats 4000000 in
set_option maxRecDepth 100000 in
theorem wk_X9_harmBy_L5 (V_l1 : VC_l1) (V_l2 : VC_l2) (V_m1 : VC_m1) {Z : Zt}  (C : CX Z layM RX9 cX9_harmBy 6 (some .long) 2)     (f : Fn) (x1 : Int32) (x2 : Int32) (x3 : Int64) (x5 : Int32) (h : wp_X9_harmBy_L5   f x1 x2 x3 x5 (zp Z)) : GG Z f [(0, .ref (zad Z 0)), (1, .int x1), (2, .int x2), (3, .long x3), (5, .int x5)] 5 [] := by
  obtain ⟨I, μ, h0, hs⟩ := h
  suffices H : ∀ (N : Nat) (f : Fn) (x1 : Int32) (x2 : Int32) (x3 : Int64) (x5 : Int32), μ f x1 x2 x3 x5 < N → I f x1 x2 x3 x5 → GG Z f [(0, .ref (zad Z 0)), (1, .int x1), (2, .int x2), (3, .long x3), (5, .int x5)] 5 [] from H _ f x1 x2 x3 x5 (Nat.lt_succ_self _) h0
  clear h0
  intro N
  induction N with
  | zero => intro f x1 x2 x3 x5 hm; exact absurd hm (Nat.not_lt_zero _)
  | succ N ih =>
    intro f x1 x2 x3 x5 hm hi
    exact wkb_X9_harmBy_L5 V_l1 V_l2 V_m1  C    (fun f9 x19 x29 x39 x59 hk => ih f9 x19 x29 x39 x59 (Nat.lt_of_lt_of_le hk.2 (Nat.le_of_lt_succ hm)) hk.1) f x1 x2 x3 x5 (hs f x1 x2 x3 x5 hi)
set_option maxHeartbeats 4000000 in
set_option maxRecDepth 100000 in
theorem wk_X9_harmBy (V_l1 : VC_l1) (V_l2 : VC_l2) (V_m1 : VC_m1) {Z : Zt}  (C : CX Z layM RX9 cX9_harmBy 6 (some .long) 2)     (f : Fn) (a1 : Int32) (a2 : Int32) (h : wp_X9_harmBy  f a1 a2 (zp Z)) : GG Z f [(0, .ref (zad Z 0)), (1, .int a1), (2, .int a2)] 0 [] := by
  refine g_lconst C kl_0 dX9_harmBy_0 rfl ?_
  refine g_lstore_n (lv' := [(3, .long (0 : Int64)), (0, .ref (zad Z 0)), (1, .int a1), (2, .int a2)]) C dX9_harmBy_1 (by decide) rfl rfl ?_
  refine g_iconst C ki_0 dX9_harmBy_2 rfl ?_
  refine g_istore (lv' := [(5, .int (0 : Int32)), (3, .long (0 : Int64)), (0, .ref (zad Z 0)), (1, .int a1), (2, .int a2)]) C dX9_harmBy_3 (by decide) rfl rfl ?_
  refine g_lps [0, 1, 2, 3, 5] rfl ?_
  exact wk_X9_harmBy_L5 V_l1 V_l2 V_m1  C    _ _ _ _ _ h
set_option maxRecDepth 100000 in
theorem ct_X9_harmBy (V_l1 : VC_l1) (V_l2 : VC_l2) (V_m1 : VC_m1) {l : Launch} {E : Ev}   (f : Fn) (a1 : Int32) (a2 : Int32) (hpre : Pre_X9_harmBy f a1 a2) : CT l E layM yX9_harmBy cX9_harmBy 6 (some .long) 2 [.ref (E.2.1 0), .int a1, .int a2] f (pL (fun r9 f9 => r9 = Val_X9_harmBy f a1 a2 ∧ f9 = f)) := by
  refine CT.of (by decide +kernel) (Nat.le_of_ble_eq_true rfl) (fun Z hl9 hE9 hp9 C => ?_)
  subst hl9
  subst hE9
  exact wk_X9_harmBy V_l1 V_l2 V_m1 C   f a1 a2 (by rw [hp9]; exact V_m1.2.2.2.2.2.2.2.2.2.2.2.2.2.2.2.2.2.2.2.2.2.2.2.2.2.2.2.2.2.2.2.2.2.2.2.2.2.2.2.2.2.2.2.2.2.2.2.2.2.2.2.2.2.2.2.2.2.2.2.2.2.2.2.2.1  f a1 a2  hpre)
set_option maxHeartbeats 4000000 in
set_option maxRecDepth 100000 in
theorem wk_X9_net_L25 (V_l1 : VC_l1) (V_l2 : VC_l2) (V_m1 : VC_m1) {Z : Zt}  (C : CX Z layM RX9 cX9_net 7 (some .int) 57)     (f : Fn)  (h : wp_X9_net_L25   f  (zp Z)) : GG Z f [(0, .ref (zad Z 0))] 25 [] := by
  refine g_aload_n C rfl dX9_net_25 rfl ?_
  refine g_iconst C ki_1 dX9_net_26 rfl ?_
  have hs2 := h.1
  replace h := h.2
  refine g_callVI C tw_881 tw_883 tp_15 tw_10 tw_884 hy_X9_finds (by decide) (by decide) rfl (Nat.le_of_ble_eq_true rfl) rfl rfl (ct_X9_finds V_l1 V_l2 V_m1   f (1 : Int32) hs2) dX9_net_27 rfl rfl (fun r3 f4 hp5 => ?_)
  replace h := h r3 f4 hp5
  exact g_iret C dX9_net_30 h
set_option maxHeartbeats 4000000 in
set_option maxRecDepth 100000 in
theorem wk_X9_net_L96 (V_l1 : VC_l1) (V_l2 : VC_l2) (V_m1 : VC_m1) {Z : Zt}  (C : CX Z layM RX9 cX9_net 7 (some .int) 57)   {K48 : Fn → Int32 → Int32 → Int32 → Prop} (hK48 : ∀ (f : Fn) (x1 : Int32) (x3 : Int32) (x4 : Int32), K48 f x1 x3 x4 → GG Z f [(0, .ref (zad Z 0)), (1, .int x1), (3, .int x3), (4, .int x4)] 48 []) (f : Fn) (x1 : Int32) (x3 : Int32) (x4 : Int32) (h : wp_X9_net_L96  K48 f x1 x3 x4 (zp Z)) : GG Z f [(0, .ref (zad Z 0)), (1, .int x1), (3, .int x3), (4, .int x4)] 96 [] := by
  refine g_iinc (lv' := [(4, .int (x4 + (1 : Int32))), (0, .ref (zad Z 0)), (1, .int x1), (3, .int x3)]) C dX9_net_96 rfl (inc_1 _) (by decide) rfl rfl ?_
  refine g_goto (q := 48) C dX9_net_99 (by decide) ?_
  refine g_lps [0, 1, 3, 4] rfl ?_
  exact hK48 _ _ _ _ h
set_option maxHeartbeats 4000000 in
set_option maxRecDepth 100000 in
theorem wk_X9_net_L84 (V_l1 : VC_l1) (V_l2 : VC_l2) (V_m1 : VC_m1) {Z : Zt}  (C : CX Z layM RX9 cX9_net 7 (some .int) 57)   {K48 : Fn → Int32 → Int32 → Int32 → Prop} (hK48 : ∀ (f : Fn) (x1 : Int32) (x3 : Int32) (x4 : Int32), K48 f x1 x3 x4 → GG Z f [(0, .ref (zad Z 0)), (1, .int x1), (3, .int x3), (4, .int x4)] 48 []) (f : Fn) (x1 : Int32) (x3 : Int32) (x4 : Int32) (x5 : Int64) (h : wp_X9_net_L84  K48 f x1 x3 x4 x5 (zp Z)) : GG Z f [(0, .ref (zad Z 0)), (1, .int x1), (3, .int x3), (4, .int x4), (5, .long x5)] 84 [] := by
  refine g_aload_n C rfl dX9_net_84 rfl ?_
  refine g_lload C rfl dX9_net_85 rfl ?_
  refine fp_X9_248 (k := 0) C rfl rfl (by decide +kernel) dX9_net_87 rfl ?_
  refine g_aload_n C rfl dX9_net_90 rfl ?_
  refine g_iload C rfl dX9_net_91 rfl ?_
  refine fp_X9_259 (k := 0) C rfl rfl (Nat.le_of_ble_eq_true rfl) dX9_net_93 rfl ?_
  refine g_lps [0, 1, 3, 4] rfl ?_
  exact wk_X9_net_L96 V_l1 V_l2 V_m1  C   hK48 _ _ _ _ h
set_option maxHeartbeats 4000000 in
set_option maxRecDepth 100000 in
theorem wkb_X9_net_L48 (V_l1 : VC_l1) (V_l2 : VC_l2) (V_m1 : VC_m1) {Z : Zt}  (C : CX Z layM RX9 cX9_net 7 (some .int) 57)   {K48 : Fn → Int32 → Int32 → Int32 → Prop} (hK48 : ∀ (f : Fn) (x1 : Int32) (x3 : Int32) (x4 : Int32), K48 f x1 x3 x4 → GG Z f [(0, .ref (zad Z 0)), (1, .int x1), (3, .int x3), (4, .int x4)] 48 []) (f : Fn) (x1 : Int32) (x3 : Int32) (x4 : Int32) (h : wpb_X9_net_L48   K48 f x1 x3 x4 (zp Z)) : GG Z f [(0, .ref (zad Z 0)), (1, .int x1), (3, .int x3), (4, .int x4)] 48 [] := by
  refine g_iload C rfl dX9_net_48 rfl ?_
  refine g_sipush C ks_299 dX9_net_50 rfl ?_
  refine g_icmp_gt (tgt := 102) C dX9_net_53 (by decide) rfl (fun hc11 => ?_) (fun hc11 => ?_)
  · replace h := h.1 hc11
    refine g_aload_n C rfl dX9_net_102 rfl ?_
    refine fg_X9_243I (k := 0) (x := (f 0 17)) C rfl rfl rfl dX9_net_103 rfl ?_
    refine g_if_ne (tgt := 115) C dX9_net_106 (by decide) rfl (fun hc12 => ?_) (fun hc12 => ?_)
    · replace h := h.1 hc12
      refine g_iload_n C rfl dX9_net_115 rfl ?_
      refine g_if_ne (tgt := 126) C dX9_net_116 (by decide) rfl (fun hc13 => ?_) (fun hc13 => ?_)
      · replace h := h.1 hc13
        refine g_aload_n C rfl dX9_net_126 rfl ?_
        refine fg_X9_248L (k := 0) C rfl rfl dX9_net_127 rfl ?_
        refine g_l2i C dX9_net_130 rfl ?_
        exact g_iret C dX9_net_131 h
      · replace h := h.2 hc13
        refine g_aload_n C rfl dX9_net_119 rfl ?_
        refine fg_X9_259I (k := 0) (x := (f 0 15)) C rfl rfl rfl dX9_net_120 rfl ?_
        refine g_goto (q := 131) C dX9_net_123 (by decide) ?_
        exact g_iret C dX9_net_131 h
    · replace h := h.2 hc12
      refine g_aload_n C rfl dX9_net_109 rfl ?_
      refine g_iconst C ki_2 dX9_net_110 rfl ?_
      have hs14 := h.1
      replace h := h.2
      refine g_callVI C tw_881 tw_883 tp_15 tw_10 tw_884 hy_X9_finds (by decide) (by decide) rfl (Nat.le_of_ble_eq_true rfl) rfl rfl (ct_X9_finds V_l1 V_l2 V_m1   f (2 : Int32) hs14) dX9_net_111 rfl rfl (fun r15 f16 hp17 => ?_)
      replace h := h r15 f16 hp17
      exact g_iret C dX9_net_114 h
  · replace h := h.2 hc11
    refine g_aload_n C rfl dX9_net_56 rfl ?_
    refine g_iload_n C rfl dX9_net_57 rfl ?_
    refine g_iload C rfl dX9_net_58 rfl ?_
    have hs18 := h.1
    replace h := h.2
    refine g_callVE C tw_1147 tw_1149 tp_47 tw_10 tw_1150 hy_X9_harmBy (by decide) (by decide) rfl (Nat.le_of_ble_eq_true rfl) rfl rfl (ct_X9_harmBy V_l1 V_l2 V_m1   f x1 x4 hs18) dX9_net_60 rfl rfl ?_
    refine g_lstore (lv' := [(5, .long (Val_X9_harmBy f x1 x4)), (0, .ref (zad Z 0)), (1, .int x1), (3, .int x3), (4, .int x4)]) C dX9_net_63 (by decide) rfl rfl ?_
    refine g_aload_n C rfl dX9_net_65 rfl ?_
    refine fg_X9_248L (k := 0) C rfl rfl dX9_net_66 rfl ?_
    refine g_lconst C kl_0 dX9_net_69 rfl ?_
    refine g_lcmp C dX9_net_70 rfl ?_
    refine g_if_lt (tgt := 84) C dX9_net_71 (by decide) rfl (fun hc19 => ?_) (fun hc19 => ?_)
    · replace h := h.1 hc19
      refine g_lps [0, 1, 3, 4, 5] rfl ?_
      exact wk_X9_net_L84 V_l1 V_l2 V_m1  C   hK48 _ _ _ _ _ h
    · replace h := h.2 hc19
      refine g_lload C rfl dX9_net_74 rfl ?_
      refine g_aload_n C rfl dX9_net_76 rfl ?_
      refine fg_X9_248L (k := 0) C rfl rfl dX9_net_77 rfl ?_
      refine g_lcmp C dX9_net_80 rfl ?_
      refine g_if_ge (tgt := 96) C dX9_net_81 (by decide) rfl (fun hc20 => ?_) (fun hc20 => ?_)
      · replace h := h.1 hc20
        refine g_lps [0, 1, 3, 4] rfl ?_
        exact wk_X9_net_L96 V_l1 V_l2 V_m1  C   hK48 _ _ _ _ h
      · replace h := h.2 hc20
        refine g_lps [0, 1, 3, 4, 5] rfl ?_
        exact wk_X9_net_L84 V_l1 V_l2 V_m1  C   hK48 _ _ _ _ _ h
set_option maxHeartbeats 4000000 in
set_option maxRecDepth 100000 in
theorem wk_X9_net_L48 (V_l1 : VC_l1) (V_l2 : VC_l2) (V_m1 : VC_m1) {Z : Zt}  (C : CX Z layM RX9 cX9_net 7 (some .int) 57)     (f : Fn) (x1 : Int32) (x3 : Int32) (x4 : Int32) (h : wp_X9_net_L48   f x1 x3 x4 (zp Z)) : GG Z f [(0, .ref (zad Z 0)), (1, .int x1), (3, .int x3), (4, .int x4)] 48 [] := by
  obtain ⟨I, μ, h0, hs⟩ := h
  suffices H : ∀ (N : Nat) (f : Fn) (x1 : Int32) (x3 : Int32) (x4 : Int32), μ f x1 x3 x4 < N → I f x1 x3 x4 → GG Z f [(0, .ref (zad Z 0)), (1, .int x1), (3, .int x3), (4, .int x4)] 48 [] from H _ f x1 x3 x4 (Nat.lt_succ_self _) h0
  clear h0
  intro N
  induction N with
  | zero => intro f x1 x3 x4 hm; exact absurd hm (Nat.not_lt_zero _)
  | succ N ih =>
    intro f x1 x3 x4 hm hi
    exact wkb_X9_net_L48 V_l1 V_l2 V_m1  C    (fun f9 x19 x39 x49 hk => ih f9 x19 x39 x49 (Nat.lt_of_lt_of_le hk.2 (Nat.le_of_lt_succ hm)) hk.1) f x1 x3 x4 (hs f x1 x3 x4 hi)
set_option maxHeartbeats 4000000 in
set_option maxRecDepth 100000 in
theorem wk_X9_net (V_l1 : VC_l1) (V_l2 : VC_l2) (V_m1 : VC_m1) {Z : Zt}  (C : CX Z layM RX9 cX9_net 7 (some .int) 57)     (f : Fn) (a1 : Int32) (a2 : Int32) (a3 : Int32) (h : wp_X9_net  f a1 a2 a3 (zp Z)) : GG Z f [(0, .ref (zad Z 0)), (1, .int a1), (2, .int a2), (3, .int a3)] 0 [] := by
  refine g_aload_n C rfl dX9_net_0 rfl ?_
  refine g_iload_n C rfl dX9_net_1 rfl ?_
  refine g_callVD C tw_988 tw_990 tp_29 tw_10 tw_991 hy_X9_isFlyer (by decide) (by decide) rfl (Nat.le_of_ble_eq_true rfl) rfl rfl (ct_X9_isFlyer V_l1 V_l2 V_m1   f a1 ) dX9_net_2 rfl rfl ?_
  refine g_if_eq (tgt := 25) C dX9_net_5 (by decide) rfl (fun hc1 => ?_) (fun hc1 => ?_)
  · replace h := h.1 hc1
    refine g_lps [0] rfl ?_
    exact wk_X9_net_L25 V_l1 V_l2 V_m1  C    _  h
  · replace h := h.2 hc1
    refine g_iload_n C rfl dX9_net_8 rfl ?_
    refine g_callSD C tw_1089 tw_1090 tw_10 tw_1091 hy_X9_isSpan (by decide) (by decide) rfl (Nat.le_of_ble_eq_true rfl) (ct_X9_isSpan V_l1 V_l2 V_m1   f a2 ) dX9_net_9 rfl rfl ?_
    refine g_if_eq (tgt := 25) C dX9_net_12 (by decide) rfl (fun hc6 => ?_) (fun hc6 => ?_)
    · replace h := h.1 hc6
      refine g_lps [0] rfl ?_
      exact wk_X9_net_L25 V_l1 V_l2 V_m1  C    _  h
    · replace h := h.2 hc6
      refine g_iload_n C rfl dX9_net_15 rfl ?_
      refine g_i2l C dX9_net_16 rfl ?_
      refine g_lconst C kl_0 dX9_net_17 rfl ?_
      refine g_lconst C kl_1 dX9_net_18 rfl ?_
      refine g_callSD C tw_878 tw_879 tw_10 tw_880 hy_X9_in (by decide) (by decide) rfl (Nat.le_of_ble_eq_true rfl) (ct_X9_in V_l1 V_l2 V_m1   f a3.toInt64 (0 : Int64) (1 : Int64) ) dX9_net_19 rfl rfl ?_
      refine g_if_ne (tgt := 31) C dX9_net_22 (by decide) rfl (fun hc7 => ?_) (fun hc7 => ?_)
      · replace h := h.1 hc7
        refine g_aload_n C rfl dX9_net_31 rfl ?_
        refine g_ldc2 C tw_1142 dX9_net_32 rfl ?_
        refine fp_X9_248 (k := 0) C rfl rfl (by decide +kernel) dX9_net_35 rfl ?_
        refine g_aload_n C rfl dX9_net_38 rfl ?_
        refine g_iload_n C rfl dX9_net_39 rfl ?_
        refine g_iload_n C rfl dX9_net_40 rfl ?_
        have hs8 := h.1
        replace h := h.2
        refine g_callVV C tw_1143 tw_1145 tp_46 tw_10 tw_1146 hy_X9_findFalls (by decide) (by decide) rfl (Nat.le_of_ble_eq_true rfl) rfl rfl (ct_X9_findFalls V_l1 V_l2 V_m1   (up2 (up2 f 0 16 (hi64 (-1 : Int64))) 0 116 (lo64 (-1 : Int64))) a1 a2 hs8) dX9_net_41 rfl rfl (fun f9 hp10 => ?_)
        replace h := h f9 hp10
        refine g_bipush C kb_m99 dX9_net_44 rfl ?_
        refine g_istore (lv' := [(4, .int (-99 : Int32)), (0, .ref (zad Z 0)), (1, .int a1), (2, .int a2), (3, .int a3)]) C dX9_net_46 (by decide) rfl rfl ?_
        refine g_lps [0, 1, 3, 4] rfl ?_
        exact wk_X9_net_L48 V_l1 V_l2 V_m1  C    _ _ _ _ h
      · replace h := h.2 hc7
        refine g_lps [0] rfl ?_
        exact wk_X9_net_L25 V_l1 V_l2 V_m1  C    _  h
set_option maxRecDepth 100000 in
theorem ct_X9_net (V_l1 : VC_l1) (V_l2 : VC_l2) (V_m1 : VC_m1) {l : Launch} {E : Ev}   (f : Fn) (a1 : Int32) (a2 : Int32) (a3 : Int32) (hpre : Pre_X9_net f a1 a2 a3) : CT l E layM yX9_net cX9_net 7 (some .int) 57 [.ref (E.2.1 0), .int a1, .int a2, .int a3] f (pI (Post_X9_net f a1 a2 a3)) := by
  refine CT.of (by decide +kernel) (Nat.le_of_ble_eq_true rfl) (fun Z hl9 hE9 hp9 C => ?_)
  subst hl9
  subst hE9
  exact wk_X9_net V_l1 V_l2 V_m1 C   f a1 a2 a3 (by rw [hp9]; exact V_m1.2.2.2.2.2.2.2.2.2.2.2.2.2.2.2.2.2.2.2.2.2.2.2.2.2.2.2.2.2.2.2.2.2.2.2.2.2.2.2.2.2.2.2.2.2.2.2.2.2.2.2.2.2.2.2.2.2.2.2.2.2.2.2.2.2.1  f a1 a2 a3  hpre)
