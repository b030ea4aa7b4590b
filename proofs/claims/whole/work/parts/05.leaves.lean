def layC : List CD := [.inl (8, [3, 21, 39, 44, 46, 49, 58, 0]), .inl (7, [4, 5, 0, 0, 0, 0, 6, 0, 13, 0, 14, 17, 0, 0, 0, 0, 20, 0]), .inl (4, [0, 0, 0]), .inl (4, [0, 0, 0]), .inr (.inr (0, [5, 6, 7, 8, 9, 10])), .inl (0, [0, 0, 0, 0]), .inl (0, [0, 0, 0, 0]), .inl (0, [0, 0, 0, 0]), .inl (0, [0, 0, 0, 0]), .inl (0, [0, 0, 0, 0]), .inl (0, [0, 0, 0, 0]), .inr (.inl 50), .inl (1, [0, 0, 0, 15, 16, 0]), .inr (.inl 50), .inr (.inl 50), .inl (1, [0, 0, 0, 18, 19, 0]), .inr (.inl 50), .inr (.inl 50), .inr (.inl 20), .inl (7, [22, 23, 0, 0, 0, 0, 24, 0, 31, 0, 32, 35, 0, 0, 0, 0, 38, 0]), .inl (4, [0, 0, 0]), .inl (4, [0, 0, 0]), .inr (.inr (0, [23, 24, 25, 26, 27, 28])), .inl (0, [0, 0, 0, 0]), .inl (0, [0, 0, 0, 0]), .inl (0, [0, 0, 0, 0]), .inl (0, [0, 0, 0, 0]), .inl (0, [0, 0, 0, 0]), .inl (0, [0, 0, 0, 0]), .inr (.inl 50), .inl (1, [0, 0, 0, 33, 34, 0]), .inr (.inl 50), .inr (.inl 50), .inl (1, [0, 0, 0, 36, 37, 0]), .inr (.inl 50), .inr (.inl 50), .inr (.inl 20), .inl (5, [3, 40, 41, 42, 43, 0, 0, 0, 0]), .inl (4, [0, 0, 0]), .inl (4, [0, 0, 0]), .inl (0, [0, 0, 0, 0]), .inr (.inl 60), .inl (2, [3, 45, 0, 0, 0]), .inr (.inl 50), .inl (6, [47, 0, 0, 48]), .inr (.inl 40), .inl (0, [0, 0, 0, 0]), .inr (.inr (1, [48, 50, 52, 54])), .inl (3, [51, 0, 0]), .inr (.inl 40), .inl (3, [53, 0, 0]), .inr (.inl 40), .inl (3, [55, 0, 0]), .inr (.inl 40), .inl (3, [57, 0, 0]), .inr (.inl 40), .inr (.inl 6)]
def layM : List CD := [.inl (9, [3, 4, 0, 5, 0, 0, 0, 0, 0, 6, 0, 0, 0, 0, 0, 0, 1, 0, 7, 8, 0, 0, 9, 10, 11, 12]), .inr (.inl 264), .inr (.inl 264), .inr (.inl 6), .inr (.inl 3), .inr (.inl 60), .inr (.inl 40), .inr (.inl 4), .inr (.inl 4), .inr (.inl 160), .inr (.inl 40)]
abbrev isFl (o : Nat) : Prop := layC[o]? = some (.inl (0, [0, 0, 0, 0]))
abbrev isSw (o : Nat) : Prop := layC[o]? = some (.inl (4, [0, 0, 0]))
abbrev isLaw (o : Nat) : Prop := layC[o]? = some (.inl (1, [0, 0, 0, o + 1 + 2, o + 2 + 2, 0])) ∧ layC[o + 1]? = some (.inr (.inl 50)) ∧ layC[o + 2]? = some (.inr (.inl 50))
abbrev isSh (o : Nat) : Prop := layC[o]? = some (.inl (3, [o + 1 + 2, 0, 0])) ∧ layC[o + 1]? = some (.inr (.inl 40))
def absI (x : Int32) : Int32 := if 0 ≤ x then x else -x
def maxI (x y : Int32) : Int32 := if x < y then y else x
def minI (x y : Int32) : Int32 := if y < x then y else x
def remI (x y : Int32) : Int32 := x - x / y * y
def fmodI (x y : Int32) : Int32 := if (x ^^^ y) < 0 ∧ ¬ remI x y = 0 then remI x y + y else remI x y
def kAb (k : Int32) : Int32 := if k = 1 ∨ k = 2 ∨ k = 3 then 0 else if k = 4 then 1 else if k = 5 then 2 else if k = 6 then 3 else -1
def lagI (k m g : Int32) : Int32 := if k = 2 then 1 + remI m 3 else if k = 5 then remI m 3 else if k = 3 ∨ k = 6 then (if m < g then 1 else 0) else 0
def holdsI (k m g v : Int32) : Int32 := if k = 1 then v + 1 else if k = 4 then v + 1 + m else if k = 3 ∨ k = 6 then maxI 0 (v - g / 3) else v
def harmI (k g v : Int32) : Int32 := if k = 3 then v + g else if k = 6 then (v + g) / 2 else v
def flT (f : Fn) (o : Nat) (km : Int32) : Fn := up2 (up2 f o 0 (km / 10)) o 1 (remI km 10)
/-- a row's first n slots out of another row -/
def cpr (f : Fn) (o o2 n : Nat) : Fn := fun a => if a = o then (fun j => if j < n then f o2 j else f o j) else f a
def kOK (k : Int32) : Prop := k = 0 ∨ k = 1 ∨ k = 2 ∨ k = 3 ∨ k = 4 ∨ k = 5 ∨ k = 6
def isOfI (k w : Int32) : Int32 := if w = k ∨ 0 ≤ w ∧ (w = kAb k ∨ w = kAb (kAb k)) then 1 else 0
def wthI (v lo hi : Int32) : Int32 := if lo ≤ v ∧ v ≤ hi then 1 else 0
def swV (s : Nat → Int32) (t : Int32) : Int32 := if s 0 < 4 then 0 else 2 * s 1 * absI (2 * fmodI (t + s 2) (s 0) - s 0) / s 0 - s 1
def swCh (f : Fn) (o : Nat) (w v : Int32) : Int32 × Fn := if w = 0 then (f o 0, up2 (up2 f o 0 (maxI 4 v)) o 2 (remI (f o 2) (maxI 4 v))) else if w = 1 then (f o 1, up2 f o 1 v) else (f o 2, up2 f o 2 v)
def isPartI (x : Int32) : Int32 := if 0 ≤ x ∨ x = -107 ∨ x = -118 ∨ x = -109 then 1 else 0
def joinI (a s b : Int32) : Int32 :=
  if s = 124 then (if ¬ a = 0 ∨ ¬ b = 0 then 1 else 0) else if s = 38 then (if ¬ a = 0 ∧ ¬ b = 0 then 1 else 0)
  else if s = 60 then (if a < b then 1 else 0) else if s = 61 then (if a = b then 1 else 0) else if s = 62 then (if b < a then 1 else 0)
  else if s = 43 then a + b else if s = 45 then a - b else if s = 42 then a * b
  else if s = 47 then (if b = 0 then 0 else a / b) else (if b = 0 then 0 else remI a b)
/-- one step over a stack, its top first -/
def rpS (k v m : Int32) (st : List Int32) (x : Int32) : List Int32 :=
  if isPartI x = 1 then (if 0 ≤ x then x else if x = -107 then k else if x = -118 then v else m) :: st
  else if x = -33 ∧ 1 ≤ st.length then (match st with | a :: r => (if a = 0 then 1 else 0) :: r | [] => [])
  else (match st with | b :: a :: r => joinI a (-x) b :: r | s => s)
def rpn (k v m : Int32) (xs : List Int32) : List Int32 := xs.foldl (rpS k v m) []
def rowL (r : Nat → Int32) (n : Nat) : List Int32 := (List.range n).map r
def lawV (h s : Nat → Int32) (k v m : Int32) : Int32 :=
  maxI (h 1) (minI (h 2) (match (rpn k v m (rowL s (min (h 5).toNatClampNeg 50))).getLast? with | some w => w | none => if h 0 = 0 then v * 3 + 30 - k * 2 else 3 + k * 2))

def Val_J9_abs_0f7a4  (f : Fn) (a1 : Int32) : Int32 := absI a1
def Val_J9_max_7cf53  (f : Fn) (a1 : Int32) (a2 : Int32) : Int32 := maxI a1 a2
def Val_J9_min_7cf53  (f : Fn) (a1 : Int32) (a2 : Int32) : Int32 := minI a1 a2
def Pre_J9_floorMod_7cf53  (f : Fn) (a1 : Int32) (a2 : Int32) : Prop := ¬ a2 = 0
def Val_J9_floorMod_7cf53  (f : Fn) (a1 : Int32) (a2 : Int32) : Int32 := fmodI a1 a2
def Val_X8_within  (f : Fn) (a1 : Int32) (a2 : Int32) (a3 : Int32) : Int32 := wthI a1 a2 a3
def Val_X0_kindAbove  (f : Fn) (a1 : Int32) : Int32 := kAb a1
def Post_X0_take (o : Nat) (f : Fn) (a1 : Int32) (f1 : Fn) : Prop := f1 = flT f o a1
def Post_X0_begin (o : Nat) (f : Fn) (a1 : Int32) (f1 : Fn) : Prop := f1 = up2 (up2 (flT f o a1) o 2 1) o 3 0
def Pre_X0_isOf (o : Nat) (f : Fn) (a1 : Int32) : Prop := kOK (f o 0)
def Val_X0_isOf (o : Nat) (f : Fn) (a1 : Int32) : Int32 := isOfI (f o 0) a1
def Val_X0_lag (o : Nat) (f : Fn)  : Int32 := lagI (f o 0) (f o 1) (f o 3)
def Val_X0_holds (o : Nat) (f : Fn) (a1 : Int32) : Int32 := holdsI (f o 0) (f o 1) (f o 3) a1
def Val_X0_harm (o : Nat) (f : Fn) (a1 : Int32) : Int32 := harmI (f o 0) (f o 3) a1
def Post_X0_copy (o : Nat) (o2 : Nat) (f : Fn)  (f1 : Fn) : Prop := f1 = cpr f o o2 4
def Val_X4_takes (o : Nat) (f : Fn) (a1 : Int32) (a2 : Int32) : Int32 := if a1 = 0 then wthI a2 4 40 else if a1 = 1 then wthI a2 1 60 else if a1 = 2 then wthI a2 0 (f o 0 - 1) else 0
def Post_X4_change (o : Nat) (f : Fn) (a1 : Int32) (a2 : Int32) (r : Int32) (f1 : Fn) : Prop := (r, f1) = swCh f o a1 a2
def Val_X4_placeAt (o : Nat) (f : Fn) (a1 : Int32) : Int32 := swV (f o) a1
def Post_X4_copy (o : Nat) (o2 : Nat) (f : Fn)  (f1 : Fn) : Prop := f1 = cpr f o o2 3
def Val_X1_isPart  (f : Fn) (a1 : Int32) : Int32 := isPartI a1
def Val_X1_joined  (f : Fn) (a1 : Int32) (a2 : Int32) (a3 : Int32) : Int32 := joinI a1 a2 a3
def Post_X1_take (o : Nat) (p : Nat) (f : Fn) (a2 : Int32) (f1 : Fn) : Prop := f1 = fun a => if a = o then upd (f o) 5 (minI a2 50) else if a = o + 1 then (fun j => if j < (minI a2 50).toNatClampNeg then f p j else f (o + 1) j) else f a
def Post_X1_copy (o : Nat) (o2 : Nat) (f : Fn)  (f1 : Fn) : Prop := Post_X1_take o (o2 + 1) f (f o2 5) f1
def Post_X1_gives (o : Nat) (f : Fn) (a1 : Int32) (a2 : Int32) (a3 : Int32) (r : Int32) (f1 : Fn) : Prop := r = lawV (f o) (f (o + 1)) a1 a2 a3 ∧ ∀ a, a ≠ o + 2 → f1 a = f a
def Val_X3_isMissing (o : Nat) (f : Fn)  : Int32 := if f o 1 = 0 then 1 else 0
def Post_X3_begin (o : Nat) (f : Fn) (a1 : Int32) (a2 : Int32) (f1 : Fn) : Prop := f1 = fun a => if a = o then upd (upd (f o) 1 a1) 2 (if a1 = 0 then 0 else maxI 0 (minI 40 a2)) else if a = o + 1 then (fun j => if j < 40 then 0 else f (o + 1) j) else f a
def Pre_X3_write (o : Nat) (f : Fn) (a1 : Int32) (a2 : Int32) : Prop := f o 2 ≤ 40
def Post_X3_write (o : Nat) (f : Fn) (a1 : Int32) (a2 : Int32) (f1 : Fn) : Prop := f1 = if 0 ≤ a1 ∧ a1 < f o 2 then up2 f (o + 1) a1.toNatClampNeg (if f o 1 = 8 then a2.toInt8.toInt32 else if f o 1 = 16 then a2.toInt16.toInt32 else a2) else f
def Pre_X3_read (o : Nat) (f : Fn) (a1 : Int32) : Prop := f o 2 ≤ 40
def Val_X3_read (o : Nat) (f : Fn) (a1 : Int32) : Int32 := if 0 ≤ a1 ∧ a1 < f o 2 then f (o + 1) a1.toNatClampNeg else 0
def Val_X3_hasRow (o : Nat) (f : Fn) (a1 : Int32) (a2 : Int32) : Int32 := if 0 ≤ a2 ∧ a2 ≤ f o 2 ∧ 0 ≤ a1 ∧ a1 ≤ f o 2 - a2 then 1 else 0
def wp_J9_abs_0f7a4  (f : Fn) (a1 : Int32) (post : Option Value → Fn → Prop) : Prop :=
  ((0 ≤ a1 → (post (some (.int a1)) f)) ∧ (¬ 0 ≤ a1 → (post (some (.int (-a1))) f)))
def wp_J9_max_7cf53  (f : Fn) (a1 : Int32) (a2 : Int32) (post : Option Value → Fn → Prop) : Prop :=
  ((a1 < a2 → (post (some (.int a2)) f)) ∧ (¬ a1 < a2 → (post (some (.int a1)) f)))
def wp_J9_min_7cf53  (f : Fn) (a1 : Int32) (a2 : Int32) (post : Option Value → Fn → Prop) : Prop :=
  ((a2 < a1 → (post (some (.int a2)) f)) ∧ (¬ a2 < a1 → (post (some (.int a1)) f)))
def wp_J9_floorMod_7cf53  (f : Fn) (a1 : Int32) (a2 : Int32) (post : Option Value → Fn → Prop) : Prop :=
  (¬ a2 = 0 ∧ ((0 ≤ (a1 ^^^ a2) → (post (some (.int (a1 - (a1 / a2) * a2))) f)) ∧ (¬ 0 ≤ (a1 ^^^ a2) → (((a1 - (a1 / a2) * a2) = 0 → (post (some (.int (a1 - (a1 / a2) * a2))) f)) ∧ (¬ (a1 - (a1 / a2) * a2) = 0 → (post (some (.int ((a1 - (a1 / a2) * a2) + a2))) f))))))
def wp_X8_within  (f : Fn) (a1 : Int32) (a2 : Int32) (a3 : Int32) (post : Option Value → Fn → Prop) : Prop :=
  ((a1 < a2 → (post (some (.int (0 : Int32))) f)) ∧ (¬ a1 < a2 → ((a3 < a1 → (post (some (.int (0 : Int32))) f)) ∧ (¬ a3 < a1 → (post (some (.int (1 : Int32))) f)))))
def wp_X0_kindAbove  (f : Fn) (a1 : Int32) (post : Option Value → Fn → Prop) : Prop :=
  ((a1 = (1 : Int32) → (post (some (.int (0 : Int32))) f)) ∧ (a1 = (2 : Int32) → (post (some (.int (0 : Int32))) f)) ∧ (a1 = (3 : Int32) → (post (some (.int (0 : Int32))) f)) ∧ (a1 = (4 : Int32) → (post (some (.int (1 : Int32))) f)) ∧ (a1 = (5 : Int32) → (post (some (.int (2 : Int32))) f)) ∧ (a1 = (6 : Int32) → (post (some (.int (3 : Int32))) f)) ∧ (¬ a1 = (1 : Int32) ∧ ¬ a1 = (2 : Int32) ∧ ¬ a1 = (3 : Int32) ∧ ¬ a1 = (4 : Int32) ∧ ¬ a1 = (5 : Int32) ∧ ¬ a1 = (6 : Int32) → (post (some (.int (-1 : Int32))) f)))
def wp_X0_take (o : Nat) (f : Fn) (a1 : Int32) (post : Option Value → Fn → Prop) : Prop :=
  (post none (up2 (up2 f o 0 (a1 / (10 : Int32))) o 1 (a1 - (a1 / (10 : Int32)) * (10 : Int32))))
def wp_X0_begin (o : Nat) (f : Fn) (a1 : Int32) (post : Option Value → Fn → Prop) : Prop :=
  (∀ f1 : Fn, Post_X0_take o f a1 f1 → (post none (up2 (up2 f1 o 2 (1 : Int32)) o 3 (0 : Int32))))
def wp_X0_isOf_L33 (o : Nat)  (f : Fn) (x1 : Int32) (x2 : Int32) (post : Option Value → Fn → Prop) : Prop :=
  ((¬ x2 = x1 → (post (some (.int (0 : Int32))) f)) ∧ (x2 = x1 → (post (some (.int (1 : Int32))) f)))
def wpb_X0_isOf_L7 (o : Nat)  (K7 : Fn → Int32 → Int32 → Int32 → Prop) (f : Fn) (x1 : Int32) (x2 : Int32) (x3 : Int32) (post : Option Value → Fn → Prop) : Prop :=
  (((7 : Int32) ≤ x3 → (wp_X0_isOf_L33 o  f x1 x2 post)) ∧ (¬ (7 : Int32) ≤ x3 → ((x2 = x1 → (wp_X0_isOf_L33 o  f x1 x2 post)) ∧ (¬ x2 = x1 → ((x2 ≤ 0 → (wp_X0_isOf_L33 o  f x1 x2 post)) ∧ (¬ x2 ≤ 0 → (K7 f x1 (Val_X0_kindAbove f x2) (x3 + (1 : Int32)))))))))
def wp_X0_isOf_L7 (o : Nat)  (f : Fn) (x1 : Int32) (x2 : Int32) (x3 : Int32) (post : Option Value → Fn → Prop) : Prop :=
  ∃ (I : Fn → Int32 → Int32 → Int32 → Prop) (μ : Fn → Int32 → Int32 → Int32 → Nat), I f x1 x2 x3 ∧ ∀ (f : Fn) (x1 : Int32) (x2 : Int32) (x3 : Int32), I f x1 x2 x3 → wpb_X0_isOf_L7 o  (fun (f9 : Fn) (x19 : Int32) (x29 : Int32) (x39 : Int32) => I f9 x19 x29 x39 ∧ μ f9 x19 x29 x39 < μ f x1 x2 x3) f x1 x2 x3 post
def wp_X0_isOf (o : Nat) (f : Fn) (a1 : Int32) (post : Option Value → Fn → Prop) : Prop :=
  (wp_X0_isOf_L7 o  f a1 (f o 0) (0 : Int32) post)
def wp_X0_lag_L56 (o : Nat)  (f : Fn)  (post : Option Value → Fn → Prop) : Prop :=
  (((f o 3) ≤ (f o 1) → (post (some (.int (0 : Int32))) f)) ∧ (¬ (f o 3) ≤ (f o 1) → (post (some (.int (1 : Int32))) f)))
def wp_X0_lag (o : Nat) (f : Fn)  (post : Option Value → Fn → Prop) : Prop :=
  (((f o 0) = (2 : Int32) → (post (some (.int ((1 : Int32) + ((f o 1) - ((f o 1) / (3 : Int32)) * (3 : Int32))))) f)) ∧ ((f o 0) = (3 : Int32) → (wp_X0_lag_L56 o  f  post)) ∧ ((f o 0) = (4 : Int32) → (post (some (.int (0 : Int32))) f)) ∧ ((f o 0) = (5 : Int32) → (post (some (.int ((f o 1) - ((f o 1) / (3 : Int32)) * (3 : Int32)))) f)) ∧ ((f o 0) = (6 : Int32) → (wp_X0_lag_L56 o  f  post)) ∧ (¬ (f o 0) = (2 : Int32) ∧ ¬ (f o 0) = (3 : Int32) ∧ ¬ (f o 0) = (4 : Int32) ∧ ¬ (f o 0) = (5 : Int32) ∧ ¬ (f o 0) = (6 : Int32) → (post (some (.int (0 : Int32))) f)))
def wp_X0_holds_L57 (o : Nat)  (f : Fn) (x1 : Int32) (post : Option Value → Fn → Prop) : Prop :=
  (post (some (.int (Val_J9_max_7cf53 f (0 : Int32) (x1 - ((f o 3) / (3 : Int32)))))) f)
def wp_X0_holds (o : Nat) (f : Fn) (a1 : Int32) (post : Option Value → Fn → Prop) : Prop :=
  (((f o 0) = (1 : Int32) → (post (some (.int (a1 + (1 : Int32)))) f)) ∧ ((f o 0) = (2 : Int32) → (post (some (.int a1)) f)) ∧ ((f o 0) = (3 : Int32) → (wp_X0_holds_L57 o  f a1 post)) ∧ ((f o 0) = (4 : Int32) → (post (some (.int ((a1 + (1 : Int32)) + (f o 1)))) f)) ∧ ((f o 0) = (5 : Int32) → (post (some (.int a1)) f)) ∧ ((f o 0) = (6 : Int32) → (wp_X0_holds_L57 o  f a1 post)) ∧ (¬ (f o 0) = (1 : Int32) ∧ ¬ (f o 0) = (2 : Int32) ∧ ¬ (f o 0) = (3 : Int32) ∧ ¬ (f o 0) = (4 : Int32) ∧ ¬ (f o 0) = (5 : Int32) ∧ ¬ (f o 0) = (6 : Int32) → (post (some (.int a1)) f)))
def wp_X0_harm (o : Nat) (f : Fn) (a1 : Int32) (post : Option Value → Fn → Prop) : Prop :=
  (((f o 0) = (3 : Int32) → (post (some (.int (a1 + (f o 3)))) f)) ∧ ((f o 0) = (6 : Int32) → (post (some (.int ((a1 + (f o 3)) / (2 : Int32)))) f)) ∧ (¬ (f o 0) = (3 : Int32) ∧ ¬ (f o 0) = (6 : Int32) → (post (some (.int a1)) f)))
def wp_X0_copy (o : Nat) (o2 : Nat) (f : Fn)  (post : Option Value → Fn → Prop) : Prop :=
  (post none (up2 (up2 (up2 (up2 f o 0 (f o2 0)) o 1 ((up2 f o 0 (f o2 0)) o2 1)) o 2 ((up2 (up2 f o 0 (f o2 0)) o 1 ((up2 f o 0 (f o2 0)) o2 1)) o2 2)) o 3 ((up2 (up2 (up2 f o 0 (f o2 0)) o 1 ((up2 f o 0 (f o2 0)) o2 1)) o 2 ((up2 (up2 f o 0 (f o2 0)) o 1 ((up2 f o 0 (f o2 0)) o2 1)) o2 2)) o2 3)))
def wp_X4_takes (o : Nat) (f : Fn) (a1 : Int32) (a2 : Int32) (post : Option Value → Fn → Prop) : Prop :=
  ((a1 = (0 : Int32) → (((Val_X8_within f a2 (4 : Int32) (40 : Int32)) = 0 ∨ (Val_X8_within f a2 (4 : Int32) (40 : Int32)) = 1) ∧ (post (some (.int (Val_X8_within f a2 (4 : Int32) (40 : Int32)))) f))) ∧ (a1 = (1 : Int32) → (((Val_X8_within f a2 (1 : Int32) (60 : Int32)) = 0 ∨ (Val_X8_within f a2 (1 : Int32) (60 : Int32)) = 1) ∧ (post (some (.int (Val_X8_within f a2 (1 : Int32) (60 : Int32)))) f))) ∧ (a1 = (2 : Int32) → (((Val_X8_within f a2 (0 : Int32) ((f o 0) - (1 : Int32))) = 0 ∨ (Val_X8_within f a2 (0 : Int32) ((f o 0) - (1 : Int32))) = 1) ∧ (post (some (.int (Val_X8_within f a2 (0 : Int32) ((f o 0) - (1 : Int32))))) f))) ∧ (¬ a1 = (0 : Int32) ∧ ¬ a1 = (1 : Int32) ∧ ¬ a1 = (2 : Int32) → (post (some (.int (0 : Int32))) f)))
def wp_X4_change (o : Nat) (f : Fn) (a1 : Int32) (a2 : Int32) (post : Option Value → Fn → Prop) : Prop :=
  ((¬ a1 = 0 → ((¬ a1 = (1 : Int32) → (post (some (.int (f o 2))) (up2 f o 2 a2))) ∧ (a1 = (1 : Int32) → (post (some (.int (f o 1))) (up2 f o 1 a2))))) ∧ (a1 = 0 → (¬ (Val_J9_max_7cf53 (up2 f o 0 (Val_J9_max_7cf53 f (4 : Int32) a2)) (4 : Int32) a2) = 0 ∧ (post (some (.int (f o 0))) (up2 (up2 f o 0 (Val_J9_max_7cf53 f (4 : Int32) a2)) o 2 ((f o 2) - ((f o 2) / (Val_J9_max_7cf53 (up2 f o 0 (Val_J9_max_7cf53 f (4 : Int32) a2)) (4 : Int32) a2)) * (Val_J9_max_7cf53 (up2 f o 0 (Val_J9_max_7cf53 f (4 : Int32) a2)) (4 : Int32) a2)))))))
def wp_X4_placeAt (o : Nat) (f : Fn) (a1 : Int32) (post : Option Value → Fn → Prop) : Prop :=
  (((4 : Int32) ≤ (f o 0) → (Pre_J9_floorMod_7cf53 f (a1 + (f o 2)) (f o 0) ∧ (¬ (f o 0) = 0 ∧ (post (some (.int (((((2 : Int32) * (f o 1)) * (Val_J9_abs_0f7a4 f (((2 : Int32) * (Val_J9_floorMod_7cf53 f (a1 + (f o 2)) (f o 0))) - (f o 0)))) / (f o 0)) - (f o 1)))) f)))) ∧ (¬ (4 : Int32) ≤ (f o 0) → (post (some (.int (0 : Int32))) f)))
def wp_X4_copy (o : Nat) (o2 : Nat) (f : Fn)  (post : Option Value → Fn → Prop) : Prop :=
  (post none (up2 (up2 (up2 f o 0 (f o2 0)) o 1 ((up2 f o 0 (f o2 0)) o2 1)) o 2 ((up2 (up2 f o 0 (f o2 0)) o 1 ((up2 f o 0 (f o2 0)) o2 1)) o2 2)))
def wp_X1_isPart  (f : Fn) (a1 : Int32) (post : Option Value → Fn → Prop) : Prop :=
  ((0 ≤ a1 → (post (some (.int (1 : Int32))) f)) ∧ (¬ 0 ≤ a1 → ((a1 = (-107 : Int32) → (post (some (.int (1 : Int32))) f)) ∧ (¬ a1 = (-107 : Int32) → ((a1 = (-118 : Int32) → (post (some (.int (1 : Int32))) f)) ∧ (¬ a1 = (-118 : Int32) → ((¬ a1 = (-109 : Int32) → (post (some (.int (0 : Int32))) f)) ∧ (a1 = (-109 : Int32) → (post (some (.int (1 : Int32))) f)))))))))
def wp_X1_joined  (f : Fn) (a1 : Int32) (a2 : Int32) (a3 : Int32) (post : Option Value → Fn → Prop) : Prop :=
  ((a2 = (38 : Int32) → ((a1 = 0 → (post (some (.int (0 : Int32))) f)) ∧ (¬ a1 = 0 → ((a3 = 0 → (post (some (.int (0 : Int32))) f)) ∧ (¬ a3 = 0 → (post (some (.int (1 : Int32))) f)))))) ∧ (a2 = (42 : Int32) → (post (some (.int (a1 * a3))) f)) ∧ (a2 = (43 : Int32) → (post (some (.int (a1 + a3))) f)) ∧ (a2 = (45 : Int32) → (post (some (.int (a1 - a3))) f)) ∧ (a2 = (47 : Int32) → ((¬ a3 = 0 → (¬ a3 = 0 ∧ (post (some (.int (a1 / a3))) f))) ∧ (a3 = 0 → (post (some (.int (0 : Int32))) f)))) ∧ (a2 = (60 : Int32) → ((a3 ≤ a1 → (post (some (.int (0 : Int32))) f)) ∧ (¬ a3 ≤ a1 → (post (some (.int (1 : Int32))) f)))) ∧ (a2 = (61 : Int32) → ((¬ a1 = a3 → (post (some (.int (0 : Int32))) f)) ∧ (a1 = a3 → (post (some (.int (1 : Int32))) f)))) ∧ (a2 = (62 : Int32) → ((a1 ≤ a3 → (post (some (.int (0 : Int32))) f)) ∧ (¬ a1 ≤ a3 → (post (some (.int (1 : Int32))) f)))) ∧ (a2 = (124 : Int32) → ((¬ a1 = 0 → (post (some (.int (1 : Int32))) f)) ∧ (a1 = 0 → ((a3 = 0 → (post (some (.int (0 : Int32))) f)) ∧ (¬ a3 = 0 → (post (some (.int (1 : Int32))) f)))))) ∧ (¬ a2 = (38 : Int32) ∧ ¬ a2 = (42 : Int32) ∧ ¬ a2 = (43 : Int32) ∧ ¬ a2 = (45 : Int32) ∧ ¬ a2 = (47 : Int32) ∧ ¬ a2 = (60 : Int32) ∧ ¬ a2 = (61 : Int32) ∧ ¬ a2 = (62 : Int32) ∧ ¬ a2 = (124 : Int32) → ((¬ a3 = 0 → (¬ a3 = 0 ∧ (post (some (.int (a1 - (a1 / a3) * a3))) f))) ∧ (a3 = 0 → (post (some (.int (0 : Int32))) f)))))
def wpb_X1_take_L17 (o : Nat) (p : Nat)  (K17 : Fn → Int32 → Prop) (f : Fn) (x3 : Int32) (post : Option Value → Fn → Prop) : Prop :=
  (((f o 5) ≤ x3 → (post none f)) ∧ (¬ (f o 5) ≤ x3 → (vp_in x3 50 ∧ (vp_in x3 50 ∧ (K17 (up2 f (o + 1) x3.toNatClampNeg (f p x3.toNatClampNeg)) (x3 + (1 : Int32)))))))
def wp_X1_take_L17 (o : Nat) (p : Nat)  (f : Fn) (x3 : Int32) (post : Option Value → Fn → Prop) : Prop :=
  ∃ (I : Fn → Int32 → Prop) (μ : Fn → Int32 → Nat), I f x3 ∧ ∀ (f : Fn) (x3 : Int32), I f x3 → wpb_X1_take_L17 o p  (fun (f9 : Fn) (x39 : Int32) => I f9 x39 ∧ μ f9 x39 < μ f x3) f x3 post
def wp_X1_take (o : Nat) (p : Nat) (f : Fn) (a2 : Int32) (post : Option Value → Fn → Prop) : Prop :=
  (wp_X1_take_L17 o p  (up2 f o 5 (Val_J9_min_7cf53 f a2 (Val_J9_min_7cf53 f (50 : Int32) (50 : Int32)))) (0 : Int32) post)
def wp_X1_copy (o : Nat) (o2 : Nat) (f : Fn)  (post : Option Value → Fn → Prop) : Prop :=
  (∀ f1 : Fn, Post_X1_take o (o2 + 1) f (f o2 5) f1 → (post none f1))
def wp_X1_gives_L222 (o : Nat)  (f : Fn) (s0 : Int32) (post : Option Value → Fn → Prop) : Prop :=
  (post (some (.int (Val_J9_max_7cf53 f (f o 1) (Val_J9_min_7cf53 f (f o 2) s0)))) f)
def wp_X1_gives_L182 (o : Nat)  (f : Fn) (x1 : Int32) (x2 : Int32) (x4 : Int32) (post : Option Value → Fn → Prop) : Prop :=
  ((x4 < (1 : Int32) → (((f o 0) = 0 → (wp_X1_gives_L222 o  f (((x2 * (3 : Int32)) + (30 : Int32)) - (x1 * (2 : Int32))) post)) ∧ (¬ (f o 0) = 0 → (wp_X1_gives_L222 o  f ((3 : Int32) + (x1 * (2 : Int32))) post)))) ∧ (¬ x4 < (1 : Int32) → (wp_X1_gives_L222 o  f (f (o + 2) 0) post)))
def wp_X1_gives_L176 (o : Nat) (K6 : Fn → Int32 → Int32 → Int32 → Int32 → Int32 → Prop) (f : Fn) (x1 : Int32) (x2 : Int32) (x3 : Int32) (x4 : Int32) (x5 : Int32) (post : Option Value → Fn → Prop) : Prop :=
  (K6 f x1 x2 x3 x4 (x5 + (1 : Int32)))
def wp_X1_gives_L134 (o : Nat) (K6 : Fn → Int32 → Int32 → Int32 → Int32 → Int32 → Prop) (f : Fn) (x1 : Int32) (x2 : Int32) (x3 : Int32) (x4 : Int32) (x5 : Int32) (x6 : Int32) (post : Option Value → Fn → Prop) : Prop :=
  ((x4 < (2 : Int32) → (wp_X1_gives_L176 o K6 f x1 x2 x3 x4 x5 post)) ∧ (¬ x4 < (2 : Int32) → (vp_in (x4 - (2 : Int32)) 50 ∧ (vp_in (x4 - (1 : Int32)) 50 ∧ (vp_in (x4 - (2 : Int32)) 50 ∧ (wp_X1_gives_L176 o K6 (up2 f (o + 2) (x4 - (2 : Int32)).toNatClampNeg (Val_X1_joined f (f (o + 2) (x4 - (2 : Int32)).toNatClampNeg) (-x6) (f (o + 2) (x4 - (1 : Int32)).toNatClampNeg))) x1 x2 x3 (x4 + (-1 : Int32)) x5 post))))))
def wp_X1_gives_L130 (o : Nat) (K6 : Fn → Int32 → Int32 → Int32 → Int32 → Int32 → Prop) (f : Fn) (x1 : Int32) (x2 : Int32) (x3 : Int32) (x4 : Int32) (x5 : Int32) (s0 : Int32) (s1 : Int32) (post : Option Value → Fn → Prop) : Prop :=
  (vp_in s1 50 ∧ (wp_X1_gives_L176 o K6 (up2 f (o + 2) s1.toNatClampNeg s0) x1 x2 x3 x4 x5 post))
def wp_X1_gives_L92 (o : Nat) (K6 : Fn → Int32 → Int32 → Int32 → Int32 → Int32 → Prop) (f : Fn) (x1 : Int32) (x2 : Int32) (x3 : Int32) (x4 : Int32) (x5 : Int32) (x6 : Int32) (post : Option Value → Fn → Prop) : Prop :=
  ((¬ x6 = (-33 : Int32) → (wp_X1_gives_L134 o K6 f x1 x2 x3 x4 x5 x6 post)) ∧ (x6 = (-33 : Int32) → ((x4 < (1 : Int32) → (wp_X1_gives_L134 o K6 f x1 x2 x3 x4 x5 x6 post)) ∧ (¬ x4 < (1 : Int32) → (vp_in (x4 - (1 : Int32)) 50 ∧ ((¬ (f (o + 2) (x4 - (1 : Int32)).toNatClampNeg) = 0 → (wp_X1_gives_L130 o K6 f x1 x2 x3 x4 x5 (0 : Int32) (x4 - (1 : Int32)) post)) ∧ ((f (o + 2) (x4 - (1 : Int32)).toNatClampNeg) = 0 → (wp_X1_gives_L130 o K6 f x1 x2 x3 x4 x5 (1 : Int32) (x4 - (1 : Int32)) post))))))))
def wp_X1_gives_L85 (o : Nat) (K6 : Fn → Int32 → Int32 → Int32 → Int32 → Int32 → Prop) (f : Fn) (x1 : Int32) (x2 : Int32) (x3 : Int32) (x4 : Int32) (x5 : Int32) (s0 : Int32) (s1 : Int32) (post : Option Value → Fn → Prop) : Prop :=
  (vp_in s1 50 ∧ (wp_X1_gives_L176 o K6 (up2 f (o + 2) s1.toNatClampNeg s0) x1 x2 x3 (x4 + (1 : Int32)) x5 post))
def wpb_X1_gives_L6 (o : Nat)  (K6 : Fn → Int32 → Int32 → Int32 → Int32 → Int32 → Prop) (f : Fn) (x1 : Int32) (x2 : Int32) (x3 : Int32) (x4 : Int32) (x5 : Int32) (post : Option Value → Fn → Prop) : Prop :=
  (((f o 5) ≤ x5 → (wp_X1_gives_L182 o  f x1 x2 x4 post)) ∧ (¬ (f o 5) ≤ x5 → (((50 : Int32) ≤ x5 → (wp_X1_gives_L182 o  f x1 x2 x4 post)) ∧ (¬ (50 : Int32) ≤ x5 → (vp_in x5 50 ∧ (((Val_X1_isPart f (f (o + 1) x5.toNatClampNeg)) = 0 → (wp_X1_gives_L92 o K6 f x1 x2 x3 x4 x5 (f (o + 1) x5.toNatClampNeg) post)) ∧ (¬ (Val_X1_isPart f (f (o + 1) x5.toNatClampNeg)) = 0 → (((50 : Int32) ≤ x4 → (wp_X1_gives_L92 o K6 f x1 x2 x3 x4 x5 (f (o + 1) x5.toNatClampNeg) post)) ∧ (¬ (50 : Int32) ≤ x4 → (((f (o + 1) x5.toNatClampNeg) < 0 → ((¬ (f (o + 1) x5.toNatClampNeg) = (-107 : Int32) → ((¬ (f (o + 1) x5.toNatClampNeg) = (-118 : Int32) → (wp_X1_gives_L85 o K6 f x1 x2 x3 x4 x5 x3 x4 post)) ∧ ((f (o + 1) x5.toNatClampNeg) = (-118 : Int32) → (wp_X1_gives_L85 o K6 f x1 x2 x3 x4 x5 x2 x4 post)))) ∧ ((f (o + 1) x5.toNatClampNeg) = (-107 : Int32) → (wp_X1_gives_L85 o K6 f x1 x2 x3 x4 x5 x1 x4 post)))) ∧ (¬ (f (o + 1) x5.toNatClampNeg) < 0 → (wp_X1_gives_L85 o K6 f x1 x2 x3 x4 x5 (f (o + 1) x5.toNatClampNeg) x4 post))))))))))))
def wp_X1_gives_L6 (o : Nat)  (f : Fn) (x1 : Int32) (x2 : Int32) (x3 : Int32) (x4 : Int32) (x5 : Int32) (post : Option Value → Fn → Prop) : Prop :=
  ∃ (I : Fn → Int32 → Int32 → Int32 → Int32 → Int32 → Prop) (μ : Fn → Int32 → Int32 → Int32 → Int32 → Int32 → Nat), I f x1 x2 x3 x4 x5 ∧ ∀ (f : Fn) (x1 : Int32) (x2 : Int32) (x3 : Int32) (x4 : Int32) (x5 : Int32), I f x1 x2 x3 x4 x5 → wpb_X1_gives_L6 o  (fun (f9 : Fn) (x19 : Int32) (x29 : Int32) (x39 : Int32) (x49 : Int32) (x59 : Int32) => I f9 x19 x29 x39 x49 x59 ∧ μ f9 x19 x29 x39 x49 x59 < μ f x1 x2 x3 x4 x5) f x1 x2 x3 x4 x5 post
def wp_X1_gives (o : Nat) (f : Fn) (a1 : Int32) (a2 : Int32) (a3 : Int32) (post : Option Value → Fn → Prop) : Prop :=
  (wp_X1_gives_L6 o  f a1 a2 a3 (0 : Int32) (0 : Int32) post)
def wp_X3_isMissing (o : Nat) (f : Fn)  (post : Option Value → Fn → Prop) : Prop :=
  ((¬ (f o 1) = 0 → (post (some (.int (0 : Int32))) f)) ∧ ((f o 1) = 0 → (post (some (.int (1 : Int32))) f)))
def wpb_X3_begin_L29 (o : Nat)  (K29 : Fn → Int32 → Prop) (f : Fn) (x3 : Int32) (post : Option Value → Fn → Prop) : Prop :=
  (((40 : Int32) ≤ x3 → (post none f)) ∧ (¬ (40 : Int32) ≤ x3 → (vp_in x3 40 ∧ (K29 (up2 f (o + 1) x3.toNatClampNeg (0 : Int32)) (x3 + (1 : Int32))))))
def wp_X3_begin_L29 (o : Nat)  (f : Fn) (x3 : Int32) (post : Option Value → Fn → Prop) : Prop :=
  ∃ (I : Fn → Int32 → Prop) (μ : Fn → Int32 → Nat), I f x3 ∧ ∀ (f : Fn) (x3 : Int32), I f x3 → wpb_X3_begin_L29 o  (fun (f9 : Fn) (x39 : Int32) => I f9 x39 ∧ μ f9 x39 < μ f x3) f x3 post
def wp_X3_begin_L24 (o : Nat)  (f : Fn) (s0 : Int32) (post : Option Value → Fn → Prop) : Prop :=
  (wp_X3_begin_L29 o  (up2 f o 2 s0) (0 : Int32) post)
def wp_X3_begin (o : Nat) (f : Fn) (a1 : Int32) (a2 : Int32) (post : Option Value → Fn → Prop) : Prop :=
  ((¬ a1 = 0 → (wp_X3_begin_L24 o  (up2 f o 1 a1) (Val_J9_max_7cf53 (up2 f o 1 a1) (0 : Int32) (Val_J9_min_7cf53 (up2 f o 1 a1) (40 : Int32) a2)) post)) ∧ (a1 = 0 → (wp_X3_begin_L24 o  (up2 f o 1 a1) (0 : Int32) post)))
def wp_X3_write_L46 (o : Nat)  (f : Fn) (s0 : Int32) (s1 : Int32) (post : Option Value → Fn → Prop) : Prop :=
  (vp_in s1 40 ∧ (post none (up2 f (o + 1) s1.toNatClampNeg s0)))
def wp_X3_write (o : Nat) (f : Fn) (a1 : Int32) (a2 : Int32) (post : Option Value → Fn → Prop) : Prop :=
  ((a1 < 0 → (post none f)) ∧ (¬ a1 < 0 → (((f o 2) ≤ a1 → (post none f)) ∧ (¬ (f o 2) ≤ a1 → ((¬ (f o 1) = (8 : Int32) → ((¬ (f o 1) = (16 : Int32) → (wp_X3_write_L46 o  f a2 a1 post)) ∧ ((f o 1) = (16 : Int32) → (wp_X3_write_L46 o  f a2.toInt16.toInt32 a1 post)))) ∧ ((f o 1) = (8 : Int32) → (wp_X3_write_L46 o  f a2.toInt8.toInt32 a1 post)))))))
def wp_X3_read (o : Nat) (f : Fn) (a1 : Int32) (post : Option Value → Fn → Prop) : Prop :=
  ((a1 < 0 → (post (some (.int (0 : Int32))) f)) ∧ (¬ a1 < 0 → (((f o 2) ≤ a1 → (post (some (.int (0 : Int32))) f)) ∧ (¬ (f o 2) ≤ a1 → (vp_in a1 40 ∧ (post (some (.int (f (o + 1) a1.toNatClampNeg))) f))))))
def wp_X3_hasRow (o : Nat) (f : Fn) (a1 : Int32) (a2 : Int32) (post : Option Value → Fn → Prop) : Prop :=
  ((a2 < 0 → (post (some (.int (0 : Int32))) f)) ∧ (¬ a2 < 0 → (((f o 2) < a2 → (post (some (.int (0 : Int32))) f)) ∧ (¬ (f o 2) < a2 → ((a1 < 0 → (post (some (.int (0 : Int32))) f)) ∧ (¬ a1 < 0 → ((((f o 2) - a2) < a1 → (post (some (.int (0 : Int32))) f)) ∧ (¬ ((f o 2) - a2) < a1 → (post (some (.int (1 : Int32))) f)))))))))
def vcS_J9_abs_0f7a4 : Prop := ∀  (f : Fn) (a1 : Int32), wp_J9_abs_0f7a4 f a1 (pI (fun r9 f9 => r9 = Val_J9_abs_0f7a4 f a1 ∧ f9 = f))
def vcS_J9_max_7cf53 : Prop := ∀  (f : Fn) (a1 : Int32) (a2 : Int32), wp_J9_max_7cf53 f a1 a2 (pI (fun r9 f9 => r9 = Val_J9_max_7cf53 f a1 a2 ∧ f9 = f))
def vcS_J9_min_7cf53 : Prop := ∀  (f : Fn) (a1 : Int32) (a2 : Int32), wp_J9_min_7cf53 f a1 a2 (pI (fun r9 f9 => r9 = Val_J9_min_7cf53 f a1 a2 ∧ f9 = f))
def vcS_J9_floorMod_7cf53 : Prop := ∀  (f : Fn) (a1 : Int32) (a2 : Int32), Pre_J9_floorMod_7cf53 f a1 a2 → wp_J9_floorMod_7cf53 f a1 a2 (pI (fun r9 f9 => r9 = Val_J9_floorMod_7cf53 f a1 a2 ∧ f9 = f))
def vcS_X8_within : Prop := ∀  (f : Fn) (a1 : Int32) (a2 : Int32) (a3 : Int32), wp_X8_within f a1 a2 a3 (pI (fun r9 f9 => r9 = Val_X8_within f a1 a2 a3 ∧ f9 = f))
def vcS_X0_kindAbove : Prop := ∀  (f : Fn) (a1 : Int32), wp_X0_kindAbove f a1 (pI (fun r9 f9 => r9 = Val_X0_kindAbove f a1 ∧ f9 = f))
def vcS_X0_take : Prop := ∀ (o : Nat) (f : Fn) (a1 : Int32), isFl o → wp_X0_take o f a1 (pV (Post_X0_take o f a1))
def vcS_X0_begin : Prop := ∀ (o : Nat) (f : Fn) (a1 : Int32), isFl o → wp_X0_begin o f a1 (pV (Post_X0_begin o f a1))
def vcS_X0_isOf : Prop := ∀ (o : Nat) (f : Fn) (a1 : Int32), isFl o → Pre_X0_isOf o f a1 → wp_X0_isOf o f a1 (pI (fun r9 f9 => r9 = Val_X0_isOf o f a1 ∧ f9 = f))
def vcS_X0_lag : Prop := ∀ (o : Nat) (f : Fn) , isFl o → wp_X0_lag o f (pI (fun r9 f9 => r9 = Val_X0_lag o f ∧ f9 = f))
def vcS_X0_holds : Prop := ∀ (o : Nat) (f : Fn) (a1 : Int32), isFl o → wp_X0_holds o f a1 (pI (fun r9 f9 => r9 = Val_X0_holds o f a1 ∧ f9 = f))
def vcS_X0_harm : Prop := ∀ (o : Nat) (f : Fn) (a1 : Int32), isFl o → wp_X0_harm o f a1 (pI (fun r9 f9 => r9 = Val_X0_harm o f a1 ∧ f9 = f))
def vcS_X0_copy : Prop := ∀ (o : Nat) (o2 : Nat) (f : Fn) , isFl o → isFl o2 → wp_X0_copy o o2 f (pV (Post_X0_copy o o2 f))
def vcS_X4_takes : Prop := ∀ (o : Nat) (f : Fn) (a1 : Int32) (a2 : Int32), isSw o → wp_X4_takes o f a1 a2 (pI (fun r9 f9 => r9 = Val_X4_takes o f a1 a2 ∧ f9 = f))
def vcS_X4_change : Prop := ∀ (o : Nat) (f : Fn) (a1 : Int32) (a2 : Int32), isSw o → wp_X4_change o f a1 a2 (pI (Post_X4_change o f a1 a2))
def vcS_X4_placeAt : Prop := ∀ (o : Nat) (f : Fn) (a1 : Int32), isSw o → wp_X4_placeAt o f a1 (pI (fun r9 f9 => r9 = Val_X4_placeAt o f a1 ∧ f9 = f))
def vcS_X4_copy : Prop := ∀ (o : Nat) (o2 : Nat) (f : Fn) , isSw o → isSw o2 → wp_X4_copy o o2 f (pV (Post_X4_copy o o2 f))
def vcS_X1_isPart : Prop := ∀  (f : Fn) (a1 : Int32), wp_X1_isPart f a1 (pI (fun r9 f9 => r9 = Val_X1_isPart f a1 ∧ f9 = f))
def vcS_X1_joined : Prop := ∀  (f : Fn) (a1 : Int32) (a2 : Int32) (a3 : Int32), wp_X1_joined f a1 a2 a3 (pI (fun r9 f9 => r9 = Val_X1_joined f a1 a2 a3 ∧ f9 = f))
def vcS_X1_take : Prop := ∀ (o : Nat) (p : Nat) (f : Fn) (a2 : Int32), isLaw o → layC[p]? = some (.inr (.inl 50)) → wp_X1_take o p f a2 (pV (Post_X1_take o p f a2))
def vcS_X1_copy : Prop := ∀ (o : Nat) (o2 : Nat) (f : Fn) , isLaw o → isLaw o2 → wp_X1_copy o o2 f (pV (Post_X1_copy o o2 f))
def vcS_X1_gives : Prop := ∀ (o : Nat) (f : Fn) (a1 : Int32) (a2 : Int32) (a3 : Int32), isLaw o → wp_X1_gives o f a1 a2 a3 (pI (Post_X1_gives o f a1 a2 a3))
def vcS_X3_isMissing : Prop := ∀ (o : Nat) (f : Fn) , isSh o → wp_X3_isMissing o f (pI (fun r9 f9 => r9 = Val_X3_isMissing o f ∧ f9 = f))
def vcS_X3_begin : Prop := ∀ (o : Nat) (f : Fn) (a1 : Int32) (a2 : Int32), isSh o → wp_X3_begin o f a1 a2 (pV (Post_X3_begin o f a1 a2))
def vcS_X3_write : Prop := ∀ (o : Nat) (f : Fn) (a1 : Int32) (a2 : Int32), isSh o → Pre_X3_write o f a1 a2 → wp_X3_write o f a1 a2 (pV (Post_X3_write o f a1 a2))
def vcS_X3_read : Prop := ∀ (o : Nat) (f : Fn) (a1 : Int32), isSh o → Pre_X3_read o f a1 → wp_X3_read o f a1 (pI (fun r9 f9 => r9 = Val_X3_read o f a1 ∧ f9 = f))
def vcS_X3_hasRow : Prop := ∀ (o : Nat) (f : Fn) (a1 : Int32) (a2 : Int32), isSh o → wp_X3_hasRow o f a1 a2 (pI (fun r9 f9 => r9 = Val_X3_hasRow o f a1 a2 ∧ f9 = f))
def VC_l1 : Prop := vcS_J9_abs_0f7a4 ∧ vcS_J9_max_7cf53 ∧ vcS_J9_min_7cf53 ∧ vcS_J9_floorMod_7cf53 ∧ vcS_X8_within ∧ vcS_X0_kindAbove ∧ vcS_X0_take ∧ vcS_X0_begin ∧ vcS_X0_isOf ∧ vcS_X0_lag ∧ vcS_X0_holds ∧ vcS_X0_harm ∧ vcS_X0_copy ∧ vcS_X4_takes ∧ vcS_X4_change ∧ vcS_X4_placeAt ∧ vcS_X4_copy ∧ vcS_X1_isPart ∧ vcS_X1_joined ∧ vcS_X1_take ∧ vcS_X1_copy ∧ vcS_X1_gives ∧ vcS_X3_isMissing ∧ vcS_X3_begin ∧ vcS_X3_write ∧ vcS_X3_read ∧ vcS_X3_hasRow ∧ True
theorem ki_m1 : Int32.ofInt (-1) = (-1 : Int32) := by decide +kernel
theorem ki_0 : Int32.ofInt 0 = (0 : Int32) := by decide +kernel
theorem ki_1 : Int32.ofInt 1 = (1 : Int32) := by decide +kernel
theorem ki_2 : Int32.ofInt 2 = (2 : Int32) := by decide +kernel
theorem ki_3 : Int32.ofInt 3 = (3 : Int32) := by decide +kernel
theorem ki_4 : Int32.ofInt 4 = (4 : Int32) := by decide +kernel
theorem kb_m118 : (Int8.ofInt (-118)).toInt32 = (-118 : Int32) := by decide +kernel
theorem kb_m109 : (Int8.ofInt (-109)).toInt32 = (-109 : Int32) := by decide +kernel
theorem kb_m107 : (Int8.ofInt (-107)).toInt32 = (-107 : Int32) := by decide +kernel
theorem kb_m33 : (Int8.ofInt (-33)).toInt32 = (-33 : Int32) := by decide +kernel
theorem kb_7 : (Int8.ofInt 7).toInt32 = (7 : Int32) := by decide +kernel
theorem kb_8 : (Int8.ofInt 8).toInt32 = (8 : Int32) := by decide +kernel
theorem kb_10 : (Int8.ofInt 10).toInt32 = (10 : Int32) := by decide +kernel
theorem kb_16 : (Int8.ofInt 16).toInt32 = (16 : Int32) := by decide +kernel
theorem kb_30 : (Int8.ofInt 30).toInt32 = (30 : Int32) := by decide +kernel
theorem kb_40 : (Int8.ofInt 40).toInt32 = (40 : Int32) := by decide +kernel
theorem kb_50 : (Int8.ofInt 50).toInt32 = (50 : Int32) := by decide +kernel
theorem kb_60 : (Int8.ofInt 60).toInt32 = (60 : Int32) := by decide +kernel
theorem kc_0 : (0 : Int32).toNatClampNeg = 0 := by decide +kernel
theorem vi_0_50 : vp_in (0 : Int32) 50 := vp_of (by decide +kernel)
theorem inc_m1 (x : Int32) : x + Int32.ofInt (-1) = x + (-1 : Int32) := by rw [ki_m1]
theorem inc_1 (x : Int32) : x + Int32.ofInt 1 = x + (1 : Int32) := by rw [ki_1]
theorem fg_X0_15I {Z : Zt} {la : List CD} {cc : ByteArray} {n : Nat} {ret : Option FieldType} {d : Nat} {f : Fn} {lv : List (Nat × Value)} {pc q : Nat} {st : List Value} {k : Nat} {fl : List Nat} {x : Int32} (C : CX Z la RX0 cc n ret d) (hk : la[k]? = some (.inl (0, fl))) (hf : fl[2]? = some 0) (hx : f k 2 = x) (hd : decode cc pc = .ok (.getfield 15, 3)) (hq : pc + 3 = q) (g : GG Z f lv q (.int x :: st)) : GG Z f lv pc (.ref (zad Z k) :: st) := g_get (T := TX0) (N := 4) C gwi0 rfl (by decide) rfl rfl rfl tw_86 hk hf hd hq (by rw [fvl_0, hx]; exact g)
theorem fg_X0_19I {Z : Zt} {la : List CD} {cc : ByteArray} {n : Nat} {ret : Option FieldType} {d : Nat} {f : Fn} {lv : List (Nat × Value)} {pc q : Nat} {st : List Value} {k : Nat} {fl : List Nat} {x : Int32} (C : CX Z la RX0 cc n ret d) (hk : la[k]? = some (.inl (0, fl))) (hf : fl[3]? = some 0) (hx : f k 3 = x) (hd : decode cc pc = .ok (.getfield 19, 3)) (hq : pc + 3 = q) (g : GG Z f lv q (.int x :: st)) : GG Z f lv pc (.ref (zad Z k) :: st) := g_get (T := TX0) (N := 4) C gwi0 rfl (by decide) rfl rfl rfl tw_89 hk hf hd hq (by rw [fvl_0, hx]; exact g)
theorem fg_X0_22I {Z : Zt} {la : List CD} {cc : ByteArray} {n : Nat} {ret : Option FieldType} {d : Nat} {f : Fn} {lv : List (Nat × Value)} {pc q : Nat} {st : List Value} {k : Nat} {fl : List Nat} {x : Int32} (C : CX Z la RX0 cc n ret d) (hk : la[k]? = some (.inl (0, fl))) (hf : fl[0]? = some 0) (hx : f k 0 = x) (hd : decode cc pc = .ok (.getfield 22, 3)) (hq : pc + 3 = q) (g : GG Z f lv q (.int x :: st)) : GG Z f lv pc (.ref (zad Z k) :: st) := g_get (T := TX0) (N := 4) C gwi0 rfl (by decide) rfl rfl rfl tw_80 hk hf hd hq (by rw [fvl_0, hx]; exact g)
theorem fg_X0_25I {Z : Zt} {la : List CD} {cc : ByteArray} {n : Nat} {ret : Option FieldType} {d : Nat} {f : Fn} {lv : List (Nat × Value)} {pc q : Nat} {st : List Value} {k : Nat} {fl : List Nat} {x : Int32} (C : CX Z la RX0 cc n ret d) (hk : la[k]? = some (.inl (0, fl))) (hf : fl[1]? = some 0) (hx : f k 1 = x) (hd : decode cc pc = .ok (.getfield 25, 3)) (hq : pc + 3 = q) (g : GG Z f lv q (.int x :: st)) : GG Z f lv pc (.ref (zad Z k) :: st) := g_get (T := TX0) (N := 4) C gwi0 rfl (by decide) rfl rfl rfl tw_82 hk hf hd hq (by rw [fvl_0, hx]; exact g)
theorem fg_X1_9R {Z : Zt} {la : List CD} {cc : ByteArray} {n : Nat} {ret : Option FieldType} {d : Nat} {f : Fn} {lv : List (Nat × Value)} {pc q : Nat} {st : List Value} {k : Nat} {fl : List Nat} {p : Nat} (C : CX Z la RX1 cc n ret d) (hk : la[k]? = some (.inl (1, fl))) (hf : fl[3]? = some (p + 2)) (hd : decode cc pc = .ok (.getfield 9, 3)) (hq : pc + 3 = q) (g : GG Z f lv q (.ref (zad Z p) :: st)) : GG Z f lv pc (.ref (zad Z k) :: st) := g_get (T := TX1) (N := 6) C gwi1 rfl (by decide) rfl rfl rfl tw_57 hk hf hd hq (by rw [fvl_2]; exact g)
theorem fg_X1_15R {Z : Zt} {la : List CD} {cc : ByteArray} {n : Nat} {ret : Option FieldType} {d : Nat} {f : Fn} {lv : List (Nat × Value)} {pc q : Nat} {st : List Value} {k : Nat} {fl : List Nat} {p : Nat} (C : CX Z la RX1 cc n ret d) (hk : la[k]? = some (.inl (1, fl))) (hf : fl[4]? = some (p + 2)) (hd : decode cc pc = .ok (.getfield 15, 3)) (hq : pc + 3 = q) (g : GG Z f lv q (.ref (zad Z p) :: st)) : GG Z f lv pc (.ref (zad Z k) :: st) := g_get (T := TX1) (N := 6) C gwi1 rfl (by decide) rfl rfl rfl tw_58 hk hf hd hq (by rw [fvl_2]; exact g)
theorem fg_X1_18I {Z : Zt} {la : List CD} {cc : ByteArray} {n : Nat} {ret : Option FieldType} {d : Nat} {f : Fn} {lv : List (Nat × Value)} {pc q : Nat} {st : List Value} {k : Nat} {fl : List Nat} {x : Int32} (C : CX Z la RX1 cc n ret d) (hk : la[k]? = some (.inl (1, fl))) (hf : fl[0]? = some 0) (hx : f k 0 = x) (hd : decode cc pc = .ok (.getfield 18, 3)) (hq : pc + 3 = q) (g : GG Z f lv q (.int x :: st)) : GG Z f lv pc (.ref (zad Z k) :: st) := g_get (T := TX1) (N := 6) C gwi1 rfl (by decide) rfl rfl rfl tw_54 hk hf hd hq (by rw [fvl_0, hx]; exact g)
theorem fg_X1_22I {Z : Zt} {la : List CD} {cc : ByteArray} {n : Nat} {ret : Option FieldType} {d : Nat} {f : Fn} {lv : List (Nat × Value)} {pc q : Nat} {st : List Value} {k : Nat} {fl : List Nat} {x : Int32} (C : CX Z la RX1 cc n ret d) (hk : la[k]? = some (.inl (1, fl))) (hf : fl[1]? = some 0) (hx : f k 1 = x) (hd : decode cc pc = .ok (.getfield 22, 3)) (hq : pc + 3 = q) (g : GG Z f lv q (.int x :: st)) : GG Z f lv pc (.ref (zad Z k) :: st) := g_get (T := TX1) (N := 6) C gwi1 rfl (by decide) rfl rfl rfl tw_55 hk hf hd hq (by rw [fvl_0, hx]; exact g)
theorem fg_X1_26I {Z : Zt} {la : List CD} {cc : ByteArray} {n : Nat} {ret : Option FieldType} {d : Nat} {f : Fn} {lv : List (Nat × Value)} {pc q : Nat} {st : List Value} {k : Nat} {fl : List Nat} {x : Int32} (C : CX Z la RX1 cc n ret d) (hk : la[k]? = some (.inl (1, fl))) (hf : fl[2]? = some 0) (hx : f k 2 = x) (hd : decode cc pc = .ok (.getfield 26, 3)) (hq : pc + 3 = q) (g : GG Z f lv q (.int x :: st)) : GG Z f lv pc (.ref (zad Z k) :: st) := g_get (T := TX1) (N := 6) C gwi1 rfl (by decide) rfl rfl rfl tw_56 hk hf hd hq (by rw [fvl_0, hx]; exact g)
theorem fg_X1_35I {Z : Zt} {la : List CD} {cc : ByteArray} {n : Nat} {ret : Option FieldType} {d : Nat} {f : Fn} {lv : List (Nat × Value)} {pc q : Nat} {st : List Value} {k : Nat} {fl : List Nat} {x : Int32} (C : CX Z la RX1 cc n ret d) (hk : la[k]? = some (.inl (1, fl))) (hf : fl[5]? = some 0) (hx : f k 5 = x) (hd : decode cc pc = .ok (.getfield 35, 3)) (hq : pc + 3 = q) (g : GG Z f lv q (.int x :: st)) : GG Z f lv pc (.ref (zad Z k) :: st) := g_get (T := TX1) (N := 6) C gwi1 rfl (by decide) rfl rfl rfl tw_59 hk hf hd hq (by rw [fvl_0, hx]; exact g)
theorem fg_X3_9R {Z : Zt} {la : List CD} {cc : ByteArray} {n : Nat} {ret : Option FieldType} {d : Nat} {f : Fn} {lv : List (Nat × Value)} {pc q : Nat} {st : List Value} {k : Nat} {fl : List Nat} {p : Nat} (C : CX Z la RX3 cc n ret d) (hk : la[k]? = some (.inl (3, fl))) (hf : fl[0]? = some (p + 2)) (hd : decode cc pc = .ok (.getfield 9, 3)) (hq : pc + 3 = q) (g : GG Z f lv q (.ref (zad Z p) :: st)) : GG Z f lv pc (.ref (zad Z k) :: st) := g_get (T := TX3) (N := 3) C gwi3 rfl (by decide) rfl rfl rfl tw_270 hk hf hd hq (by rw [fvl_2]; exact g)
theorem fg_X3_15I {Z : Zt} {la : List CD} {cc : ByteArray} {n : Nat} {ret : Option FieldType} {d : Nat} {f : Fn} {lv : List (Nat × Value)} {pc q : Nat} {st : List Value} {k : Nat} {fl : List Nat} {x : Int32} (C : CX Z la RX3 cc n ret d) (hk : la[k]? = some (.inl (3, fl))) (hf : fl[1]? = some 0) (hx : f k 1 = x) (hd : decode cc pc = .ok (.getfield 15, 3)) (hq : pc + 3 = q) (g : GG Z f lv q (.int x :: st)) : GG Z f lv pc (.ref (zad Z k) :: st) := g_get (T := TX3) (N := 3) C gwi3 rfl (by decide) rfl rfl rfl tw_272 hk hf hd hq (by rw [fvl_0, hx]; exact g)
theorem fg_X3_28I {Z : Zt} {la : List CD} {cc : ByteArray} {n : Nat} {ret : Option FieldType} {d : Nat} {f : Fn} {lv : List (Nat × Value)} {pc q : Nat} {st : List Value} {k : Nat} {fl : List Nat} {x : Int32} (C : CX Z la RX3 cc n ret d) (hk : la[k]? = some (.inl (3, fl))) (hf : fl[2]? = some 0) (hx : f k 2 = x) (hd : decode cc pc = .ok (.getfield 28, 3)) (hq : pc + 3 = q) (g : GG Z f lv q (.int x :: st)) : GG Z f lv pc (.ref (zad Z k) :: st) := g_get (T := TX3) (N := 3) C gwi3 rfl (by decide) rfl rfl rfl tw_274 hk hf hd hq (by rw [fvl_0, hx]; exact g)
theorem fg_X4_9I {Z : Zt} {la : List CD} {cc : ByteArray} {n : Nat} {ret : Option FieldType} {d : Nat} {f : Fn} {lv : List (Nat × Value)} {pc q : Nat} {st : List Value} {k : Nat} {fl : List Nat} {x : Int32} (C : CX Z la RX4 cc n ret d) (hk : la[k]? = some (.inl (4, fl))) (hf : fl[0]? = some 0) (hx : f k 0 = x) (hd : decode cc pc = .ok (.getfield 9, 3)) (hq : pc + 3 = q) (g : GG Z f lv q (.int x :: st)) : GG Z f lv pc (.ref (zad Z k) :: st) := g_get (T := TX4) (N := 3) C gwi4 rfl (by decide) rfl rfl rfl tw_33 hk hf hd hq (by rw [fvl_0, hx]; exact g)
theorem fg_X4_15I {Z : Zt} {la : List CD} {cc : ByteArray} {n : Nat} {ret : Option FieldType} {d : Nat} {f : Fn} {lv : List (Nat × Value)} {pc q : Nat} {st : List Value} {k : Nat} {fl : List Nat} {x : Int32} (C : CX Z la RX4 cc n ret d) (hk : la[k]? = some (.inl (4, fl))) (hf : fl[1]? = some 0) (hx : f k 1 = x) (hd : decode cc pc = .ok (.getfield 15, 3)) (hq : pc + 3 = q) (g : GG Z f lv q (.int x :: st)) : GG Z f lv pc (.ref (zad Z k) :: st) := g_get (T := TX4) (N := 3) C gwi4 rfl (by decide) rfl rfl rfl tw_35 hk hf hd hq (by rw [fvl_0, hx]; exact g)
theorem fg_X4_22I {Z : Zt} {la : List CD} {cc : ByteArray} {n : Nat} {ret : Option FieldType} {d : Nat} {f : Fn} {lv : List (Nat × Value)} {pc q : Nat} {st : List Value} {k : Nat} {fl : List Nat} {x : Int32} (C : CX Z la RX4 cc n ret d) (hk : la[k]? = some (.inl (4, fl))) (hf : fl[2]? = some 0) (hx : f k 2 = x) (hd : decode cc pc = .ok (.getfield 22, 3)) (hq : pc + 3 = q) (g : GG Z f lv q (.int x :: st)) : GG Z f lv pc (.ref (zad Z k) :: st) := g_get (T := TX4) (N := 3) C gwi4 rfl (by decide) rfl rfl rfl tw_37 hk hf hd hq (by rw [fvl_0, hx]; exact g)
theorem fp_X0_15 {Z : Zt} {la : List CD} {cc : ByteArray} {n : Nat} {ret : Option FieldType} {d : Nat} {f : Fn} {lv : List (Nat × Value)} {pc q : Nat} {st : List Value} {k : Nat} {fl : List Nat} {v : Int32} (C : CX Z la RX0 cc n ret d) (hk : la[k]? = some (.inl (0, fl))) (hf : fl[2]? = some 0) (hlen : fl.length ≤ 100) (hd : decode cc pc = .ok (.putfield 15, 3)) (hq : pc + 3 = q) (g : GG Z (up2 f k 2 v) lv q st) : GG Z f lv pc (.int v :: .ref (zad Z k) :: st) := g_put (T := TX0) (N := 4) (j := 2) C gwi0 tyX0_ok nmX0 rfl (by decide) rfl rfl rfl rfl tw_86 rfl rfl hk hf hlen hd hq g
theorem fp_X0_19 {Z : Zt} {la : List CD} {cc : ByteArray} {n : Nat} {ret : Option FieldType} {d : Nat} {f : Fn} {lv : List (Nat × Value)} {pc q : Nat} {st : List Value} {k : Nat} {fl : List Nat} {v : Int32} (C : CX Z la RX0 cc n ret d) (hk : la[k]? = some (.inl (0, fl))) (hf : fl[3]? = some 0) (hlen : fl.length ≤ 100) (hd : decode cc pc = .ok (.putfield 19, 3)) (hq : pc + 3 = q) (g : GG Z (up2 f k 3 v) lv q st) : GG Z f lv pc (.int v :: .ref (zad Z k) :: st) := g_put (T := TX0) (N := 4) (j := 3) C gwi0 tyX0_ok nmX0 rfl (by decide) rfl rfl rfl rfl tw_89 rfl rfl hk hf hlen hd hq g
theorem fp_X0_22 {Z : Zt} {la : List CD} {cc : ByteArray} {n : Nat} {ret : Option FieldType} {d : Nat} {f : Fn} {lv : List (Nat × Value)} {pc q : Nat} {st : List Value} {k : Nat} {fl : List Nat} {v : Int32} (C : CX Z la RX0 cc n ret d) (hk : la[k]? = some (.inl (0, fl))) (hf : fl[0]? = some 0) (hlen : fl.length ≤ 100) (hd : decode cc pc = .ok (.putfield 22, 3)) (hq : pc + 3 = q) (g : GG Z (up2 f k 0 v) lv q st) : GG Z f lv pc (.int v :: .ref (zad Z k) :: st) := g_put (T := TX0) (N := 4) (j := 0) C gwi0 tyX0_ok nmX0 rfl (by decide) rfl rfl rfl rfl tw_80 rfl rfl hk hf hlen hd hq g
theorem fp_X0_25 {Z : Zt} {la : List CD} {cc : ByteArray} {n : Nat} {ret : Option FieldType} {d : Nat} {f : Fn} {lv : List (Nat × Value)} {pc q : Nat} {st : List Value} {k : Nat} {fl : List Nat} {v : Int32} (C : CX Z la RX0 cc n ret d) (hk : la[k]? = some (.inl (0, fl))) (hf : fl[1]? = some 0) (hlen : fl.length ≤ 100) (hd : decode cc pc = .ok (.putfield 25, 3)) (hq : pc + 3 = q) (g : GG Z (up2 f k 1 v) lv q st) : GG Z f lv pc (.int v :: .ref (zad Z k) :: st) := g_put (T := TX0) (N := 4) (j := 1) C gwi0 tyX0_ok nmX0 rfl (by decide) rfl rfl rfl rfl tw_82 rfl rfl hk hf hlen hd hq g
theorem fp_X1_35 {Z : Zt} {la : List CD} {cc : ByteArray} {n : Nat} {ret : Option FieldType} {d : Nat} {f : Fn} {lv : List (Nat × Value)} {pc q : Nat} {st : List Value} {k : Nat} {fl : List Nat} {v : Int32} (C : CX Z la RX1 cc n ret d) (hk : la[k]? = some (.inl (1, fl))) (hf : fl[5]? = some 0) (hlen : fl.length ≤ 100) (hd : decode cc pc = .ok (.putfield 35, 3)) (hq : pc + 3 = q) (g : GG Z (up2 f k 5 v) lv q st) : GG Z f lv pc (.int v :: .ref (zad Z k) :: st) := g_put (T := TX1) (N := 6) (j := 5) C gwi1 tyX1_ok nmX1 rfl (by decide) rfl rfl rfl rfl tw_59 rfl rfl hk hf hlen hd hq g
theorem fp_X3_15 {Z : Zt} {la : List CD} {cc : ByteArray} {n : Nat} {ret : Option FieldType} {d : Nat} {f : Fn} {lv : List (Nat × Value)} {pc q : Nat} {st : List Value} {k : Nat} {fl : List Nat} {v : Int32} (C : CX Z la RX3 cc n ret d) (hk : la[k]? = some (.inl (3, fl))) (hf : fl[1]? = some 0) (hlen : fl.length ≤ 100) (hd : decode cc pc = .ok (.putfield 15, 3)) (hq : pc + 3 = q) (g : GG Z (up2 f k 1 v) lv q st) : GG Z f lv pc (.int v :: .ref (zad Z k) :: st) := g_put (T := TX3) (N := 3) (j := 1) C gwi3 tyX3_ok nmX3 rfl (by decide) rfl rfl rfl rfl tw_272 rfl rfl hk hf hlen hd hq g
theorem fp_X3_28 {Z : Zt} {la : List CD} {cc : ByteArray} {n : Nat} {ret : Option FieldType} {d : Nat} {f : Fn} {lv : List (Nat × Value)} {pc q : Nat} {st : List Value} {k : Nat} {fl : List Nat} {v : Int32} (C : CX Z la RX3 cc n ret d) (hk : la[k]? = some (.inl (3, fl))) (hf : fl[2]? = some 0) (hlen : fl.length ≤ 100) (hd : decode cc pc = .ok (.putfield 28, 3)) (hq : pc + 3 = q) (g : GG Z (up2 f k 2 v) lv q st) : GG Z f lv pc (.int v :: .ref (zad Z k) :: st) := g_put (T := TX3) (N := 3) (j := 2) C gwi3 tyX3_ok nmX3 rfl (by decide) rfl rfl rfl rfl tw_274 rfl rfl hk hf hlen hd hq g
theorem fp_X4_9 {Z : Zt} {la : List CD} {cc : ByteArray} {n : Nat} {ret : Option FieldType} {d : Nat} {f : Fn} {lv : List (Nat × Value)} {pc q : Nat} {st : List Value} {k : Nat} {fl : List Nat} {v : Int32} (C : CX Z la RX4 cc n ret d) (hk : la[k]? = some (.inl (4, fl))) (hf : fl[0]? = some 0) (hlen : fl.length ≤ 100) (hd : decode cc pc = .ok (.putfield 9, 3)) (hq : pc + 3 = q) (g : GG Z (up2 f k 0 v) lv q st) : GG Z f lv pc (.int v :: .ref (zad Z k) :: st) := g_put (T := TX4) (N := 3) (j := 0) C gwi4 tyX4_ok nmX4 rfl (by decide) rfl rfl rfl rfl tw_33 rfl rfl hk hf hlen hd hq g
theorem fp_X4_15 {Z : Zt} {la : List CD} {cc : ByteArray} {n : Nat} {ret : Option FieldType} {d : Nat} {f : Fn} {lv : List (Nat × Value)} {pc q : Nat} {st : List Value} {k : Nat} {fl : List Nat} {v : Int32} (C : CX Z la RX4 cc n ret d) (hk : la[k]? = some (.inl (4, fl))) (hf : fl[1]? = some 0) (hlen : fl.length ≤ 100) (hd : decode cc pc = .ok (.putfield 15, 3)) (hq : pc + 3 = q) (g : GG Z (up2 f k 1 v) lv q st) : GG Z f lv pc (.int v :: .ref (zad Z k) :: st) := g_put (T := TX4) (N := 3) (j := 1) C gwi4 tyX4_ok nmX4 rfl (by decide) rfl rfl rfl rfl tw_35 rfl rfl hk hf hlen hd hq g
theorem fp_X4_22 {Z : Zt} {la : List CD} {cc : ByteArray} {n : Nat} {ret : Option FieldType} {d : Nat} {f : Fn} {lv : List (Nat × Value)} {pc q : Nat} {st : List Value} {k : Nat} {fl : List Nat} {v : Int32} (C : CX Z la RX4 cc n ret d) (hk : la[k]? = some (.inl (4, fl))) (hf : fl[2]? = some 0) (hlen : fl.length ≤ 100) (hd : decode cc pc = .ok (.putfield 22, 3)) (hq : pc + 3 = q) (g : GG Z (up2 f k 2 v) lv q st) : GG Z f lv pc (.int v :: .ref (zad Z k) :: st) := g_put (T := TX4) (N := 3) (j := 2) C gwi4 tyX4_ok nmX4 rfl (by decide) rfl rfl rfl rfl tw_37 rfl rfl hk hf hlen hd hq g
theorem hy_J9_abs_0f7a4 : yJ9_abs_0f7a4.cls ≠ "java/lang/invoke/MethodHandle" ∧ yJ9_abs_0f7a4.cls ≠ "java/lang/invoke/VarHandle" ∧ (parseMethodDescriptor yJ9_abs_0f7a4.desc).map (fun d => d.parameters.length) = some 1 := by decide +kernel
theorem hy_J9_floorMod_7cf53 : yJ9_floorMod_7cf53.cls ≠ "java/lang/invoke/MethodHandle" ∧ yJ9_floorMod_7cf53.cls ≠ "java/lang/invoke/VarHandle" ∧ (parseMethodDescriptor yJ9_floorMod_7cf53.desc).map (fun d => d.parameters.length) = some 2 := by decide +kernel
theorem hy_J9_max_7cf53 : yJ9_max_7cf53.cls ≠ "java/lang/invoke/MethodHandle" ∧ yJ9_max_7cf53.cls ≠ "java/lang/invoke/VarHandle" ∧ (parseMethodDescriptor yJ9_max_7cf53.desc).map (fun d => d.parameters.length) = some 2 := by decide +kernel
theorem hy_J9_min_7cf53 : yJ9_min_7cf53.cls ≠ "java/lang/invoke/MethodHandle" ∧ yJ9_min_7cf53.cls ≠ "java/lang/invoke/VarHandle" ∧ (parseMethodDescriptor yJ9_min_7cf53.desc).map (fun d => d.parameters.length) = some 2 := by decide +kernel
theorem hy_X0_kindAbove : yX0_kindAbove.cls ≠ "java/lang/invoke/MethodHandle" ∧ yX0_kindAbove.cls ≠ "java/lang/invoke/VarHandle" ∧ (parseMethodDescriptor yX0_kindAbove.desc).map (fun d => d.parameters.length) = some 1 := by decide +kernel
theorem hy_X0_take : yX0_take.cls ≠ "java/lang/invoke/MethodHandle" ∧ yX0_take.cls ≠ "java/lang/invoke/VarHandle" ∧ (parseMethodDescriptor yX0_take.desc).map (fun d => d.parameters.length) = some 1 := by decide +kernel
theorem hy_X1_isPart : yX1_isPart.cls ≠ "java/lang/invoke/MethodHandle" ∧ yX1_isPart.cls ≠ "java/lang/invoke/VarHandle" ∧ (parseMethodDescriptor yX1_isPart.desc).map (fun d => d.parameters.length) = some 1 := by decide +kernel
theorem hy_X1_joined : yX1_joined.cls ≠ "java/lang/invoke/MethodHandle" ∧ yX1_joined.cls ≠ "java/lang/invoke/VarHandle" ∧ (parseMethodDescriptor yX1_joined.desc).map (fun d => d.parameters.length) = some 3 := by decide +kernel
theorem hy_X1_take : yX1_take.cls ≠ "java/lang/invoke/MethodHandle" ∧ yX1_take.cls ≠ "java/lang/invoke/VarHandle" ∧ (parseMethodDescriptor yX1_take.desc).map (fun d => d.parameters.length) = some 2 := by decide +kernel
theorem hy_X8_within : yX8_within.cls ≠ "java/lang/invoke/MethodHandle" ∧ yX8_within.cls ≠ "java/lang/invoke/VarHandle" ∧ (parseMethodDescriptor yX8_within.desc).map (fun d => d.parameters.length) = some 3 := by decide +kernel
set_option maxHeartbeats 4000000 in
set_option maxRecDepth 100000 in
theorem wk_J9_abs_0f7a4 (V_l1 : VC_l1) {Z : Zt}  (C : CX Z layC RJ9 cJ9_abs_0f7a4 1 (some .int) 0)     (f : Fn) (a1 : Int32) (h : wp_J9_abs_0f7a4  f a1 (zp Z)) : GG Z f [(0, .int a1)] 0 [] := by
  refine g_iload_n C rfl dJ9_abs_0f7a4_0 rfl ?_
  refine g_if_ge (tgt := 9) C dJ9_abs_0f7a4_1 (by decide) rfl (fun hc1 => ?_) (fun hc1 => ?_)
  · replace h := h.1 hc1
    refine g_iload_n C rfl dJ9_abs_0f7a4_9 rfl ?_
    exact g_iret C dJ9_abs_0f7a4_10 h
  · replace h := h.2 hc1
    refine g_iload_n C rfl dJ9_abs_0f7a4_4 rfl ?_
    refine g_ineg C dJ9_abs_0f7a4_5 rfl ?_
    refine g_goto (q := 10) C dJ9_abs_0f7a4_6 (by decide) ?_
    exact g_iret C dJ9_abs_0f7a4_10 h
set_option maxRecDepth 100000 in
theorem ct_J9_abs_0f7a4 (V_l1 : VC_l1) {l : Launch} {E : Ev}   (f : Fn) (a1 : Int32)  : CT l E layC yJ9_abs_0f7a4 cJ9_abs_0f7a4 1 (some .int) 0 [.int a1] f (pI (fun r9 f9 => r9 = Val_J9_abs_0f7a4 f a1 ∧ f9 = f)) := by
  refine CT.of (by decide +kernel) (Nat.le_of_ble_eq_true rfl) (fun Z hl9 hE9 hp9 C => ?_)
  subst hl9
  subst hE9
  exact wk_J9_abs_0f7a4 V_l1 C   f a1 (by rw [hp9]; exact V_l1.1  f a1  )
set_option maxHeartbeats 4000000 in
set_option maxRecDepth 100000 in
theorem wk_J9_max_7cf53 (V_l1 : VC_l1) {Z : Zt}  (C : CX Z layC RJ9 cJ9_max_7cf53 2 (some .int) 0)     (f : Fn) (a1 : Int32) (a2 : Int32) (h : wp_J9_max_7cf53  f a1 a2 (zp Z)) : GG Z f [(0, .int a1), (1, .int a2)] 0 [] := by
  refine g_iload_n C rfl dJ9_max_7cf53_0 rfl ?_
  refine g_iload_n C rfl dJ9_max_7cf53_1 rfl ?_
  refine g_icmp_lt (tgt := 9) C dJ9_max_7cf53_2 (by decide) rfl (fun hc1 => ?_) (fun hc1 => ?_)
  · replace h := h.1 hc1
    refine g_iload_n C rfl dJ9_max_7cf53_9 rfl ?_
    exact g_iret C dJ9_max_7cf53_10 h
  · replace h := h.2 hc1
    refine g_iload_n C rfl dJ9_max_7cf53_5 rfl ?_
    refine g_goto (q := 10) C dJ9_max_7cf53_6 (by decide) ?_
    exact g_iret C dJ9_max_7cf53_10 h
set_option maxRecDepth 100000 in
theorem ct_J9_max_7cf53 (V_l1 : VC_l1) {l : Launch} {E : Ev}   (f : Fn) (a1 : Int32) (a2 : Int32)  : CT l E layC yJ9_max_7cf53 cJ9_max_7cf53 2 (some .int) 0 [.int a1, .int a2] f (pI (fun r9 f9 => r9 = Val_J9_max_7cf53 f a1 a2 ∧ f9 = f)) := by
  refine CT.of (by decide +kernel) (Nat.le_of_ble_eq_true rfl) (fun Z hl9 hE9 hp9 C => ?_)
  subst hl9
  subst hE9
  exact wk_J9_max_7cf53 V_l1 C   f a1 a2 (by rw [hp9]; exact V_l1.2.1  f a1 a2  )
set_option maxHeartbeats 4000000 in
set_option maxRecDepth 100000 in
theorem wk_J9_min_7cf53 (V_l1 : VC_l1) {Z : Zt}  (C : CX Z layC RJ9 cJ9_min_7cf53 2 (some .int) 0)     (f : Fn) (a1 : Int32) (a2 : Int32) (h : wp_J9_min_7cf53  f a1 a2 (zp Z)) : GG Z f [(0, .int a1), (1, .int a2)] 0 [] := by
  refine g_iload_n C rfl dJ9_min_7cf53_0 rfl ?_
  refine g_iload_n C rfl dJ9_min_7cf53_1 rfl ?_
  refine g_icmp_gt (tgt := 9) C dJ9_min_7cf53_2 (by decide) rfl (fun hc1 => ?_) (fun hc1 => ?_)
  · replace h := h.1 hc1
    refine g_iload_n C rfl dJ9_min_7cf53_9 rfl ?_
    exact g_iret C dJ9_min_7cf53_10 h
  · replace h := h.2 hc1
    refine g_iload_n C rfl dJ9_min_7cf53_5 rfl ?_
    refine g_goto (q := 10) C dJ9_min_7cf53_6 (by decide) ?_
    exact g_iret C dJ9_min_7cf53_10 h
set_option maxRecDepth 100000 in
theorem ct_J9_min_7cf53 (V_l1 : VC_l1) {l : Launch} {E : Ev}   (f : Fn) (a1 : Int32) (a2 : Int32)  : CT l E layC yJ9_min_7cf53 cJ9_min_7cf53 2 (some .int) 0 [.int a1, .int a2] f (pI (fun r9 f9 => r9 = Val_J9_min_7cf53 f a1 a2 ∧ f9 = f)) := by
  refine CT.of (by decide +kernel) (Nat.le_of_ble_eq_true rfl) (fun Z hl9 hE9 hp9 C => ?_)
  subst hl9
  subst hE9
  exact wk_J9_min_7cf53 V_l1 C   f a1 a2 (by rw [hp9]; exact V_l1.2.2.1  f a1 a2  )
set_option maxHeartbeats 4000000 in
set_option maxRecDepth 100000 in
theorem wk_J9_floorMod_7cf53 (V_l1 : VC_l1) {Z : Zt}  (C : CX Z layC RJ9 cJ9_floorMod_7cf53 3 (some .int) 0)     (f : Fn) (a1 : Int32) (a2 : Int32) (h : wp_J9_floorMod_7cf53  f a1 a2 (zp Z)) : GG Z f [(0, .int a1), (1, .int a2)] 0 [] := by
  refine g_iload_n C rfl dJ9_floorMod_7cf53_0 rfl ?_
  refine g_iload_n C rfl dJ9_floorMod_7cf53_1 rfl ?_
  have hs1 := h.1
  replace h := h.2
  refine g_irem C hs1 dJ9_floorMod_7cf53_2 rfl ?_
  refine g_istore_n (lv' := [(2, .int (a1 - (a1 / a2) * a2)), (0, .int a1), (1, .int a2)]) C dJ9_floorMod_7cf53_3 (by decide) rfl rfl ?_
  refine g_iload_n C rfl dJ9_floorMod_7cf53_4 rfl ?_
  refine g_iload_n C rfl dJ9_floorMod_7cf53_5 rfl ?_
  refine g_ixor C dJ9_floorMod_7cf53_6 rfl ?_
  refine g_if_ge (tgt := 18) C dJ9_floorMod_7cf53_7 (by decide) rfl (fun hc2 => ?_) (fun hc2 => ?_)
  · replace h := h.1 hc2
    refine g_iload_n C rfl dJ9_floorMod_7cf53_18 rfl ?_
    exact g_iret C dJ9_floorMod_7cf53_19 h
  · replace h := h.2 hc2
    refine g_iload_n C rfl dJ9_floorMod_7cf53_10 rfl ?_
    refine g_if_eq (tgt := 18) C dJ9_floorMod_7cf53_11 (by decide) rfl (fun hc3 => ?_) (fun hc3 => ?_)
    · replace h := h.1 hc3
      refine g_iload_n C rfl dJ9_floorMod_7cf53_18 rfl ?_
      exact g_iret C dJ9_floorMod_7cf53_19 h
    · replace h := h.2 hc3
      refine g_iload_n C rfl dJ9_floorMod_7cf53_14 rfl ?_
      refine g_iload_n C rfl dJ9_floorMod_7cf53_15 rfl ?_
      refine g_iadd C dJ9_floorMod_7cf53_16 rfl ?_
      exact g_iret C dJ9_floorMod_7cf53_17 h
set_option maxRecDepth 100000 in
theorem ct_J9_floorMod_7cf53 (V_l1 : VC_l1) {l : Launch} {E : Ev}   (f : Fn) (a1 : Int32) (a2 : Int32) (hpre : Pre_J9_floorMod_7cf53 f a1 a2) : CT l E layC yJ9_floorMod_7cf53 cJ9_floorMod_7cf53 3 (some .int) 0 [.int a1, .int a2] f (pI (fun r9 f9 => r9 = Val_J9_floorMod_7cf53 f a1 a2 ∧ f9 = f)) := by
  refine CT.of (by decide +kernel) (Nat.le_of_ble_eq_true rfl) (fun Z hl9 hE9 hp9 C => ?_)
  subst hl9
  subst hE9
  exact wk_J9_floorMod_7cf53 V_l1 C   f a1 a2 (by rw [hp9]; exact V_l1.2.2.2.1  f a1 a2  hpre)
set_option maxHeartbeats 4000000 in
set_option maxRecDepth 100000 in
theorem wk_X8_within (V_l1 : VC_l1) {Z : Zt}  (C : CX Z layC RX8 cX8_within 3 (some .boolean) 0)     (f : Fn) (a1 : Int32) (a2 : Int32) (a3 : Int32) (h : wp_X8_within  f a1 a2 a3 (zp Z)) : GG Z f [(0, .int a1), (1, .int a2), (2, .int a3)] 0 [] := by
  refine g_iload_n C rfl dX8_within_0 rfl ?_
  refine g_iload_n C rfl dX8_within_1 rfl ?_
  refine g_icmp_lt (tgt := 14) C dX8_within_2 (by decide) rfl (fun hc1 => ?_) (fun hc1 => ?_)
  · replace h := h.1 hc1
    refine g_iconst C ki_0 dX8_within_14 rfl ?_
    exact g_zret C (Or.inl rfl) dX8_within_15 h
  · replace h := h.2 hc1
    refine g_iload_n C rfl dX8_within_5 rfl ?_
    refine g_iload_n C rfl dX8_within_6 rfl ?_
    refine g_icmp_gt (tgt := 14) C dX8_within_7 (by decide) rfl (fun hc2 => ?_) (fun hc2 => ?_)
    · replace h := h.1 hc2
      refine g_iconst C ki_0 dX8_within_14 rfl ?_
      exact g_zret C (Or.inl rfl) dX8_within_15 h
    · replace h := h.2 hc2
      refine g_iconst C ki_1 dX8_within_10 rfl ?_
      refine g_goto (q := 15) C dX8_within_11 (by decide) ?_
      exact g_zret C (Or.inr rfl) dX8_within_15 h
set_option maxRecDepth 100000 in
theorem ct_X8_within (V_l1 : VC_l1) {l : Launch} {E : Ev}   (f : Fn) (a1 : Int32) (a2 : Int32) (a3 : Int32)  : CT l E layC yX8_within cX8_within 3 (some .boolean) 0 [.int a1, .int a2, .int a3] f (pI (fun r9 f9 => r9 = Val_X8_within f a1 a2 a3 ∧ f9 = f)) := by
  refine CT.of (by decide +kernel) (Nat.le_of_ble_eq_true rfl) (fun Z hl9 hE9 hp9 C => ?_)
  subst hl9
  subst hE9
  exact wk_X8_within V_l1 C   f a1 a2 a3 (by rw [hp9]; exact V_l1.2.2.2.2.1  f a1 a2 a3  )
set_option maxHeartbeats 4000000 in
set_option maxRecDepth 100000 in
theorem wk_X0_kindAbove (V_l1 : VC_l1) {Z : Zt}  (C : CX Z layC RX0 cX0_kindAbove 1 (some .int) 0)     (f : Fn) (a1 : Int32) (h : wp_X0_kindAbove  f a1 (zp Z)) : GG Z f [(0, .int a1)] 0 [] := by
  refine g_iload_n C rfl dX0_kindAbove_0 rfl ?_
  by_cases hk1_0 : a1 = (1 : Int32)
  · replace h := h.1 hk1_0
    refine g_tableIn (q := 40) (off := (39)) C dX0_kindAbove_1 (sw_in1 hk1_0 (by decide +kernel)) (sw_in2 hk1_0 (by decide +kernel)) (sw_ho hk1_0 (by decide +kernel)) (by decide) ?_
    refine g_iconst C ki_0 dX0_kindAbove_40 rfl ?_
    exact g_iret C dX0_kindAbove_41 h
  by_cases hk1_1 : a1 = (2 : Int32)
  · replace h := h.2.1 hk1_1
    refine g_tableIn (q := 40) (off := (39)) C dX0_kindAbove_1 (sw_in1 hk1_1 (by decide +kernel)) (sw_in2 hk1_1 (by decide +kernel)) (sw_ho hk1_1 (by decide +kernel)) (by decide) ?_
    refine g_iconst C ki_0 dX0_kindAbove_40 rfl ?_
    exact g_iret C dX0_kindAbove_41 h
  by_cases hk1_2 : a1 = (3 : Int32)
  · replace h := h.2.2.1 hk1_2
    refine g_tableIn (q := 40) (off := (39)) C dX0_kindAbove_1 (sw_in1 hk1_2 (by decide +kernel)) (sw_in2 hk1_2 (by decide +kernel)) (sw_ho hk1_2 (by decide +kernel)) (by decide) ?_
    refine g_iconst C ki_0 dX0_kindAbove_40 rfl ?_
    exact g_iret C dX0_kindAbove_41 h
  by_cases hk1_3 : a1 = (4 : Int32)
  · replace h := h.2.2.2.1 hk1_3
    refine g_tableIn (q := 42) (off := (41)) C dX0_kindAbove_1 (sw_in1 hk1_3 (by decide +kernel)) (sw_in2 hk1_3 (by decide +kernel)) (sw_ho hk1_3 (by decide +kernel)) (by decide) ?_
    refine g_iconst C ki_1 dX0_kindAbove_42 rfl ?_
    exact g_iret C dX0_kindAbove_43 h
  by_cases hk1_4 : a1 = (5 : Int32)
  · replace h := h.2.2.2.2.1 hk1_4
    refine g_tableIn (q := 44) (off := (43)) C dX0_kindAbove_1 (sw_in1 hk1_4 (by decide +kernel)) (sw_in2 hk1_4 (by decide +kernel)) (sw_ho hk1_4 (by decide +kernel)) (by decide) ?_
    refine g_iconst C ki_2 dX0_kindAbove_44 rfl ?_
    exact g_iret C dX0_kindAbove_45 h
  by_cases hk1_5 : a1 = (6 : Int32)
  · replace h := h.2.2.2.2.2.1 hk1_5
    refine g_tableIn (q := 46) (off := (45)) C dX0_kindAbove_1 (sw_in1 hk1_5 (by decide +kernel)) (sw_in2 hk1_5 (by decide +kernel)) (sw_ho hk1_5 (by decide +kernel)) (by decide) ?_
    refine g_iconst C ki_3 dX0_kindAbove_46 rfl ?_
    exact g_iret C dX0_kindAbove_47 h
  replace h := h.2.2.2.2.2.2 ⟨hk1_0, hk1_1, hk1_2, hk1_3, hk1_4, hk1_5⟩
  refine g_tableOut (q := 48) C dX0_kindAbove_1 (sw_out [(1 : Int32), (2 : Int32), (3 : Int32), (4 : Int32), (5 : Int32), (6 : Int32)] 6 (fun k9 hk9 => by simp only [List.mem_cons, List.not_mem_nil, or_false] at hk9; rcases hk9 with rfl | rfl | rfl | rfl | rfl | rfl <;> assumption) (by decide +kernel) (by decide +kernel)) (by decide) ?_
  refine g_iconst C ki_m1 dX0_kindAbove_48 rfl ?_
  exact g_iret C dX0_kindAbove_49 h
set_option maxRecDepth 100000 in
theorem ct_X0_kindAbove (V_l1 : VC_l1) {l : Launch} {E : Ev}   (f : Fn) (a1 : Int32)  : CT l E layC yX0_kindAbove cX0_kindAbove 1 (some .int) 0 [.int a1] f (pI (fun r9 f9 => r9 = Val_X0_kindAbove f a1 ∧ f9 = f)) := by
  refine CT.of (by decide +kernel) (Nat.le_of_ble_eq_true rfl) (fun Z hl9 hE9 hp9 C => ?_)
  subst hl9
  subst hE9
  exact wk_X0_kindAbove V_l1 C   f a1 (by rw [hp9]; exact V_l1.2.2.2.2.2.1  f a1  )
set_option maxHeartbeats 4000000 in
set_option maxRecDepth 100000 in
theorem wk_X0_take (V_l1 : VC_l1) {Z : Zt}  (C : CX Z layC RX0 cX0_take 2 none 0) (o : Nat) (ho : isFl o)   (f : Fn) (a1 : Int32) (h : wp_X0_take o f a1 (zp Z)) : GG Z f [(0, .ref (zad Z o)), (1, .int a1)] 0 [] := by
  refine g_aload_n C rfl dX0_take_0 rfl ?_
  refine g_iload_n C rfl dX0_take_1 rfl ?_
  refine g_bipush C kb_10 dX0_take_2 rfl ?_
  refine g_idiv C (by decide) dX0_take_4 rfl ?_
  refine fp_X0_22 (k := o) C ho rfl (Nat.le_of_ble_eq_true rfl) dX0_take_5 rfl ?_
  refine g_aload_n C rfl dX0_take_8 rfl ?_
  refine g_iload_n C rfl dX0_take_9 rfl ?_
  refine g_bipush C kb_10 dX0_take_10 rfl ?_
  refine g_irem C (by decide) dX0_take_12 rfl ?_
  refine fp_X0_25 (k := o) C ho rfl (Nat.le_of_ble_eq_true rfl) dX0_take_13 rfl ?_
  exact g_vret C dX0_take_16 h
set_option maxRecDepth 100000 in
theorem ct_X0_take (V_l1 : VC_l1) {l : Launch} {E : Ev} (o : Nat) (ho : isFl o) (f : Fn) (a1 : Int32)  : CT l E layC yX0_take cX0_take 2 none 0 [.ref (E.2.1 o), .int a1] f (pV (Post_X0_take o f a1)) := by
  refine CT.of (by decide +kernel) (Nat.le_of_ble_eq_true rfl) (fun Z hl9 hE9 hp9 C => ?_)
  subst hl9
  subst hE9
  exact wk_X0_take V_l1 C o ho f a1 (by rw [hp9]; exact V_l1.2.2.2.2.2.2.1 o f a1 ho )
set_option maxHeartbeats 4000000 in
set_option maxRecDepth 100000 in
theorem wk_X0_begin (V_l1 : VC_l1) {Z : Zt}  (C : CX Z layC RX0 cX0_begin 2 none 1) (o : Nat) (ho : isFl o)   (f : Fn) (a1 : Int32) (h : wp_X0_begin o f a1 (zp Z)) : GG Z f [(0, .ref (zad Z o)), (1, .int a1)] 0 [] := by
  refine g_aload_n C rfl dX0_begin_0 rfl ?_
  refine g_iload_n C rfl dX0_begin_1 rfl ?_
  refine g_callVV C tw_370 tw_371 tw_372 tw_5 tw_373 hy_X0_take (by decide) (by decide) rfl (Nat.le_of_ble_eq_true rfl) ho rfl (ct_X0_take V_l1 o ho f a1 ) dX0_begin_2 rfl rfl (fun f1 hp2 => ?_)
  replace h := h f1 hp2
  refine g_aload_n C rfl dX0_begin_5 rfl ?_
  refine g_iconst C ki_1 dX0_begin_6 rfl ?_
  refine fp_X0_15 (k := o) C ho rfl (Nat.le_of_ble_eq_true rfl) dX0_begin_7 rfl ?_
  refine g_aload_n C rfl dX0_begin_10 rfl ?_
  refine g_iconst C ki_0 dX0_begin_11 rfl ?_
  refine fp_X0_19 (k := o) C ho rfl (Nat.le_of_ble_eq_true rfl) dX0_begin_12 rfl ?_
  exact g_vret C dX0_begin_15 h
set_option maxRecDepth 100000 in
theorem ct_X0_begin (V_l1 : VC_l1) {l : Launch} {E : Ev} (o : Nat) (ho : isFl o) (f : Fn) (a1 : Int32)  : CT l E layC yX0_begin cX0_begin 2 none 1 [.ref (E.2.1 o), .int a1] f (pV (Post_X0_begin o f a1)) := by
  refine CT.of (by decide +kernel) (Nat.le_of_ble_eq_true rfl) (fun Z hl9 hE9 hp9 C => ?_)
  subst hl9
  subst hE9
  exact wk_X0_begin V_l1 C o ho f a1 (by rw [hp9]; exact V_l1.2.2.2.2.2.2.2.1 o f a1 ho )
set_option maxHeartbeats 4000000 in
set_option maxRecDepth 100000 in
theorem wk_X0_isOf_L33 (V_l1 : VC_l1) {Z : Zt}  (C : CX Z layC RX0 cX0_isOf 4 (some .boolean) 1) (o : Nat) (ho : isFl o)   (f : Fn) (x1 : Int32) (x2 : Int32) (h : wp_X0_isOf_L33 o  f x1 x2 (zp Z)) : GG Z f [(1, .int x1), (2, .int x2)] 33 [] := by
  refine g_iload_n C rfl dX0_isOf_33 rfl ?_
  refine g_iload_n C rfl dX0_isOf_34 rfl ?_
  refine g_icmp_ne (tgt := 42) C dX0_isOf_35 (by decide) rfl (fun hc2 => ?_) (fun hc2 => ?_)
  · replace h := h.1 hc2
    refine g_iconst C ki_0 dX0_isOf_42 rfl ?_
    exact g_zret C (Or.inl rfl) dX0_isOf_43 h
  · replace h := h.2 hc2
    refine g_iconst C ki_1 dX0_isOf_38 rfl ?_
    refine g_goto (q := 43) C dX0_isOf_39 (by decide) ?_
    exact g_zret C (Or.inr rfl) dX0_isOf_43 h
set_option maxHeartbeats 4000000 in
set_option maxRecDepth 100000 in
theorem wkb_X0_isOf_L7 (V_l1 : VC_l1) {Z : Zt}  (C : CX Z layC RX0 cX0_isOf 4 (some .boolean) 1) (o : Nat) (ho : isFl o) {K7 : Fn → Int32 → Int32 → Int32 → Prop} (hK7 : ∀ (f : Fn) (x1 : Int32) (x2 : Int32) (x3 : Int32), K7 f x1 x2 x3 → GG Z f [(1, .int x1), (2, .int x2), (3, .int x3)] 7 []) (f : Fn) (x1 : Int32) (x2 : Int32) (x3 : Int32) (h : wpb_X0_isOf_L7 o  K7 f x1 x2 x3 (zp Z)) : GG Z f [(1, .int x1), (2, .int x2), (3, .int x3)] 7 [] := by
  refine g_iload_n C rfl dX0_isOf_7 rfl ?_
  refine g_bipush C kb_7 dX0_isOf_8 rfl ?_
  refine g_icmp_ge (tgt := 33) C dX0_isOf_10 (by decide) rfl (fun hc1 => ?_) (fun hc1 => ?_)
  · replace h := h.1 hc1
    refine g_lps [1, 2] rfl ?_
    exact wk_X0_isOf_L33 V_l1  C o ho  _ _ _ h
  · replace h := h.2 hc1
    refine g_iload_n C rfl dX0_isOf_13 rfl ?_
    refine g_iload_n C rfl dX0_isOf_14 rfl ?_
    refine g_icmp_eq (tgt := 33) C dX0_isOf_15 (by decide) rfl (fun hc3 => ?_) (fun hc3 => ?_)
    · replace h := h.1 hc3
      refine g_lps [1, 2] rfl ?_
      exact wk_X0_isOf_L33 V_l1  C o ho  _ _ _ h
    · replace h := h.2 hc3
      refine g_iload_n C rfl dX0_isOf_18 rfl ?_
      refine g_if_le (tgt := 33) C dX0_isOf_19 (by decide) rfl (fun hc4 => ?_) (fun hc4 => ?_)
      · replace h := h.1 hc4
        refine g_lps [1, 2] rfl ?_
        exact wk_X0_isOf_L33 V_l1  C o ho  _ _ _ h
      · replace h := h.2 hc4
        refine g_iload_n C rfl dX0_isOf_22 rfl ?_
        refine g_callSD C tw_404 tw_405 tw_5 tw_406 hy_X0_kindAbove (by decide) (by decide) rfl (Nat.le_of_ble_eq_true rfl) (ct_X0_kindAbove V_l1   f x2 ) dX0_isOf_23 rfl rfl ?_
        refine g_istore_n (lv' := [(2, .int (Val_X0_kindAbove f x2)), (1, .int x1), (3, .int x3)]) C dX0_isOf_26 (by decide) rfl rfl ?_
        refine g_iinc (lv' := [(3, .int (x3 + (1 : Int32))), (2, .int (Val_X0_kindAbove f x2)), (1, .int x1)]) C dX0_isOf_27 rfl (inc_1 _) (by decide) rfl rfl ?_
        refine g_goto (q := 7) C dX0_isOf_30 (by decide) ?_
        refine g_lps [1, 2, 3] rfl ?_
        exact hK7 _ _ _ _ h
set_option maxHeartbeats 4000000 in
set_option maxRecDepth 100000 in
theorem wk_X0_isOf_L7 (V_l1 : VC_l1) {Z : Zt}  (C : CX Z layC RX0 cX0_isOf 4 (some .boolean) 1) (o : Nat) (ho : isFl o)   (f : Fn) (x1 : Int32) (x2 : Int32) (x3 : Int32) (h : wp_X0_isOf_L7 o  f x1 x2 x3 (zp Z)) : GG Z f [(1, .int x1), (2, .int x2), (3, .int x3)] 7 [] := by
  obtain ⟨I, μ, h0, hs⟩ := h
  suffices H : ∀ (N : Nat) (f : Fn) (x1 : Int32) (x2 : Int32) (x3 : Int32), μ f x1 x2 x3 < N → I f x1 x2 x3 → GG Z f [(1, .int x1), (2, .int x2), (3, .int x3)] 7 [] from H _ f x1 x2 x3 (Nat.lt_succ_self _) h0
  clear h0
  intro N
  induction N with
  | zero => intro f x1 x2 x3 hm; exact absurd hm (Nat.not_lt_zero _)
  | succ N ih =>
    intro f x1 x2 x3 hm hi
    exact wkb_X0_isOf_L7 V_l1  C o ho  (fun f9 x19 x29 x39 hk => ih f9 x19 x29 x39 (Nat.lt_of_lt_of_le hk.2 (Nat.le_of_lt_succ hm)) hk.1) f x1 x2 x3 (hs f x1 x2 x3 hi)
set_option maxHeartbeats 4000000 in
set_option maxRecDepth 100000 in
theorem wk_X0_isOf (V_l1 : VC_l1) {Z : Zt}  (C : CX Z layC RX0 cX0_isOf 4 (some .boolean) 1) (o : Nat) (ho : isFl o)   (f : Fn) (a1 : Int32) (h : wp_X0_isOf o f a1 (zp Z)) : GG Z f [(0, .ref (zad Z o)), (1, .int a1)] 0 [] := by
  refine g_aload_n C rfl dX0_isOf_0 rfl ?_
  refine fg_X0_22I (k := o) (x := (f o 0)) C ho rfl rfl dX0_isOf_1 rfl ?_
  refine g_istore_n (lv' := [(2, .int (f o 0)), (0, .ref (zad Z o)), (1, .int a1)]) C dX0_isOf_4 (by decide) rfl rfl ?_
  refine g_iconst C ki_0 dX0_isOf_5 rfl ?_
  refine g_istore_n (lv' := [(3, .int (0 : Int32)), (2, .int (f o 0)), (0, .ref (zad Z o)), (1, .int a1)]) C dX0_isOf_6 (by decide) rfl rfl ?_
  refine g_lps [1, 2, 3] rfl ?_
  exact wk_X0_isOf_L7 V_l1  C o ho  _ _ _ _ h
set_option maxRecDepth 100000 in
theorem ct_X0_isOf (V_l1 : VC_l1) {l : Launch} {E : Ev} (o : Nat) (ho : isFl o) (f : Fn) (a1 : Int32) (hpre : Pre_X0_isOf o f a1) : CT l E layC yX0_isOf cX0_isOf 4 (some .boolean) 1 [.ref (E.2.1 o), .int a1] f (pI (fun r9 f9 => r9 = Val_X0_isOf o f a1 ∧ f9 = f)) := by
  refine CT.of (by decide +kernel) (Nat.le_of_ble_eq_true rfl) (fun Z hl9 hE9 hp9 C => ?_)
  subst hl9
  subst hE9
  exact wk_X0_isOf V_l1 C o ho f a1 (by rw [hp9]; exact V_l1.2.2.2.2.2.2.2.2.1 o f a1 ho hpre)
set_option maxHeartbeats 4000000 in
set_option maxRecDepth 100000 in
theorem wk_X0_lag_L56 (V_l1 : VC_l1) {Z : Zt}  (C : CX Z layC RX0 cX0_lag 1 (some .int) 0) (o : Nat) (ho : isFl o)   (f : Fn)  (h : wp_X0_lag_L56 o  f  (zp Z)) : GG Z f [(0, .ref (zad Z o))] 56 [] := by
  refine g_aload_n C rfl dX0_lag_56 rfl ?_
  refine fg_X0_19I (k := o) (x := (f o 3)) C ho rfl rfl dX0_lag_57 rfl ?_
  refine g_aload_n C rfl dX0_lag_60 rfl ?_
  refine fg_X0_25I (k := o) (x := (f o 1)) C ho rfl rfl dX0_lag_61 rfl ?_
  refine g_icmp_le (tgt := 71) C dX0_lag_64 (by decide) rfl (fun hc2 => ?_) (fun hc2 => ?_)
  · replace h := h.1 hc2
    refine g_iconst C ki_0 dX0_lag_71 rfl ?_
    exact g_iret C dX0_lag_72 h
  · replace h := h.2 hc2
    refine g_iconst C ki_1 dX0_lag_67 rfl ?_
    refine g_goto (q := 72) C dX0_lag_68 (by decide) ?_
    exact g_iret C dX0_lag_72 h
set_option maxHeartbeats 4000000 in
set_option maxRecDepth 100000 in
theorem wk_X0_lag (V_l1 : VC_l1) {Z : Zt}  (C : CX Z layC RX0 cX0_lag 1 (some .int) 0) (o : Nat) (ho : isFl o)   (f : Fn)  (h : wp_X0_lag o f  (zp Z)) : GG Z f [(0, .ref (zad Z o))] 0 [] := by
  refine g_aload_n C rfl dX0_lag_0 rfl ?_
  refine fg_X0_22I (k := o) (x := (f o 0)) C ho rfl rfl dX0_lag_1 rfl ?_
  by_cases hk1_0 : (f o 0) = (2 : Int32)
  · replace h := h.1 hk1_0
    refine g_tableIn (q := 40) (off := (36)) C dX0_lag_4 (sw_in1 hk1_0 (by decide +kernel)) (sw_in2 hk1_0 (by decide +kernel)) (sw_ho hk1_0 (by decide +kernel)) (by decide) ?_
    refine g_iconst C ki_1 dX0_lag_40 rfl ?_
    refine g_aload_n C rfl dX0_lag_41 rfl ?_
    refine fg_X0_25I (k := o) (x := (f o 1)) C ho rfl rfl dX0_lag_42 rfl ?_
    refine g_iconst C ki_3 dX0_lag_45 rfl ?_
    refine g_irem C (by decide) dX0_lag_46 rfl ?_
    refine g_iadd C dX0_lag_47 rfl ?_
    exact g_iret C dX0_lag_48 h
  by_cases hk1_1 : (f o 0) = (3 : Int32)
  · replace h := h.2.1 hk1_1
    refine g_tableIn (q := 56) (off := (52)) C dX0_lag_4 (sw_in1 hk1_1 (by decide +kernel)) (sw_in2 hk1_1 (by decide +kernel)) (sw_ho hk1_1 (by decide +kernel)) (by decide) ?_
    exact wk_X0_lag_L56 V_l1  C o ho  _  h
  by_cases hk1_2 : (f o 0) = (4 : Int32)
  · replace h := h.2.2.1 hk1_2
    refine g_tableIn (q := 73) (off := (69)) C dX0_lag_4 (sw_in1 hk1_2 (by decide +kernel)) (sw_in2 hk1_2 (by decide +kernel)) (sw_ho hk1_2 (by decide +kernel)) (by decide) ?_
    refine g_iconst C ki_0 dX0_lag_73 rfl ?_
    exact g_iret C dX0_lag_74 h
  by_cases hk1_3 : (f o 0) = (5 : Int32)
  · replace h := h.2.2.2.1 hk1_3
    refine g_tableIn (q := 49) (off := (45)) C dX0_lag_4 (sw_in1 hk1_3 (by decide +kernel)) (sw_in2 hk1_3 (by decide +kernel)) (sw_ho hk1_3 (by decide +kernel)) (by decide) ?_
    refine g_aload_n C rfl dX0_lag_49 rfl ?_
    refine fg_X0_25I (k := o) (x := (f o 1)) C ho rfl rfl dX0_lag_50 rfl ?_
    refine g_iconst C ki_3 dX0_lag_53 rfl ?_
    refine g_irem C (by decide) dX0_lag_54 rfl ?_
    exact g_iret C dX0_lag_55 h
  by_cases hk1_4 : (f o 0) = (6 : Int32)
  · replace h := h.2.2.2.2.1 hk1_4
    refine g_tableIn (q := 56) (off := (52)) C dX0_lag_4 (sw_in1 hk1_4 (by decide +kernel)) (sw_in2 hk1_4 (by decide +kernel)) (sw_ho hk1_4 (by decide +kernel)) (by decide) ?_
    exact wk_X0_lag_L56 V_l1  C o ho  _  h
  replace h := h.2.2.2.2.2 ⟨hk1_0, hk1_1, hk1_2, hk1_3, hk1_4⟩
  refine g_tableOut (q := 73) C dX0_lag_4 (sw_out [(2 : Int32), (3 : Int32), (4 : Int32), (5 : Int32), (6 : Int32)] 5 (fun k9 hk9 => by simp only [List.mem_cons, List.not_mem_nil, or_false] at hk9; rcases hk9 with rfl | rfl | rfl | rfl | rfl <;> assumption) (by decide +kernel) (by decide +kernel)) (by decide) ?_
  refine g_iconst C ki_0 dX0_lag_73 rfl ?_
  exact g_iret C dX0_lag_74 h
set_option maxRecDepth 100000 in
theorem ct_X0_lag (V_l1 : VC_l1) {l : Launch} {E : Ev} (o : Nat) (ho : isFl o) (f : Fn)   : CT l E layC yX0_lag cX0_lag 1 (some .int) 0 [.ref (E.2.1 o)] f (pI (fun r9 f9 => r9 = Val_X0_lag o f ∧ f9 = f)) := by
  refine CT.of (by decide +kernel) (Nat.le_of_ble_eq_true rfl) (fun Z hl9 hE9 hp9 C => ?_)
  subst hl9
  subst hE9
  exact wk_X0_lag V_l1 C o ho f  (by rw [hp9]; exact V_l1.2.2.2.2.2.2.2.2.2.1 o f  ho )
set_option maxHeartbeats 4000000 in
set_option maxRecDepth 100000 in
theorem wk_X0_holds_L57 (V_l1 : VC_l1) {Z : Zt}  (C : CX Z layC RX0 cX0_holds 2 (some .int) 1) (o : Nat) (ho : isFl o)   (f : Fn) (x1 : Int32) (h : wp_X0_holds_L57 o  f x1 (zp Z)) : GG Z f [(0, .ref (zad Z o)), (1, .int x1)] 57 [] := by
  refine g_iconst C ki_0 dX0_holds_57 rfl ?_
  refine g_iload_n C rfl dX0_holds_58 rfl ?_
  refine g_aload_n C rfl dX0_holds_59 rfl ?_
  refine fg_X0_19I (k := o) (x := (f o 3)) C ho rfl rfl dX0_holds_60 rfl ?_
  refine g_iconst C ki_3 dX0_holds_63 rfl ?_
  refine g_idiv C (by decide) dX0_holds_64 rfl ?_
  refine g_isub C dX0_holds_65 rfl ?_
  refine g_callSD C tw_386 tw_335 tw_11 tw_336 hy_J9_max_7cf53 (by decide) (by decide) rfl (Nat.le_of_ble_eq_true rfl) (ct_J9_max_7cf53 V_l1   f (0 : Int32) (x1 - ((f o 3) / (3 : Int32))) ) dX0_holds_66 rfl rfl ?_
  exact g_iret C dX0_holds_69 h
set_option maxHeartbeats 4000000 in
set_option maxRecDepth 100000 in
theorem wk_X0_holds (V_l1 : VC_l1) {Z : Zt}  (C : CX Z layC RX0 cX0_holds 2 (some .int) 1) (o : Nat) (ho : isFl o)   (f : Fn) (a1 : Int32) (h : wp_X0_holds o f a1 (zp Z)) : GG Z f [(0, .ref (zad Z o)), (1, .int a1)] 0 [] := by
  refine g_aload_n C rfl dX0_holds_0 rfl ?_
  refine fg_X0_22I (k := o) (x := (f o 0)) C ho rfl rfl dX0_holds_1 rfl ?_
  by_cases hk1_0 : (f o 0) = (1 : Int32)
  · replace h := h.1 hk1_0
    refine g_tableIn (q := 44) (off := (40)) C dX0_holds_4 (sw_in1 hk1_0 (by decide +kernel)) (sw_in2 hk1_0 (by decide +kernel)) (sw_ho hk1_0 (by decide +kernel)) (by decide) ?_
    refine g_iload_n C rfl dX0_holds_44 rfl ?_
    refine g_iconst C ki_1 dX0_holds_45 rfl ?_
    refine g_iadd C dX0_holds_46 rfl ?_
    exact g_iret C dX0_holds_47 h
  by_cases hk1_1 : (f o 0) = (2 : Int32)
  · replace h := h.2.1 hk1_1
    refine g_tableIn (q := 70) (off := (66)) C dX0_holds_4 (sw_in1 hk1_1 (by decide +kernel)) (sw_in2 hk1_1 (by decide +kernel)) (sw_ho hk1_1 (by decide +kernel)) (by decide) ?_
    refine g_iload_n C rfl dX0_holds_70 rfl ?_
    exact g_iret C dX0_holds_71 h
  by_cases hk1_2 : (f o 0) = (3 : Int32)
  · replace h := h.2.2.1 hk1_2
    refine g_tableIn (q := 57) (off := (53)) C dX0_holds_4 (sw_in1 hk1_2 (by decide +kernel)) (sw_in2 hk1_2 (by decide +kernel)) (sw_ho hk1_2 (by decide +kernel)) (by decide) ?_
    exact wk_X0_holds_L57 V_l1  C o ho  _ _ h
  by_cases hk1_3 : (f o 0) = (4 : Int32)
  · replace h := h.2.2.2.1 hk1_3
    refine g_tableIn (q := 48) (off := (44)) C dX0_holds_4 (sw_in1 hk1_3 (by decide +kernel)) (sw_in2 hk1_3 (by decide +kernel)) (sw_ho hk1_3 (by decide +kernel)) (by decide) ?_
    refine g_iload_n C rfl dX0_holds_48 rfl ?_
    refine g_iconst C ki_1 dX0_holds_49 rfl ?_
    refine g_iadd C dX0_holds_50 rfl ?_
    refine g_aload_n C rfl dX0_holds_51 rfl ?_
    refine fg_X0_25I (k := o) (x := (f o 1)) C ho rfl rfl dX0_holds_52 rfl ?_
    refine g_iadd C dX0_holds_55 rfl ?_
    exact g_iret C dX0_holds_56 h
  by_cases hk1_4 : (f o 0) = (5 : Int32)
  · replace h := h.2.2.2.2.1 hk1_4
    refine g_tableIn (q := 70) (off := (66)) C dX0_holds_4 (sw_in1 hk1_4 (by decide +kernel)) (sw_in2 hk1_4 (by decide +kernel)) (sw_ho hk1_4 (by decide +kernel)) (by decide) ?_
    refine g_iload_n C rfl dX0_holds_70 rfl ?_
    exact g_iret C dX0_holds_71 h
  by_cases hk1_5 : (f o 0) = (6 : Int32)
  · replace h := h.2.2.2.2.2.1 hk1_5
    refine g_tableIn (q := 57) (off := (53)) C dX0_holds_4 (sw_in1 hk1_5 (by decide +kernel)) (sw_in2 hk1_5 (by decide +kernel)) (sw_ho hk1_5 (by decide +kernel)) (by decide) ?_
    exact wk_X0_holds_L57 V_l1  C o ho  _ _ h
  replace h := h.2.2.2.2.2.2 ⟨hk1_0, hk1_1, hk1_2, hk1_3, hk1_4, hk1_5⟩
  refine g_tableOut (q := 70) C dX0_holds_4 (sw_out [(1 : Int32), (2 : Int32), (3 : Int32), (4 : Int32), (5 : Int32), (6 : Int32)] 6 (fun k9 hk9 => by simp only [List.mem_cons, List.not_mem_nil, or_false] at hk9; rcases hk9 with rfl | rfl | rfl | rfl | rfl | rfl <;> assumption) (by decide +kernel) (by decide +kernel)) (by decide) ?_
  refine g_iload_n C rfl dX0_holds_70 rfl ?_
  exact g_iret C dX0_holds_71 h
set_option maxRecDepth 100000 in
theorem ct_X0_holds (V_l1 : VC_l1) {l : Launch} {E : Ev} (o : Nat) (ho : isFl o) (f : Fn) (a1 : Int32)  : CT l E layC yX0_holds cX0_holds 2 (some .int) 1 [.ref (E.2.1 o), .int a1] f (pI (fun r9 f9 => r9 = Val_X0_holds o f a1 ∧ f9 = f)) := by
  refine CT.of (by decide +kernel) (Nat.le_of_ble_eq_true rfl) (fun Z hl9 hE9 hp9 C => ?_)
  subst hl9
  subst hE9
  exact wk_X0_holds V_l1 C o ho f a1 (by rw [hp9]; exact V_l1.2.2.2.2.2.2.2.2.2.2.1 o f a1 ho )
set_option maxHeartbeats 4000000 in
set_option maxRecDepth 100000 in
theorem wk_X0_harm (V_l1 : VC_l1) {Z : Zt}  (C : CX Z layC RX0 cX0_harm 2 (some .int) 0) (o : Nat) (ho : isFl o)   (f : Fn) (a1 : Int32) (h : wp_X0_harm o f a1 (zp Z)) : GG Z f [(0, .ref (zad Z o)), (1, .int a1)] 0 [] := by
  refine g_aload_n C rfl dX0_harm_0 rfl ?_
  refine fg_X0_22I (k := o) (x := (f o 0)) C ho rfl rfl dX0_harm_1 rfl ?_
  by_cases hk1_0 : (f o 0) = (3 : Int32)
  · replace h := h.1 hk1_0
    refine g_lookup (q := 32) (off := (28)) C dX0_harm_4 (by decide +kernel) (sw_lo hk1_0 (by decide +kernel)) (by decide) ?_
    refine g_iload_n C rfl dX0_harm_32 rfl ?_
    refine g_aload_n C rfl dX0_harm_33 rfl ?_
    refine fg_X0_19I (k := o) (x := (f o 3)) C ho rfl rfl dX0_harm_34 rfl ?_
    refine g_iadd C dX0_harm_37 rfl ?_
    exact g_iret C dX0_harm_38 h
  by_cases hk1_1 : (f o 0) = (6 : Int32)
  · replace h := h.2.1 hk1_1
    refine g_lookup (q := 39) (off := (35)) C dX0_harm_4 (by decide +kernel) (sw_lo hk1_1 (by decide +kernel)) (by decide) ?_
    refine g_iload_n C rfl dX0_harm_39 rfl ?_
    refine g_aload_n C rfl dX0_harm_40 rfl ?_
    refine fg_X0_19I (k := o) (x := (f o 3)) C ho rfl rfl dX0_harm_41 rfl ?_
    refine g_iadd C dX0_harm_44 rfl ?_
    refine g_iconst C ki_2 dX0_harm_45 rfl ?_
    refine g_idiv C (by decide) dX0_harm_46 rfl ?_
    exact g_iret C dX0_harm_47 h
  replace h := h.2.2 ⟨hk1_0, hk1_1⟩
  refine g_lookup (q := 48) (off := (44)) C dX0_harm_4 (by decide +kernel) (sw_ld _ [(3 : Int32), (6 : Int32)] (by decide +kernel) (fun k9 hk9 => by simp only [List.mem_cons, List.not_mem_nil, or_false] at hk9; rcases hk9 with rfl | rfl <;> assumption)) (by decide) ?_
  refine g_iload_n C rfl dX0_harm_48 rfl ?_
  exact g_iret C dX0_harm_49 h
set_option maxRecDepth 100000 in
theorem ct_X0_harm (V_l1 : VC_l1) {l : Launch} {E : Ev} (o : Nat) (ho : isFl o) (f : Fn) (a1 : Int32)  : CT l E layC yX0_harm cX0_harm 2 (some .int) 0 [.ref (E.2.1 o), .int a1] f (pI (fun r9 f9 => r9 = Val_X0_harm o f a1 ∧ f9 = f)) := by
  refine CT.of (by decide +kernel) (Nat.le_of_ble_eq_true rfl) (fun Z hl9 hE9 hp9 C => ?_)
  subst hl9
  subst hE9
  exact wk_X0_harm V_l1 C o ho f a1 (by rw [hp9]; exact V_l1.2.2.2.2.2.2.2.2.2.2.2.1 o f a1 ho )
set_option maxHeartbeats 4000000 in
set_option maxRecDepth 100000 in
theorem wk_X0_copy (V_l1 : VC_l1) {Z : Zt}  (C : CX Z layC RX0 cX0_copy 2 none 0) (o : Nat) (o2 : Nat) (ho : isFl o) (ho2 : isFl o2)   (f : Fn)  (h : wp_X0_copy o o2 f  (zp Z)) : GG Z f [(0, .ref (zad Z o)), (1, .ref (zad Z o2))] 0 [] := by
  refine g_aload_n C rfl dX0_copy_0 rfl ?_
  refine g_aload_n C rfl dX0_copy_1 rfl ?_
  refine fg_X0_22I (k := o2) (x := (f o2 0)) C ho2 rfl rfl dX0_copy_2 rfl ?_
  refine fp_X0_22 (k := o) C ho rfl (Nat.le_of_ble_eq_true rfl) dX0_copy_5 rfl ?_
  refine g_aload_n C rfl dX0_copy_8 rfl ?_
  refine g_aload_n C rfl dX0_copy_9 rfl ?_
  refine fg_X0_25I (k := o2) (x := ((up2 f o 0 (f o2 0)) o2 1)) C ho2 rfl rfl dX0_copy_10 rfl ?_
  refine fp_X0_25 (k := o) C ho rfl (Nat.le_of_ble_eq_true rfl) dX0_copy_13 rfl ?_
  refine g_aload_n C rfl dX0_copy_16 rfl ?_
  refine g_aload_n C rfl dX0_copy_17 rfl ?_
  refine fg_X0_15I (k := o2) (x := ((up2 (up2 f o 0 (f o2 0)) o 1 ((up2 f o 0 (f o2 0)) o2 1)) o2 2)) C ho2 rfl rfl dX0_copy_18 rfl ?_
  refine fp_X0_15 (k := o) C ho rfl (Nat.le_of_ble_eq_true rfl) dX0_copy_21 rfl ?_
  refine g_aload_n C rfl dX0_copy_24 rfl ?_
  refine g_aload_n C rfl dX0_copy_25 rfl ?_
  refine fg_X0_19I (k := o2) (x := ((up2 (up2 (up2 f o 0 (f o2 0)) o 1 ((up2 f o 0 (f o2 0)) o2 1)) o 2 ((up2 (up2 f o 0 (f o2 0)) o 1 ((up2 f o 0 (f o2 0)) o2 1)) o2 2)) o2 3)) C ho2 rfl rfl dX0_copy_26 rfl ?_
  refine fp_X0_19 (k := o) C ho rfl (Nat.le_of_ble_eq_true rfl) dX0_copy_29 rfl ?_
  exact g_vret C dX0_copy_32 h
set_option maxRecDepth 100000 in
theorem ct_X0_copy (V_l1 : VC_l1) {l : Launch} {E : Ev} (o : Nat) (o2 : Nat) (ho : isFl o) (ho2 : isFl o2) (f : Fn)   : CT l E layC yX0_copy cX0_copy 2 none 0 [.ref (E.2.1 o), .ref (E.2.1 o2)] f (pV (Post_X0_copy o o2 f)) := by
  refine CT.of (by decide +kernel) (Nat.le_of_ble_eq_true rfl) (fun Z hl9 hE9 hp9 C => ?_)
  subst hl9
  subst hE9
  exact wk_X0_copy V_l1 C o o2 ho ho2 f  (by rw [hp9]; exact V_l1.2.2.2.2.2.2.2.2.2.2.2.2.1 o o2 f  ho ho2 )
set_option maxHeartbeats 4000000 in
set_option maxRecDepth 100000 in
theorem wk_X4_takes (V_l1 : VC_l1) {Z : Zt}  (C : CX Z layC RX4 cX4_takes 3 (some .boolean) 1) (o : Nat) (ho : isSw o)   (f : Fn) (a1 : Int32) (a2 : Int32) (h : wp_X4_takes o f a1 a2 (zp Z)) : GG Z f [(0, .ref (zad Z o)), (1, .int a1), (2, .int a2)] 0 [] := by
  refine g_iload_n C rfl dX4_takes_0 rfl ?_
  by_cases hk1_0 : a1 = (0 : Int32)
  · replace h := h.1 hk1_0
    refine g_tableIn (q := 28) (off := (27)) C dX4_takes_1 (sw_in1 hk1_0 (by decide +kernel)) (sw_in2 hk1_0 (by decide +kernel)) (sw_ho hk1_0 (by decide +kernel)) (by decide) ?_
    refine g_iload_n C rfl dX4_takes_28 rfl ?_
    refine g_iconst C ki_4 dX4_takes_29 rfl ?_
    refine g_bipush C kb_40 dX4_takes_30 rfl ?_
    refine g_callSND C nw_49 tw_322 tw_1 tw_323 hy_X8_within (by decide) (by decide) rfl (Nat.le_of_ble_eq_true rfl) (ct_X8_within V_l1   f a2 (4 : Int32) (40 : Int32) ) dX4_takes_32 rfl rfl ?_
    have hs2 := h.1
    replace h := h.2
    exact g_zret C hs2 dX4_takes_35 h
  by_cases hk1_1 : a1 = (1 : Int32)
  · replace h := h.2.1 hk1_1
    refine g_tableIn (q := 36) (off := (35)) C dX4_takes_1 (sw_in1 hk1_1 (by decide +kernel)) (sw_in2 hk1_1 (by decide +kernel)) (sw_ho hk1_1 (by decide +kernel)) (by decide) ?_
    refine g_iload_n C rfl dX4_takes_36 rfl ?_
    refine g_iconst C ki_1 dX4_takes_37 rfl ?_
    refine g_bipush C kb_60 dX4_takes_38 rfl ?_
    refine g_callSND C nw_49 tw_322 tw_1 tw_323 hy_X8_within (by decide) (by decide) rfl (Nat.le_of_ble_eq_true rfl) (ct_X8_within V_l1   f a2 (1 : Int32) (60 : Int32) ) dX4_takes_40 rfl rfl ?_
    have hs3 := h.1
    replace h := h.2
    exact g_zret C hs3 dX4_takes_43 h
  by_cases hk1_2 : a1 = (2 : Int32)
  · replace h := h.2.2.1 hk1_2
    refine g_tableIn (q := 44) (off := (43)) C dX4_takes_1 (sw_in1 hk1_2 (by decide +kernel)) (sw_in2 hk1_2 (by decide +kernel)) (sw_ho hk1_2 (by decide +kernel)) (by decide) ?_
    refine g_iload_n C rfl dX4_takes_44 rfl ?_
    refine g_iconst C ki_0 dX4_takes_45 rfl ?_
    refine g_aload_n C rfl dX4_takes_46 rfl ?_
    refine fg_X4_9I (k := o) (x := (f o 0)) C ho rfl rfl dX4_takes_47 rfl ?_
    refine g_iconst C ki_1 dX4_takes_50 rfl ?_
    refine g_isub C dX4_takes_51 rfl ?_
    refine g_callSND C nw_49 tw_322 tw_1 tw_323 hy_X8_within (by decide) (by decide) rfl (Nat.le_of_ble_eq_true rfl) (ct_X8_within V_l1   f a2 (0 : Int32) ((f o 0) - (1 : Int32)) ) dX4_takes_52 rfl rfl ?_
    have hs4 := h.1
    replace h := h.2
    exact g_zret C hs4 dX4_takes_55 h
  replace h := h.2.2.2 ⟨hk1_0, hk1_1, hk1_2⟩
  refine g_tableOut (q := 56) C dX4_takes_1 (sw_out [(0 : Int32), (1 : Int32), (2 : Int32)] 3 (fun k9 hk9 => by simp only [List.mem_cons, List.not_mem_nil, or_false] at hk9; rcases hk9 with rfl | rfl | rfl <;> assumption) (by decide +kernel) (by decide +kernel)) (by decide) ?_
  refine g_iconst C ki_0 dX4_takes_56 rfl ?_
  exact g_zret C (Or.inl rfl) dX4_takes_57 h
set_option maxRecDepth 100000 in
theorem ct_X4_takes (V_l1 : VC_l1) {l : Launch} {E : Ev} (o : Nat) (ho : isSw o) (f : Fn) (a1 : Int32) (a2 : Int32)  : CT l E layC yX4_takes cX4_takes 3 (some .boolean) 1 [.ref (E.2.1 o), .int a1, .int a2] f (pI (fun r9 f9 => r9 = Val_X4_takes o f a1 a2 ∧ f9 = f)) := by
  refine CT.of (by decide +kernel) (Nat.le_of_ble_eq_true rfl) (fun Z hl9 hE9 hp9 C => ?_)
  subst hl9
  subst hE9
  exact wk_X4_takes V_l1 C o ho f a1 a2 (by rw [hp9]; exact V_l1.2.2.2.2.2.2.2.2.2.2.2.2.2.1 o f a1 a2 ho )
set_option maxHeartbeats 4000000 in
set_option maxRecDepth 100000 in
theorem wk_X4_change (V_l1 : VC_l1) {Z : Zt}  (C : CX Z layC RX4 cX4_change 4 (some .int) 1) (o : Nat) (ho : isSw o)   (f : Fn) (a1 : Int32) (a2 : Int32) (h : wp_X4_change o f a1 a2 (zp Z)) : GG Z f [(0, .ref (zad Z o)), (1, .int a1), (2, .int a2)] 0 [] := by
  refine g_aload_n C rfl dX4_change_0 rfl ?_
  refine fg_X4_22I (k := o) (x := (f o 2)) C ho rfl rfl dX4_change_1 rfl ?_
  refine g_istore_n (lv' := [(3, .int (f o 2)), (0, .ref (zad Z o)), (1, .int a1), (2, .int a2)]) C dX4_change_4 (by decide) rfl rfl ?_
  refine g_iload_n C rfl dX4_change_5 rfl ?_
  refine g_if_ne (tgt := 40) C dX4_change_6 (by decide) rfl (fun hc1 => ?_) (fun hc1 => ?_)
  · replace h := h.1 hc1
    refine g_iload_n C rfl dX4_change_40 rfl ?_
    refine g_iconst C ki_1 dX4_change_41 rfl ?_
    refine g_icmp_ne (tgt := 58) C dX4_change_42 (by decide) rfl (fun hc2 => ?_) (fun hc2 => ?_)
    · replace h := h.1 hc2
      refine g_aload_n C rfl dX4_change_58 rfl ?_
      refine g_iload_n C rfl dX4_change_59 rfl ?_
      refine fp_X4_22 (k := o) C ho rfl (Nat.le_of_ble_eq_true rfl) dX4_change_60 rfl ?_
      refine g_iload_n C rfl dX4_change_63 rfl ?_
      exact g_iret C dX4_change_64 h
    · replace h := h.2 hc2
      refine g_aload_n C rfl dX4_change_45 rfl ?_
      refine fg_X4_15I (k := o) (x := (f o 1)) C ho rfl rfl dX4_change_46 rfl ?_
      refine g_istore_n (lv' := [(3, .int (f o 1)), (0, .ref (zad Z o)), (1, .int a1), (2, .int a2)]) C dX4_change_49 (by decide) rfl rfl ?_
      refine g_aload_n C rfl dX4_change_50 rfl ?_
      refine g_iload_n C rfl dX4_change_51 rfl ?_
      refine fp_X4_15 (k := o) C ho rfl (Nat.le_of_ble_eq_true rfl) dX4_change_52 rfl ?_
      refine g_goto (q := 63) C dX4_change_55 (by decide) ?_
      refine g_iload_n C rfl dX4_change_63 rfl ?_
      exact g_iret C dX4_change_64 h
  · replace h := h.2 hc1
    refine g_aload_n C rfl dX4_change_9 rfl ?_
    refine fg_X4_9I (k := o) (x := (f o 0)) C ho rfl rfl dX4_change_10 rfl ?_
    refine g_istore_n (lv' := [(3, .int (f o 0)), (0, .ref (zad Z o)), (1, .int a1), (2, .int a2)]) C dX4_change_13 (by decide) rfl rfl ?_
    refine g_aload_n C rfl dX4_change_14 rfl ?_
    refine g_iconst C ki_4 dX4_change_15 rfl ?_
    refine g_iload_n C rfl dX4_change_16 rfl ?_
    refine g_callSD C tw_334 tw_335 tw_11 tw_336 hy_J9_max_7cf53 (by decide) (by decide) rfl (Nat.le_of_ble_eq_true rfl) (ct_J9_max_7cf53 V_l1   f (4 : Int32) a2 ) dX4_change_17 rfl rfl ?_
    refine fp_X4_9 (k := o) C ho rfl (Nat.le_of_ble_eq_true rfl) dX4_change_20 rfl ?_
    refine g_aload_n C rfl dX4_change_23 rfl ?_
    refine g_aload_n C rfl dX4_change_24 rfl ?_
    refine fg_X4_22I (k := o) (x := (f o 2)) C ho rfl (by simp [up2, upd]) dX4_change_25 rfl ?_
    refine g_iconst C ki_4 dX4_change_28 rfl ?_
    refine g_iload_n C rfl dX4_change_29 rfl ?_
    refine g_callSD C tw_334 tw_335 tw_11 tw_336 hy_J9_max_7cf53 (by decide) (by decide) rfl (Nat.le_of_ble_eq_true rfl) (ct_J9_max_7cf53 V_l1   (up2 f o 0 (Val_J9_max_7cf53 f (4 : Int32) a2)) (4 : Int32) a2 ) dX4_change_30 rfl rfl ?_
    have hs3 := h.1
    replace h := h.2
    refine g_irem C hs3 dX4_change_33 rfl ?_
    refine fp_X4_22 (k := o) C ho rfl (Nat.le_of_ble_eq_true rfl) dX4_change_34 rfl ?_
    refine g_goto (q := 63) C dX4_change_37 (by decide) ?_
    refine g_iload_n C rfl dX4_change_63 rfl ?_
    exact g_iret C dX4_change_64 h
set_option maxRecDepth 100000 in
theorem ct_X4_change (V_l1 : VC_l1) {l : Launch} {E : Ev} (o : Nat) (ho : isSw o) (f : Fn) (a1 : Int32) (a2 : Int32)  : CT l E layC yX4_change cX4_change 4 (some .int) 1 [.ref (E.2.1 o), .int a1, .int a2] f (pI (Post_X4_change o f a1 a2)) := by
  refine CT.of (by decide +kernel) (Nat.le_of_ble_eq_true rfl) (fun Z hl9 hE9 hp9 C => ?_)
  subst hl9
  subst hE9
  exact wk_X4_change V_l1 C o ho f a1 a2 (by rw [hp9]; exact V_l1.2.2.2.2.2.2.2.2.2.2.2.2.2.2.1 o f a1 a2 ho )
set_option maxHeartbeats 4000000 in
set_option maxRecDepth 100000 in
theorem wk_X4_placeAt (V_l1 : VC_l1) {Z : Zt}  (C : CX Z layC RX4 cX4_placeAt 4 (some .int) 1) (o : Nat) (ho : isSw o)   (f : Fn) (a1 : Int32) (h : wp_X4_placeAt o f a1 (zp Z)) : GG Z f [(0, .ref (zad Z o)), (1, .int a1)] 0 [] := by
  refine g_aload_n C rfl dX4_placeAt_0 rfl ?_
  refine fg_X4_9I (k := o) (x := (f o 0)) C ho rfl rfl dX4_placeAt_1 rfl ?_
  refine g_iconst C ki_4 dX4_placeAt_4 rfl ?_
  refine g_icmp_ge (tgt := 10) C dX4_placeAt_5 (by decide) rfl (fun hc1 => ?_) (fun hc1 => ?_)
  · replace h := h.1 hc1
    refine g_iload_n C rfl dX4_placeAt_10 rfl ?_
    refine g_aload_n C rfl dX4_placeAt_11 rfl ?_
    refine fg_X4_22I (k := o) (x := (f o 2)) C ho rfl rfl dX4_placeAt_12 rfl ?_
    refine g_iadd C dX4_placeAt_15 rfl ?_
    refine g_aload_n C rfl dX4_placeAt_16 rfl ?_
    refine fg_X4_9I (k := o) (x := (f o 0)) C ho rfl rfl dX4_placeAt_17 rfl ?_
    have hs2 := h.1
    replace h := h.2
    refine g_callSD C tw_345 tw_346 tw_11 tw_347 hy_J9_floorMod_7cf53 (by decide) (by decide) rfl (Nat.le_of_ble_eq_true rfl) (ct_J9_floorMod_7cf53 V_l1   f (a1 + (f o 2)) (f o 0) hs2) dX4_placeAt_20 rfl rfl ?_
    refine g_istore_n (lv' := [(2, .int (Val_J9_floorMod_7cf53 f (a1 + (f o 2)) (f o 0))), (0, .ref (zad Z o)), (1, .int a1)]) C dX4_placeAt_23 (by decide) rfl rfl ?_
    refine g_iconst C ki_2 dX4_placeAt_24 rfl ?_
    refine g_iload_n C rfl dX4_placeAt_25 rfl ?_
    refine g_imul C dX4_placeAt_26 rfl ?_
    refine g_aload_n C rfl dX4_placeAt_27 rfl ?_
    refine fg_X4_9I (k := o) (x := (f o 0)) C ho rfl rfl dX4_placeAt_28 rfl ?_
    refine g_isub C dX4_placeAt_31 rfl ?_
    refine g_callSD C tw_348 tw_349 tw_11 tw_350 hy_J9_abs_0f7a4 (by decide) (by decide) rfl (Nat.le_of_ble_eq_true rfl) (ct_J9_abs_0f7a4 V_l1   f (((2 : Int32) * (Val_J9_floorMod_7cf53 f (a1 + (f o 2)) (f o 0))) - (f o 0)) ) dX4_placeAt_32 rfl rfl ?_
    refine g_istore_n (lv' := [(3, .int (Val_J9_abs_0f7a4 f (((2 : Int32) * (Val_J9_floorMod_7cf53 f (a1 + (f o 2)) (f o 0))) - (f o 0)))), (2, .int (Val_J9_floorMod_7cf53 f (a1 + (f o 2)) (f o 0))), (0, .ref (zad Z o)), (1, .int a1)]) C dX4_placeAt_35 (by decide) rfl rfl ?_
    refine g_iconst C ki_2 dX4_placeAt_36 rfl ?_
    refine g_aload_n C rfl dX4_placeAt_37 rfl ?_
    refine fg_X4_15I (k := o) (x := (f o 1)) C ho rfl rfl dX4_placeAt_38 rfl ?_
    refine g_imul C dX4_placeAt_41 rfl ?_
    refine g_iload_n C rfl dX4_placeAt_42 rfl ?_
    refine g_imul C dX4_placeAt_43 rfl ?_
    refine g_aload_n C rfl dX4_placeAt_44 rfl ?_
    refine fg_X4_9I (k := o) (x := (f o 0)) C ho rfl rfl dX4_placeAt_45 rfl ?_
    have hs3 := h.1
    replace h := h.2
    refine g_idiv C hs3 dX4_placeAt_48 rfl ?_
    refine g_aload_n C rfl dX4_placeAt_49 rfl ?_
    refine fg_X4_15I (k := o) (x := (f o 1)) C ho rfl rfl dX4_placeAt_50 rfl ?_
    refine g_isub C dX4_placeAt_53 rfl ?_
    exact g_iret C dX4_placeAt_54 h
  · replace h := h.2 hc1
    refine g_iconst C ki_0 dX4_placeAt_8 rfl ?_
    exact g_iret C dX4_placeAt_9 h
set_option maxRecDepth 100000 in
theorem ct_X4_placeAt (V_l1 : VC_l1) {l : Launch} {E : Ev} (o : Nat) (ho : isSw o) (f : Fn) (a1 : Int32)  : CT l E layC yX4_placeAt cX4_placeAt 4 (some .int) 1 [.ref (E.2.1 o), .int a1] f (pI (fun r9 f9 => r9 = Val_X4_placeAt o f a1 ∧ f9 = f)) := by
  refine CT.of (by decide +kernel) (Nat.le_of_ble_eq_true rfl) (fun Z hl9 hE9 hp9 C => ?_)
  subst hl9
  subst hE9
  exact wk_X4_placeAt V_l1 C o ho f a1 (by rw [hp9]; exact V_l1.2.2.2.2.2.2.2.2.2.2.2.2.2.2.2.1 o f a1 ho )
set_option maxHeartbeats 4000000 in
set_option maxRecDepth 100000 in
theorem wk_X4_copy (V_l1 : VC_l1) {Z : Zt}  (C : CX Z layC RX4 cX4_copy 2 none 0) (o : Nat) (o2 : Nat) (ho : isSw o) (ho2 : isSw o2)   (f : Fn)  (h : wp_X4_copy o o2 f  (zp Z)) : GG Z f [(0, .ref (zad Z o)), (1, .ref (zad Z o2))] 0 [] := by
  refine g_aload_n C rfl dX4_copy_0 rfl ?_
  refine g_aload_n C rfl dX4_copy_1 rfl ?_
  refine fg_X4_9I (k := o2) (x := (f o2 0)) C ho2 rfl rfl dX4_copy_2 rfl ?_
  refine fp_X4_9 (k := o) C ho rfl (Nat.le_of_ble_eq_true rfl) dX4_copy_5 rfl ?_
  refine g_aload_n C rfl dX4_copy_8 rfl ?_
  refine g_aload_n C rfl dX4_copy_9 rfl ?_
  refine fg_X4_15I (k := o2) (x := ((up2 f o 0 (f o2 0)) o2 1)) C ho2 rfl rfl dX4_copy_10 rfl ?_
  refine fp_X4_15 (k := o) C ho rfl (Nat.le_of_ble_eq_true rfl) dX4_copy_13 rfl ?_
  refine g_aload_n C rfl dX4_copy_16 rfl ?_
  refine g_aload_n C rfl dX4_copy_17 rfl ?_
  refine fg_X4_22I (k := o2) (x := ((up2 (up2 f o 0 (f o2 0)) o 1 ((up2 f o 0 (f o2 0)) o2 1)) o2 2)) C ho2 rfl rfl dX4_copy_18 rfl ?_
  refine fp_X4_22 (k := o) C ho rfl (Nat.le_of_ble_eq_true rfl) dX4_copy_21 rfl ?_
  exact g_vret C dX4_copy_24 h
set_option maxRecDepth 100000 in
theorem ct_X4_copy (V_l1 : VC_l1) {l : Launch} {E : Ev} (o : Nat) (o2 : Nat) (ho : isSw o) (ho2 : isSw o2) (f : Fn)   : CT l E layC yX4_copy cX4_copy 2 none 0 [.ref (E.2.1 o), .ref (E.2.1 o2)] f (pV (Post_X4_copy o o2 f)) := by
  refine CT.of (by decide +kernel) (Nat.le_of_ble_eq_true rfl) (fun Z hl9 hE9 hp9 C => ?_)
  subst hl9
  subst hE9
  exact wk_X4_copy V_l1 C o o2 ho ho2 f  (by rw [hp9]; exact V_l1.2.2.2.2.2.2.2.2.2.2.2.2.2.2.2.2.1 o o2 f  ho ho2 )
set_option maxHeartbeats 4000000 in
set_option maxRecDepth 100000 in
theorem wk_X1_isPart (V_l1 : VC_l1) {Z : Zt}  (C : CX Z layC RX1 cX1_isPart 1 (some .boolean) 0)     (f : Fn) (a1 : Int32) (h : wp_X1_isPart  f a1 (zp Z)) : GG Z f [(0, .int a1)] 0 [] := by
  refine g_iload_n C rfl dX1_isPart_0 rfl ?_
  refine g_if_ge (tgt := 22) C dX1_isPart_1 (by decide) rfl (fun hc1 => ?_) (fun hc1 => ?_)
  · replace h := h.1 hc1
    refine g_iconst C ki_1 dX1_isPart_22 rfl ?_
    refine g_goto (q := 27) C dX1_isPart_23 (by decide) ?_
    exact g_zret C (Or.inr rfl) dX1_isPart_27 h
  · replace h := h.2 hc1
    refine g_iload_n C rfl dX1_isPart_4 rfl ?_
    refine g_bipush C kb_m107 dX1_isPart_5 rfl ?_
    refine g_icmp_eq (tgt := 22) C dX1_isPart_7 (by decide) rfl (fun hc2 => ?_) (fun hc2 => ?_)
    · replace h := h.1 hc2
      refine g_iconst C ki_1 dX1_isPart_22 rfl ?_
      refine g_goto (q := 27) C dX1_isPart_23 (by decide) ?_
      exact g_zret C (Or.inr rfl) dX1_isPart_27 h
    · replace h := h.2 hc2
      refine g_iload_n C rfl dX1_isPart_10 rfl ?_
      refine g_bipush C kb_m118 dX1_isPart_11 rfl ?_
      refine g_icmp_eq (tgt := 22) C dX1_isPart_13 (by decide) rfl (fun hc3 => ?_) (fun hc3 => ?_)
      · replace h := h.1 hc3
        refine g_iconst C ki_1 dX1_isPart_22 rfl ?_
        refine g_goto (q := 27) C dX1_isPart_23 (by decide) ?_
        exact g_zret C (Or.inr rfl) dX1_isPart_27 h
      · replace h := h.2 hc3
        refine g_iload_n C rfl dX1_isPart_16 rfl ?_
        refine g_bipush C kb_m109 dX1_isPart_17 rfl ?_
        refine g_icmp_ne (tgt := 26) C dX1_isPart_19 (by decide) rfl (fun hc4 => ?_) (fun hc4 => ?_)
        · replace h := h.1 hc4
          refine g_iconst C ki_0 dX1_isPart_26 rfl ?_
          exact g_zret C (Or.inl rfl) dX1_isPart_27 h
        · replace h := h.2 hc4
          refine g_iconst C ki_1 dX1_isPart_22 rfl ?_
          refine g_goto (q := 27) C dX1_isPart_23 (by decide) ?_
          exact g_zret C (Or.inr rfl) dX1_isPart_27 h
set_option maxRecDepth 100000 in
theorem ct_X1_isPart (V_l1 : VC_l1) {l : Launch} {E : Ev}   (f : Fn) (a1 : Int32)  : CT l E layC yX1_isPart cX1_isPart 1 (some .boolean) 0 [.int a1] f (pI (fun r9 f9 => r9 = Val_X1_isPart f a1 ∧ f9 = f)) := by
  refine CT.of (by decide +kernel) (Nat.le_of_ble_eq_true rfl) (fun Z hl9 hE9 hp9 C => ?_)
  subst hl9
  subst hE9
  exact wk_X1_isPart V_l1 C   f a1 (by rw [hp9]; exact V_l1.2.2.2.2.2.2.2.2.2.2.2.2.2.2.2.2.2.1  f a1  )
set_option maxHeartbeats 4000000 in
set_option maxRecDepth 100000 in
theorem wk_X1_joined (V_l1 : VC_l1) {Z : Zt}  (C : CX Z layC RX1 cX1_joined 3 (some .int) 0)     (f : Fn) (a1 : Int32) (a2 : Int32) (a3 : Int32) (h : wp_X1_joined  f a1 a2 a3 (zp Z)) : GG Z f [(0, .int a1), (1, .int a2), (2, .int a3)] 0 [] := by
  refine g_iload_n C rfl dX1_joined_0 rfl ?_
  by_cases hk1_0 : a2 = (38 : Int32)
  · replace h := h.1 hk1_0
    refine g_lookup (q := 98) (off := (97)) C dX1_joined_1 (by decide +kernel) (sw_lo hk1_0 (by decide +kernel)) (by decide) ?_
    refine g_iload_n C rfl dX1_joined_98 rfl ?_
    refine g_if_eq (tgt := 110) C dX1_joined_99 (by decide) rfl (fun hc2 => ?_) (fun hc2 => ?_)
    · replace h := h.1 hc2
      refine g_iconst C ki_0 dX1_joined_110 rfl ?_
      exact g_iret C dX1_joined_111 h
    · replace h := h.2 hc2
      refine g_iload_n C rfl dX1_joined_102 rfl ?_
      refine g_if_eq (tgt := 110) C dX1_joined_103 (by decide) rfl (fun hc3 => ?_) (fun hc3 => ?_)
      · replace h := h.1 hc3
        refine g_iconst C ki_0 dX1_joined_110 rfl ?_
        exact g_iret C dX1_joined_111 h
      · replace h := h.2 hc3
        refine g_iconst C ki_1 dX1_joined_106 rfl ?_
        refine g_goto (q := 111) C dX1_joined_107 (by decide) ?_
        exact g_iret C dX1_joined_111 h
  by_cases hk1_1 : a2 = (42 : Int32)
  · replace h := h.2.1 hk1_1
    refine g_lookup (q := 153) (off := (152)) C dX1_joined_1 (by decide +kernel) (sw_lo hk1_1 (by decide +kernel)) (by decide) ?_
    refine g_iload_n C rfl dX1_joined_153 rfl ?_
    refine g_iload_n C rfl dX1_joined_154 rfl ?_
    refine g_imul C dX1_joined_155 rfl ?_
    exact g_iret C dX1_joined_156 h
  by_cases hk1_2 : a2 = (43 : Int32)
  · replace h := h.2.2.1 hk1_2
    refine g_lookup (q := 145) (off := (144)) C dX1_joined_1 (by decide +kernel) (sw_lo hk1_2 (by decide +kernel)) (by decide) ?_
    refine g_iload_n C rfl dX1_joined_145 rfl ?_
    refine g_iload_n C rfl dX1_joined_146 rfl ?_
    refine g_iadd C dX1_joined_147 rfl ?_
    exact g_iret C dX1_joined_148 h
  by_cases hk1_3 : a2 = (45 : Int32)
  · replace h := h.2.2.2.1 hk1_3
    refine g_lookup (q := 149) (off := (148)) C dX1_joined_1 (by decide +kernel) (sw_lo hk1_3 (by decide +kernel)) (by decide) ?_
    refine g_iload_n C rfl dX1_joined_149 rfl ?_
    refine g_iload_n C rfl dX1_joined_150 rfl ?_
    refine g_isub C dX1_joined_151 rfl ?_
    exact g_iret C dX1_joined_152 h
  by_cases hk1_4 : a2 = (47 : Int32)
  · replace h := h.2.2.2.2.1 hk1_4
    refine g_lookup (q := 157) (off := (156)) C dX1_joined_1 (by decide +kernel) (sw_lo hk1_4 (by decide +kernel)) (by decide) ?_
    refine g_iload_n C rfl dX1_joined_157 rfl ?_
    refine g_if_ne (tgt := 165) C dX1_joined_158 (by decide) rfl (fun hc4 => ?_) (fun hc4 => ?_)
    · replace h := h.1 hc4
      refine g_iload_n C rfl dX1_joined_165 rfl ?_
      refine g_iload_n C rfl dX1_joined_166 rfl ?_
      have hs5 := h.1
      replace h := h.2
      refine g_idiv C hs5 dX1_joined_167 rfl ?_
      exact g_iret C dX1_joined_168 h
    · replace h := h.2 hc4
      refine g_iconst C ki_0 dX1_joined_161 rfl ?_
      refine g_goto (q := 168) C dX1_joined_162 (by decide) ?_
      exact g_iret C dX1_joined_168 h
  by_cases hk1_5 : a2 = (60 : Int32)
  · replace h := h.2.2.2.2.2.1 hk1_5
    refine g_lookup (q := 112) (off := (111)) C dX1_joined_1 (by decide +kernel) (sw_lo hk1_5 (by decide +kernel)) (by decide) ?_
    refine g_iload_n C rfl dX1_joined_112 rfl ?_
    refine g_iload_n C rfl dX1_joined_113 rfl ?_
    refine g_icmp_ge (tgt := 121) C dX1_joined_114 (by decide) rfl (fun hc6 => ?_) (fun hc6 => ?_)
    · replace h := h.1 hc6
      refine g_iconst C ki_0 dX1_joined_121 rfl ?_
      exact g_iret C dX1_joined_122 h
    · replace h := h.2 hc6
      refine g_iconst C ki_1 dX1_joined_117 rfl ?_
      refine g_goto (q := 122) C dX1_joined_118 (by decide) ?_
      exact g_iret C dX1_joined_122 h
  by_cases hk1_6 : a2 = (61 : Int32)
  · replace h := h.2.2.2.2.2.2.1 hk1_6
    refine g_lookup (q := 123) (off := (122)) C dX1_joined_1 (by decide +kernel) (sw_lo hk1_6 (by decide +kernel)) (by decide) ?_
    refine g_iload_n C rfl dX1_joined_123 rfl ?_
    refine g_iload_n C rfl dX1_joined_124 rfl ?_
    refine g_icmp_ne (tgt := 132) C dX1_joined_125 (by decide) rfl (fun hc7 => ?_) (fun hc7 => ?_)
    · replace h := h.1 hc7
      refine g_iconst C ki_0 dX1_joined_132 rfl ?_
      exact g_iret C dX1_joined_133 h
    · replace h := h.2 hc7
      refine g_iconst C ki_1 dX1_joined_128 rfl ?_
      refine g_goto (q := 133) C dX1_joined_129 (by decide) ?_
      exact g_iret C dX1_joined_133 h
  by_cases hk1_7 : a2 = (62 : Int32)
  · replace h := h.2.2.2.2.2.2.2.1 hk1_7
    refine g_lookup (q := 134) (off := (133)) C dX1_joined_1 (by decide +kernel) (sw_lo hk1_7 (by decide +kernel)) (by decide) ?_
    refine g_iload_n C rfl dX1_joined_134 rfl ?_
    refine g_iload_n C rfl dX1_joined_135 rfl ?_
    refine g_icmp_le (tgt := 143) C dX1_joined_136 (by decide) rfl (fun hc8 => ?_) (fun hc8 => ?_)
    · replace h := h.1 hc8
      refine g_iconst C ki_0 dX1_joined_143 rfl ?_
      exact g_iret C dX1_joined_144 h
    · replace h := h.2 hc8
      refine g_iconst C ki_1 dX1_joined_139 rfl ?_
      refine g_goto (q := 144) C dX1_joined_140 (by decide) ?_
      exact g_iret C dX1_joined_144 h
  by_cases hk1_8 : a2 = (124 : Int32)
  · replace h := h.2.2.2.2.2.2.2.2.1 hk1_8
    refine g_lookup (q := 84) (off := (83)) C dX1_joined_1 (by decide +kernel) (sw_lo hk1_8 (by decide +kernel)) (by decide) ?_
    refine g_iload_n C rfl dX1_joined_84 rfl ?_
    refine g_if_ne (tgt := 92) C dX1_joined_85 (by decide) rfl (fun hc9 => ?_) (fun hc9 => ?_)
    · replace h := h.1 hc9
      refine g_iconst C ki_1 dX1_joined_92 rfl ?_
      refine g_goto (q := 97) C dX1_joined_93 (by decide) ?_
      exact g_iret C dX1_joined_97 h
    · replace h := h.2 hc9
      refine g_iload_n C rfl dX1_joined_88 rfl ?_
      refine g_if_eq (tgt := 96) C dX1_joined_89 (by decide) rfl (fun hc10 => ?_) (fun hc10 => ?_)
      · replace h := h.1 hc10
        refine g_iconst C ki_0 dX1_joined_96 rfl ?_
        exact g_iret C dX1_joined_97 h
      · replace h := h.2 hc10
        refine g_iconst C ki_1 dX1_joined_92 rfl ?_
        refine g_goto (q := 97) C dX1_joined_93 (by decide) ?_
        exact g_iret C dX1_joined_97 h
  replace h := h.2.2.2.2.2.2.2.2.2 ⟨hk1_0, hk1_1, hk1_2, hk1_3, hk1_4, hk1_5, hk1_6, hk1_7, hk1_8⟩
  refine g_lookup (q := 169) (off := (168)) C dX1_joined_1 (by decide +kernel) (sw_ld _ [(38 : Int32), (42 : Int32), (43 : Int32), (45 : Int32), (47 : Int32), (60 : Int32), (61 : Int32), (62 : Int32), (124 : Int32)] (by decide +kernel) (fun k9 hk9 => by simp only [List.mem_cons, List.not_mem_nil, or_false] at hk9; rcases hk9 with rfl | rfl | rfl | rfl | rfl | rfl | rfl | rfl | rfl <;> assumption)) (by decide) ?_
  refine g_iload_n C rfl dX1_joined_169 rfl ?_
  refine g_if_ne (tgt := 177) C dX1_joined_170 (by decide) rfl (fun hc11 => ?_) (fun hc11 => ?_)
  · replace h := h.1 hc11
    refine g_iload_n C rfl dX1_joined_177 rfl ?_
    refine g_iload_n C rfl dX1_joined_178 rfl ?_
    have hs12 := h.1
    replace h := h.2
    refine g_irem C hs12 dX1_joined_179 rfl ?_
    exact g_iret C dX1_joined_180 h
  · replace h := h.2 hc11
    refine g_iconst C ki_0 dX1_joined_173 rfl ?_
    refine g_goto (q := 180) C dX1_joined_174 (by decide) ?_
    exact g_iret C dX1_joined_180 h
set_option maxRecDepth 100000 in
theorem ct_X1_joined (V_l1 : VC_l1) {l : Launch} {E : Ev}   (f : Fn) (a1 : Int32) (a2 : Int32) (a3 : Int32)  : CT l E layC yX1_joined cX1_joined 3 (some .int) 0 [.int a1, .int a2, .int a3] f (pI (fun r9 f9 => r9 = Val_X1_joined f a1 a2 a3 ∧ f9 = f)) := by
  refine CT.of (by decide +kernel) (Nat.le_of_ble_eq_true rfl) (fun Z hl9 hE9 hp9 C => ?_)
  subst hl9
  subst hE9
  exact wk_X1_joined V_l1 C   f a1 a2 a3 (by rw [hp9]; exact V_l1.2.2.2.2.2.2.2.2.2.2.2.2.2.2.2.2.2.2.1  f a1 a2 a3  )
set_option maxHeartbeats 4000000 in
set_option maxRecDepth 100000 in
theorem wkb_X1_take_L17 (V_l1 : VC_l1) {Z : Zt}  (C : CX Z layC RX1 cX1_take 4 none 1) (o : Nat) (p : Nat) (ho : isLaw o) (hp : layC[p]? = some (.inr (.inl 50))) {K17 : Fn → Int32 → Prop} (hK17 : ∀ (f : Fn) (x3 : Int32), K17 f x3 → GG Z f [(0, .ref (zad Z o)), (1, .ref (zad Z p)), (3, .int x3)] 17 []) (f : Fn) (x3 : Int32) (h : wpb_X1_take_L17 o p  K17 f x3 (zp Z)) : GG Z f [(0, .ref (zad Z o)), (1, .ref (zad Z p)), (3, .int x3)] 17 [] := by
  refine g_iload_n C rfl dX1_take_17 rfl ?_
  refine g_aload_n C rfl dX1_take_18 rfl ?_
  refine fg_X1_35I (k := o) (x := (f o 5)) C ho.1 rfl rfl dX1_take_19 rfl ?_
  refine g_icmp_ge (tgt := 40) C dX1_take_22 (by decide) rfl (fun hc1 => ?_) (fun hc1 => ?_)
  · replace h := h.1 hc1
    exact g_vret C dX1_take_40 h
  · replace h := h.2 hc1
    refine g_aload_n C rfl dX1_take_25 rfl ?_
    refine fg_X1_9R (k := o) (p := (o + 1)) C ho.1 rfl dX1_take_26 rfl ?_
    refine g_iload_n C rfl dX1_take_29 rfl ?_
    refine g_aload_n C rfl dX1_take_30 rfl ?_
    refine g_iload_n C rfl dX1_take_31 rfl ?_
    have hs2 := h.1
    replace h := h.2
    refine g_ialdx (k := p) (j := x3.toNatClampNeg) (x := (f p x3.toNatClampNeg)) C hp hs2 rfl rfl dX1_take_32 rfl ?_
    have hs3 := h.1
    replace h := h.2
    refine g_iastx (k := (o + 1)) (j := x3.toNatClampNeg) C ho.2.1 hs3 rfl dX1_take_33 rfl ?_
    refine g_iinc (lv' := [(3, .int (x3 + (1 : Int32))), (0, .ref (zad Z o)), (1, .ref (zad Z p))]) C dX1_take_34 rfl (inc_1 _) (by decide) rfl rfl ?_
    refine g_goto (q := 17) C dX1_take_37 (by decide) ?_
    refine g_lps [0, 1, 3] rfl ?_
    exact hK17 _ _ h
set_option maxHeartbeats 4000000 in
set_option maxRecDepth 100000 in
theorem wk_X1_take_L17 (V_l1 : VC_l1) {Z : Zt}  (C : CX Z layC RX1 cX1_take 4 none 1) (o : Nat) (p : Nat) (ho : isLaw o) (hp : layC[p]? = some (.inr (.inl 50)))   (f : Fn) (x3 : Int32) (h : wp_X1_take_L17 o p  f x3 (zp Z)) : GG Z f [(0, .ref (zad Z o)), (1, .ref (zad Z p)), (3, .int x3)] 17 [] := by
  obtain ⟨I, μ, h0, hs⟩ := h
  suffices H : ∀ (N : Nat) (f : Fn) (x3 : Int32), μ f x3 < N → I f x3 → GG Z f [(0, .ref (zad Z o)), (1, .ref (zad Z p)), (3, .int x3)] 17 [] from H _ f x3 (Nat.lt_succ_self _) h0
  clear h0
  intro N
  induction N with
  | zero => intro f x3 hm; exact absurd hm (Nat.not_lt_zero _)
  | succ N ih =>
    intro f x3 hm hi
    exact wkb_X1_take_L17 V_l1  C o p ho hp  (fun f9 x39 hk => ih f9 x39 (Nat.lt_of_lt_of_le hk.2 (Nat.le_of_lt_succ hm)) hk.1) f x3 (hs f x3 hi)
set_option maxHeartbeats 4000000 in
set_option maxRecDepth 100000 in
theorem wk_X1_take (V_l1 : VC_l1) {Z : Zt}  (C : CX Z layC RX1 cX1_take 4 none 1) (o : Nat) (p : Nat) (ho : isLaw o) (hp : layC[p]? = some (.inr (.inl 50)))   (f : Fn) (a2 : Int32) (h : wp_X1_take o p f a2 (zp Z)) : GG Z f [(0, .ref (zad Z o)), (1, .ref (zad Z p)), (2, .int a2)] 0 [] := by
  refine g_aload_n C rfl dX1_take_0 rfl ?_
  refine g_iload_n C rfl dX1_take_1 rfl ?_
  refine g_aload_n C rfl dX1_take_2 rfl ?_
  refine g_ialen (v := (50 : Int32)) C hp (by decide) dX1_take_3 rfl ?_
  refine g_bipush C kb_50 dX1_take_4 rfl ?_
  refine g_callSD C tw_461 tw_462 tw_11 tw_463 hy_J9_min_7cf53 (by decide) (by decide) rfl (Nat.le_of_ble_eq_true rfl) (ct_J9_min_7cf53 V_l1   f (50 : Int32) (50 : Int32) ) dX1_take_6 rfl rfl ?_
  refine g_callSD C tw_461 tw_462 tw_11 tw_463 hy_J9_min_7cf53 (by decide) (by decide) rfl (Nat.le_of_ble_eq_true rfl) (ct_J9_min_7cf53 V_l1   f a2 (Val_J9_min_7cf53 f (50 : Int32) (50 : Int32)) ) dX1_take_9 rfl rfl ?_
  refine fp_X1_35 (k := o) C ho.1 rfl (Nat.le_of_ble_eq_true rfl) dX1_take_12 rfl ?_
  refine g_iconst C ki_0 dX1_take_15 rfl ?_
  refine g_istore_n (lv' := [(3, .int (0 : Int32)), (0, .ref (zad Z o)), (1, .ref (zad Z p)), (2, .int a2)]) C dX1_take_16 (by decide) rfl rfl ?_
  refine g_lps [0, 1, 3] rfl ?_
  exact wk_X1_take_L17 V_l1  C o p ho hp  _ _ h
set_option maxRecDepth 100000 in
theorem ct_X1_take (V_l1 : VC_l1) {l : Launch} {E : Ev} (o : Nat) (p : Nat) (ho : isLaw o) (hp : layC[p]? = some (.inr (.inl 50))) (f : Fn) (a2 : Int32)  : CT l E layC yX1_take cX1_take 4 none 1 [.ref (E.2.1 o), .ref (E.2.1 p), .int a2] f (pV (Post_X1_take o p f a2)) := by
  refine CT.of (by decide +kernel) (Nat.le_of_ble_eq_true rfl) (fun Z hl9 hE9 hp9 C => ?_)
  subst hl9
  subst hE9
  exact wk_X1_take V_l1 C o p ho hp f a2 (by rw [hp9]; exact V_l1.2.2.2.2.2.2.2.2.2.2.2.2.2.2.2.2.2.2.2.1 o p f a2 ho hp )
set_option maxHeartbeats 4000000 in
set_option maxRecDepth 100000 in
theorem wk_X1_copy (V_l1 : VC_l1) {Z : Zt}  (C : CX Z layC RX1 cX1_copy 2 none 2) (o : Nat) (o2 : Nat) (ho : isLaw o) (ho2 : isLaw o2)   (f : Fn)  (h : wp_X1_copy o o2 f  (zp Z)) : GG Z f [(0, .ref (zad Z o)), (1, .ref (zad Z o2))] 0 [] := by
  refine g_aload_n C rfl dX1_copy_0 rfl ?_
  refine g_aload_n C rfl dX1_copy_1 rfl ?_
  refine fg_X1_9R (k := o2) (p := (o2 + 1)) C ho2.1 rfl dX1_copy_2 rfl ?_
  refine g_aload_n C rfl dX1_copy_5 rfl ?_
  refine fg_X1_35I (k := o2) (x := (f o2 5)) C ho2.1 rfl rfl dX1_copy_6 rfl ?_
  refine g_callVV C tw_763 tw_458 tw_459 tw_4 tw_460 hy_X1_take (by decide) (by decide) rfl (Nat.le_of_ble_eq_true rfl) ho.1 rfl (ct_X1_take V_l1 o (o2 + 1) ho ho2.2.1 f (f o2 5) ) dX1_copy_9 rfl rfl (fun f1 hp2 => ?_)
  replace h := h f1 hp2
  exact g_vret C dX1_copy_12 h
set_option maxRecDepth 100000 in
theorem ct_X1_copy (V_l1 : VC_l1) {l : Launch} {E : Ev} (o : Nat) (o2 : Nat) (ho : isLaw o) (ho2 : isLaw o2) (f : Fn)   : CT l E layC yX1_copy cX1_copy 2 none 2 [.ref (E.2.1 o), .ref (E.2.1 o2)] f (pV (Post_X1_copy o o2 f)) := by
  refine CT.of (by decide +kernel) (Nat.le_of_ble_eq_true rfl) (fun Z hl9 hE9 hp9 C => ?_)
  subst hl9
  subst hE9
  exact wk_X1_copy V_l1 C o o2 ho ho2 f  (by rw [hp9]; exact V_l1.2.2.2.2.2.2.2.2.2.2.2.2.2.2.2.2.2.2.2.2.1 o o2 f  ho ho2 )
set_option maxHeartbeats 4000000 in
set_option maxRecDepth 100000 in
theorem wk_X1_gives_L222 (V_l1 : VC_l1) {Z : Zt}  (C : CX Z layC RX1 cX1_gives 7 (some .int) 1) (o : Nat) (ho : isLaw o)   (f : Fn) (s0 : Int32) (h : wp_X1_gives_L222 o  f s0 (zp Z)) : GG Z f [(0, .ref (zad Z o))] 222 [.int s0] := by
  refine g_istore (lv' := [(5, .int s0), (0, .ref (zad Z o))]) C dX1_gives_222 (by decide) rfl rfl ?_
  refine g_aload_n C rfl dX1_gives_224 rfl ?_
  refine fg_X1_22I (k := o) (x := (f o 1)) C ho.1 rfl rfl dX1_gives_225 rfl ?_
  refine g_aload_n C rfl dX1_gives_228 rfl ?_
  refine fg_X1_26I (k := o) (x := (f o 2)) C ho.1 rfl rfl dX1_gives_229 rfl ?_
  refine g_iload C rfl dX1_gives_232 rfl ?_
  refine g_callSD C tw_461 tw_462 tw_11 tw_463 hy_J9_min_7cf53 (by decide) (by decide) rfl (Nat.le_of_ble_eq_true rfl) (ct_J9_min_7cf53 V_l1   f (f o 2) s0 ) dX1_gives_234 rfl rfl ?_
  refine g_callSD C tw_478 tw_335 tw_11 tw_336 hy_J9_max_7cf53 (by decide) (by decide) rfl (Nat.le_of_ble_eq_true rfl) (ct_J9_max_7cf53 V_l1   f (f o 1) (Val_J9_min_7cf53 f (f o 2) s0) ) dX1_gives_237 rfl rfl ?_
  exact g_iret C dX1_gives_240 h
set_option maxHeartbeats 4000000 in
set_option maxRecDepth 100000 in
theorem wk_X1_gives_L182 (V_l1 : VC_l1) {Z : Zt}  (C : CX Z layC RX1 cX1_gives 7 (some .int) 1) (o : Nat) (ho : isLaw o)   (f : Fn) (x1 : Int32) (x2 : Int32) (x4 : Int32) (h : wp_X1_gives_L182 o  f x1 x2 x4 (zp Z)) : GG Z f [(0, .ref (zad Z o)), (1, .int x1), (2, .int x2), (4, .int x4)] 182 [] := by
  refine g_iload C rfl dX1_gives_182 rfl ?_
  refine g_iconst C ki_1 dX1_gives_184 rfl ?_
  refine g_icmp_lt (tgt := 197) C dX1_gives_185 (by decide) rfl (fun hc2 => ?_) (fun hc2 => ?_)
  · replace h := h.1 hc2
    refine g_aload_n C rfl dX1_gives_197 rfl ?_
    refine fg_X1_18I (k := o) (x := (f o 0)) C ho.1 rfl rfl dX1_gives_198 rfl ?_
    refine g_if_eq (tgt := 212) C dX1_gives_201 (by decide) rfl (fun hc3 => ?_) (fun hc3 => ?_)
    · replace h := h.1 hc3
      refine g_iload_n C rfl dX1_gives_212 rfl ?_
      refine g_iconst C ki_3 dX1_gives_213 rfl ?_
      refine g_imul C dX1_gives_214 rfl ?_
      refine g_bipush C kb_30 dX1_gives_215 rfl ?_
      refine g_iadd C dX1_gives_217 rfl ?_
      refine g_iload_n C rfl dX1_gives_218 rfl ?_
      refine g_iconst C ki_2 dX1_gives_219 rfl ?_
      refine g_imul C dX1_gives_220 rfl ?_
      refine g_isub C dX1_gives_221 rfl ?_
      refine g_lps [0] rfl ?_
      exact wk_X1_gives_L222 V_l1  C o ho  _ _ h
    · replace h := h.2 hc3
      refine g_iconst C ki_3 dX1_gives_204 rfl ?_
      refine g_iload_n C rfl dX1_gives_205 rfl ?_
      refine g_iconst C ki_2 dX1_gives_206 rfl ?_
      refine g_imul C dX1_gives_207 rfl ?_
      refine g_iadd C dX1_gives_208 rfl ?_
      refine g_goto (q := 222) C dX1_gives_209 (by decide) ?_
      refine g_lps [0] rfl ?_
      exact wk_X1_gives_L222 V_l1  C o ho  _ _ h
  · replace h := h.2 hc2
    refine g_aload_n C rfl dX1_gives_188 rfl ?_
    refine fg_X1_15R (k := o) (p := (o + 2)) C ho.1 rfl dX1_gives_189 rfl ?_
    refine g_iconst C ki_0 dX1_gives_192 rfl ?_
    refine g_ialdx (k := (o + 2)) (j := 0) (x := (f (o + 2) 0)) C ho.2.2 vi_0_50 kc_0 rfl dX1_gives_193 rfl ?_
    refine g_goto (q := 222) C dX1_gives_194 (by decide) ?_
    refine g_lps [0] rfl ?_
    exact wk_X1_gives_L222 V_l1  C o ho  _ _ h
set_option maxHeartbeats 4000000 in
set_option maxRecDepth 100000 in
theorem wk_X1_gives_L176 (V_l1 : VC_l1) {Z : Zt}  (C : CX Z layC RX1 cX1_gives 7 (some .int) 1) (o : Nat) (ho : isLaw o) {K6 : Fn → Int32 → Int32 → Int32 → Int32 → Int32 → Prop} (hK6 : ∀ (f : Fn) (x1 : Int32) (x2 : Int32) (x3 : Int32) (x4 : Int32) (x5 : Int32), K6 f x1 x2 x3 x4 x5 → GG Z f [(0, .ref (zad Z o)), (1, .int x1), (2, .int x2), (3, .int x3), (4, .int x4), (5, .int x5)] 6 []) (f : Fn) (x1 : Int32) (x2 : Int32) (x3 : Int32) (x4 : Int32) (x5 : Int32) (h : wp_X1_gives_L176 o K6 f x1 x2 x3 x4 x5 (zp Z)) : GG Z f [(0, .ref (zad Z o)), (1, .int x1), (2, .int x2), (3, .int x3), (4, .int x4), (5, .int x5)] 176 [] := by
  refine g_iinc (lv' := [(5, .int (x5 + (1 : Int32))), (0, .ref (zad Z o)), (1, .int x1), (2, .int x2), (3, .int x3), (4, .int x4)]) C dX1_gives_176 rfl (inc_1 _) (by decide) rfl rfl ?_
  refine g_goto (q := 6) C dX1_gives_179 (by decide) ?_
  refine g_lps [0, 1, 2, 3, 4, 5] rfl ?_
  exact hK6 _ _ _ _ _ _ h
set_option maxHeartbeats 4000000 in
set_option maxRecDepth 100000 in
theorem wk_X1_gives_L134 (V_l1 : VC_l1) {Z : Zt}  (C : CX Z layC RX1 cX1_gives 7 (some .int) 1) (o : Nat) (ho : isLaw o) {K6 : Fn → Int32 → Int32 → Int32 → Int32 → Int32 → Prop} (hK6 : ∀ (f : Fn) (x1 : Int32) (x2 : Int32) (x3 : Int32) (x4 : Int32) (x5 : Int32), K6 f x1 x2 x3 x4 x5 → GG Z f [(0, .ref (zad Z o)), (1, .int x1), (2, .int x2), (3, .int x3), (4, .int x4), (5, .int x5)] 6 []) (f : Fn) (x1 : Int32) (x2 : Int32) (x3 : Int32) (x4 : Int32) (x5 : Int32) (x6 : Int32) (h : wp_X1_gives_L134 o K6 f x1 x2 x3 x4 x5 x6 (zp Z)) : GG Z f [(0, .ref (zad Z o)), (1, .int x1), (2, .int x2), (3, .int x3), (4, .int x4), (5, .int x5), (6, .int x6)] 134 [] := by
  refine g_iload C rfl dX1_gives_134 rfl ?_
  refine g_iconst C ki_2 dX1_gives_136 rfl ?_
  refine g_icmp_lt (tgt := 176) C dX1_gives_137 (by decide) rfl (fun hc8 => ?_) (fun hc8 => ?_)
  · replace h := h.1 hc8
    refine g_lps [0, 1, 2, 3, 4, 5] rfl ?_
    exact wk_X1_gives_L176 V_l1  C o ho hK6 _ _ _ _ _ _ h
  · replace h := h.2 hc8
    refine g_aload_n C rfl dX1_gives_140 rfl ?_
    refine fg_X1_15R (k := o) (p := (o + 2)) C ho.1 rfl dX1_gives_141 rfl ?_
    refine g_iload C rfl dX1_gives_144 rfl ?_
    refine g_iconst C ki_2 dX1_gives_146 rfl ?_
    refine g_isub C dX1_gives_147 rfl ?_
    refine g_aload_n C rfl dX1_gives_148 rfl ?_
    refine fg_X1_15R (k := o) (p := (o + 2)) C ho.1 rfl dX1_gives_149 rfl ?_
    refine g_iload C rfl dX1_gives_152 rfl ?_
    refine g_iconst C ki_2 dX1_gives_154 rfl ?_
    refine g_isub C dX1_gives_155 rfl ?_
    have hs9 := h.1
    replace h := h.2
    refine g_ialdx (k := (o + 2)) (j := (x4 - (2 : Int32)).toNatClampNeg) (x := (f (o + 2) (x4 - (2 : Int32)).toNatClampNeg)) C ho.2.2 hs9 rfl rfl dX1_gives_156 rfl ?_
    refine g_iload C rfl dX1_gives_157 rfl ?_
    refine g_ineg C dX1_gives_159 rfl ?_
    refine g_aload_n C rfl dX1_gives_160 rfl ?_
    refine fg_X1_15R (k := o) (p := (o + 2)) C ho.1 rfl dX1_gives_161 rfl ?_
    refine g_iload C rfl dX1_gives_164 rfl ?_
    refine g_iconst C ki_1 dX1_gives_166 rfl ?_
    refine g_isub C dX1_gives_167 rfl ?_
    have hs10 := h.1
    replace h := h.2
    refine g_ialdx (k := (o + 2)) (j := (x4 - (1 : Int32)).toNatClampNeg) (x := (f (o + 2) (x4 - (1 : Int32)).toNatClampNeg)) C ho.2.2 hs10 rfl rfl dX1_gives_168 rfl ?_
    refine g_callSD C tw_475 tw_476 tw_4 tw_477 hy_X1_joined (by decide) (by decide) rfl (Nat.le_of_ble_eq_true rfl) (ct_X1_joined V_l1   f (f (o + 2) (x4 - (2 : Int32)).toNatClampNeg) (-x6) (f (o + 2) (x4 - (1 : Int32)).toNatClampNeg) ) dX1_gives_169 rfl rfl ?_
    have hs11 := h.1
    replace h := h.2
    refine g_iastx (k := (o + 2)) (j := (x4 - (2 : Int32)).toNatClampNeg) C ho.2.2 hs11 rfl dX1_gives_172 rfl ?_
    refine g_iinc (lv' := [(4, .int (x4 + (-1 : Int32))), (0, .ref (zad Z o)), (1, .int x1), (2, .int x2), (3, .int x3), (5, .int x5), (6, .int x6)]) C dX1_gives_173 rfl (inc_m1 _) (by decide) rfl rfl ?_
    refine g_lps [0, 1, 2, 3, 4, 5] rfl ?_
    exact wk_X1_gives_L176 V_l1  C o ho hK6 _ _ _ _ _ _ h
set_option maxHeartbeats 4000000 in
set_option maxRecDepth 100000 in
theorem wk_X1_gives_L130 (V_l1 : VC_l1) {Z : Zt}  (C : CX Z layC RX1 cX1_gives 7 (some .int) 1) (o : Nat) (ho : isLaw o) {K6 : Fn → Int32 → Int32 → Int32 → Int32 → Int32 → Prop} (hK6 : ∀ (f : Fn) (x1 : Int32) (x2 : Int32) (x3 : Int32) (x4 : Int32) (x5 : Int32), K6 f x1 x2 x3 x4 x5 → GG Z f [(0, .ref (zad Z o)), (1, .int x1), (2, .int x2), (3, .int x3), (4, .int x4), (5, .int x5)] 6 []) (f : Fn) (x1 : Int32) (x2 : Int32) (x3 : Int32) (x4 : Int32) (x5 : Int32) (s0 : Int32) (s1 : Int32) (h : wp_X1_gives_L130 o K6 f x1 x2 x3 x4 x5 s0 s1 (zp Z)) : GG Z f [(0, .ref (zad Z o)), (1, .int x1), (2, .int x2), (3, .int x3), (4, .int x4), (5, .int x5)] 130 [.int s0, .int s1, .ref (zad Z (o + 2))] := by
  have hs15 := h.1
  replace h := h.2
  refine g_iastx (k := (o + 2)) (j := s1.toNatClampNeg) C ho.2.2 hs15 rfl dX1_gives_130 rfl ?_
  refine g_goto (q := 176) C dX1_gives_131 (by decide) ?_
  exact wk_X1_gives_L176 V_l1  C o ho hK6 _ _ _ _ _ _ h
set_option maxHeartbeats 4000000 in
set_option maxRecDepth 100000 in
theorem wk_X1_gives_L92 (V_l1 : VC_l1) {Z : Zt}  (C : CX Z layC RX1 cX1_gives 7 (some .int) 1) (o : Nat) (ho : isLaw o) {K6 : Fn → Int32 → Int32 → Int32 → Int32 → Int32 → Prop} (hK6 : ∀ (f : Fn) (x1 : Int32) (x2 : Int32) (x3 : Int32) (x4 : Int32) (x5 : Int32), K6 f x1 x2 x3 x4 x5 → GG Z f [(0, .ref (zad Z o)), (1, .int x1), (2, .int x2), (3, .int x3), (4, .int x4), (5, .int x5)] 6 []) (f : Fn) (x1 : Int32) (x2 : Int32) (x3 : Int32) (x4 : Int32) (x5 : Int32) (x6 : Int32) (h : wp_X1_gives_L92 o K6 f x1 x2 x3 x4 x5 x6 (zp Z)) : GG Z f [(0, .ref (zad Z o)), (1, .int x1), (2, .int x2), (3, .int x3), (4, .int x4), (5, .int x5), (6, .int x6)] 92 [] := by
  refine g_iload C rfl dX1_gives_92 rfl ?_
  refine g_bipush C kb_m33 dX1_gives_94 rfl ?_
  refine g_icmp_ne (tgt := 134) C dX1_gives_96 (by decide) rfl (fun hc7 => ?_) (fun hc7 => ?_)
  · replace h := h.1 hc7
    exact wk_X1_gives_L134 V_l1  C o ho hK6 _ _ _ _ _ _ _ h
  · replace h := h.2 hc7
    refine g_iload C rfl dX1_gives_99 rfl ?_
    refine g_iconst C ki_1 dX1_gives_101 rfl ?_
    refine g_icmp_lt (tgt := 134) C dX1_gives_102 (by decide) rfl (fun hc12 => ?_) (fun hc12 => ?_)
    · replace h := h.1 hc12
      exact wk_X1_gives_L134 V_l1  C o ho hK6 _ _ _ _ _ _ _ h
    · replace h := h.2 hc12
      refine g_aload_n C rfl dX1_gives_105 rfl ?_
      refine fg_X1_15R (k := o) (p := (o + 2)) C ho.1 rfl dX1_gives_106 rfl ?_
      refine g_iload C rfl dX1_gives_109 rfl ?_
      refine g_iconst C ki_1 dX1_gives_111 rfl ?_
      refine g_isub C dX1_gives_112 rfl ?_
      refine g_aload_n C rfl dX1_gives_113 rfl ?_
      refine fg_X1_15R (k := o) (p := (o + 2)) C ho.1 rfl dX1_gives_114 rfl ?_
      refine g_iload C rfl dX1_gives_117 rfl ?_
      refine g_iconst C ki_1 dX1_gives_119 rfl ?_
      refine g_isub C dX1_gives_120 rfl ?_
      have hs13 := h.1
      replace h := h.2
      refine g_ialdx (k := (o + 2)) (j := (x4 - (1 : Int32)).toNatClampNeg) (x := (f (o + 2) (x4 - (1 : Int32)).toNatClampNeg)) C ho.2.2 hs13 rfl rfl dX1_gives_121 rfl ?_
      refine g_if_ne (tgt := 129) C dX1_gives_122 (by decide) rfl (fun hc14 => ?_) (fun hc14 => ?_)
      · replace h := h.1 hc14
        refine g_iconst C ki_0 dX1_gives_129 rfl ?_
        refine g_lps [0, 1, 2, 3, 4, 5] rfl ?_
        exact wk_X1_gives_L130 V_l1  C o ho hK6 _ _ _ _ _ _ _ _ h
      · replace h := h.2 hc14
        refine g_iconst C ki_1 dX1_gives_125 rfl ?_
        refine g_goto (q := 130) C dX1_gives_126 (by decide) ?_
        refine g_lps [0, 1, 2, 3, 4, 5] rfl ?_
        exact wk_X1_gives_L130 V_l1  C o ho hK6 _ _ _ _ _ _ _ _ h
set_option maxHeartbeats 4000000 in
set_option maxRecDepth 100000 in
theorem wk_X1_gives_L85 (V_l1 : VC_l1) {Z : Zt}  (C : CX Z layC RX1 cX1_gives 7 (some .int) 1) (o : Nat) (ho : isLaw o) {K6 : Fn → Int32 → Int32 → Int32 → Int32 → Int32 → Prop} (hK6 : ∀ (f : Fn) (x1 : Int32) (x2 : Int32) (x3 : Int32) (x4 : Int32) (x5 : Int32), K6 f x1 x2 x3 x4 x5 → GG Z f [(0, .ref (zad Z o)), (1, .int x1), (2, .int x2), (3, .int x3), (4, .int x4), (5, .int x5)] 6 []) (f : Fn) (x1 : Int32) (x2 : Int32) (x3 : Int32) (x4 : Int32) (x5 : Int32) (s0 : Int32) (s1 : Int32) (h : wp_X1_gives_L85 o K6 f x1 x2 x3 x4 x5 s0 s1 (zp Z)) : GG Z f [(0, .ref (zad Z o)), (1, .int x1), (2, .int x2), (3, .int x3), (4, .int x4), (5, .int x5)] 85 [.int s0, .int s1, .ref (zad Z (o + 2))] := by
  have hs20 := h.1
  replace h := h.2
  refine g_iastx (k := (o + 2)) (j := s1.toNatClampNeg) C ho.2.2 hs20 rfl dX1_gives_85 rfl ?_
  refine g_iinc (lv' := [(4, .int (x4 + (1 : Int32))), (0, .ref (zad Z o)), (1, .int x1), (2, .int x2), (3, .int x3), (5, .int x5)]) C dX1_gives_86 rfl (inc_1 _) (by decide) rfl rfl ?_
  refine g_goto (q := 176) C dX1_gives_89 (by decide) ?_
  refine g_lps [0, 1, 2, 3, 4, 5] rfl ?_
  exact wk_X1_gives_L176 V_l1  C o ho hK6 _ _ _ _ _ _ h
set_option maxHeartbeats 4000000 in
set_option maxRecDepth 100000 in
theorem wkb_X1_gives_L6 (V_l1 : VC_l1) {Z : Zt}  (C : CX Z layC RX1 cX1_gives 7 (some .int) 1) (o : Nat) (ho : isLaw o) {K6 : Fn → Int32 → Int32 → Int32 → Int32 → Int32 → Prop} (hK6 : ∀ (f : Fn) (x1 : Int32) (x2 : Int32) (x3 : Int32) (x4 : Int32) (x5 : Int32), K6 f x1 x2 x3 x4 x5 → GG Z f [(0, .ref (zad Z o)), (1, .int x1), (2, .int x2), (3, .int x3), (4, .int x4), (5, .int x5)] 6 []) (f : Fn) (x1 : Int32) (x2 : Int32) (x3 : Int32) (x4 : Int32) (x5 : Int32) (h : wpb_X1_gives_L6 o  K6 f x1 x2 x3 x4 x5 (zp Z)) : GG Z f [(0, .ref (zad Z o)), (1, .int x1), (2, .int x2), (3, .int x3), (4, .int x4), (5, .int x5)] 6 [] := by
  refine g_iload C rfl dX1_gives_6 rfl ?_
  refine g_aload_n C rfl dX1_gives_8 rfl ?_
  refine fg_X1_35I (k := o) (x := (f o 5)) C ho.1 rfl rfl dX1_gives_9 rfl ?_
  refine g_icmp_ge (tgt := 182) C dX1_gives_12 (by decide) rfl (fun hc1 => ?_) (fun hc1 => ?_)
  · replace h := h.1 hc1
    refine g_lps [0, 1, 2, 4] rfl ?_
    exact wk_X1_gives_L182 V_l1  C o ho  _ _ _ _ h
  · replace h := h.2 hc1
    refine g_iload C rfl dX1_gives_15 rfl ?_
    refine g_bipush C kb_50 dX1_gives_17 rfl ?_
    refine g_icmp_ge (tgt := 182) C dX1_gives_19 (by decide) rfl (fun hc4 => ?_) (fun hc4 => ?_)
    · replace h := h.1 hc4
      refine g_lps [0, 1, 2, 4] rfl ?_
      exact wk_X1_gives_L182 V_l1  C o ho  _ _ _ _ h
    · replace h := h.2 hc4
      refine g_aload_n C rfl dX1_gives_22 rfl ?_
      refine fg_X1_9R (k := o) (p := (o + 1)) C ho.1 rfl dX1_gives_23 rfl ?_
      refine g_iload C rfl dX1_gives_26 rfl ?_
      have hs5 := h.1
      replace h := h.2
      refine g_ialdx (k := (o + 1)) (j := x5.toNatClampNeg) (x := (f (o + 1) x5.toNatClampNeg)) C ho.2.1 hs5 rfl rfl dX1_gives_28 rfl ?_
      refine g_istore (lv' := [(6, .int (f (o + 1) x5.toNatClampNeg)), (0, .ref (zad Z o)), (1, .int x1), (2, .int x2), (3, .int x3), (4, .int x4), (5, .int x5)]) C dX1_gives_29 (by decide) rfl rfl ?_
      refine g_iload C rfl dX1_gives_31 rfl ?_
      refine g_callSD C tw_472 tw_473 tw_4 tw_474 hy_X1_isPart (by decide) (by decide) rfl (Nat.le_of_ble_eq_true rfl) (ct_X1_isPart V_l1   f (f (o + 1) x5.toNatClampNeg) ) dX1_gives_33 rfl rfl ?_
      refine g_if_eq (tgt := 92) C dX1_gives_36 (by decide) rfl (fun hc6 => ?_) (fun hc6 => ?_)
      · replace h := h.1 hc6
        refine g_lps [0, 1, 2, 3, 4, 5, 6] rfl ?_
        exact wk_X1_gives_L92 V_l1  C o ho hK6 _ _ _ _ _ _ _ h
      · replace h := h.2 hc6
        refine g_iload C rfl dX1_gives_39 rfl ?_
        refine g_bipush C kb_50 dX1_gives_41 rfl ?_
        refine g_icmp_ge (tgt := 92) C dX1_gives_43 (by decide) rfl (fun hc16 => ?_) (fun hc16 => ?_)
        · replace h := h.1 hc16
          refine g_lps [0, 1, 2, 3, 4, 5, 6] rfl ?_
          exact wk_X1_gives_L92 V_l1  C o ho hK6 _ _ _ _ _ _ _ h
        · replace h := h.2 hc16
          refine g_aload_n C rfl dX1_gives_46 rfl ?_
          refine fg_X1_15R (k := o) (p := (o + 2)) C ho.1 rfl dX1_gives_47 rfl ?_
          refine g_iload C rfl dX1_gives_50 rfl ?_
          refine g_iload C rfl dX1_gives_52 rfl ?_
          refine g_if_lt (tgt := 62) C dX1_gives_54 (by decide) rfl (fun hc17 => ?_) (fun hc17 => ?_)
          · replace h := h.1 hc17
            refine g_iload C rfl dX1_gives_62 rfl ?_
            refine g_bipush C kb_m107 dX1_gives_64 rfl ?_
            refine g_icmp_ne (tgt := 73) C dX1_gives_66 (by decide) rfl (fun hc18 => ?_) (fun hc18 => ?_)
            · replace h := h.1 hc18
              refine g_iload C rfl dX1_gives_73 rfl ?_
              refine g_bipush C kb_m118 dX1_gives_75 rfl ?_
              refine g_icmp_ne (tgt := 84) C dX1_gives_77 (by decide) rfl (fun hc19 => ?_) (fun hc19 => ?_)
              · replace h := h.1 hc19
                refine g_iload_n C rfl dX1_gives_84 rfl ?_
                refine g_lps [0, 1, 2, 3, 4, 5] rfl ?_
                exact wk_X1_gives_L85 V_l1  C o ho hK6 _ _ _ _ _ _ _ _ h
              · replace h := h.2 hc19
                refine g_iload_n C rfl dX1_gives_80 rfl ?_
                refine g_goto (q := 85) C dX1_gives_81 (by decide) ?_
                refine g_lps [0, 1, 2, 3, 4, 5] rfl ?_
                exact wk_X1_gives_L85 V_l1  C o ho hK6 _ _ _ _ _ _ _ _ h
            · replace h := h.2 hc18
              refine g_iload_n C rfl dX1_gives_69 rfl ?_
              refine g_goto (q := 85) C dX1_gives_70 (by decide) ?_
              refine g_lps [0, 1, 2, 3, 4, 5] rfl ?_
              exact wk_X1_gives_L85 V_l1  C o ho hK6 _ _ _ _ _ _ _ _ h
          · replace h := h.2 hc17
            refine g_iload C rfl dX1_gives_57 rfl ?_
            refine g_goto (q := 85) C dX1_gives_59 (by decide) ?_
            refine g_lps [0, 1, 2, 3, 4, 5] rfl ?_
            exact wk_X1_gives_L85 V_l1  C o ho hK6 _ _ _ _ _ _ _ _ h
set_option maxHeartbeats 4000000 in
set_option maxRecDepth 100000 in
theorem wk_X1_gives_L6 (V_l1 : VC_l1) {Z : Zt}  (C : CX Z layC RX1 cX1_gives 7 (some .int) 1) (o : Nat) (ho : isLaw o)   (f : Fn) (x1 : Int32) (x2 : Int32) (x3 : Int32) (x4 : Int32) (x5 : Int32) (h : wp_X1_gives_L6 o  f x1 x2 x3 x4 x5 (zp Z)) : GG Z f [(0, .ref (zad Z o)), (1, .int x1), (2, .int x2), (3, .int x3), (4, .int x4), (5, .int x5)] 6 [] := by
  obtain ⟨I, μ, h0, hs⟩ := h
  suffices H : ∀ (N : Nat) (f : Fn) (x1 : Int32) (x2 : Int32) (x3 : Int32) (x4 : Int32) (x5 : Int32), μ f x1 x2 x3 x4 x5 < N → I f x1 x2 x3 x4 x5 → GG Z f [(0, .ref (zad Z o)), (1, .int x1), (2, .int x2), (3, .int x3), (4, .int x4), (5, .int x5)] 6 [] from H _ f x1 x2 x3 x4 x5 (Nat.lt_succ_self _) h0
  clear h0
  intro N
  induction N with
  | zero => intro f x1 x2 x3 x4 x5 hm; exact absurd hm (Nat.not_lt_zero _)
  | succ N ih =>
    intro f x1 x2 x3 x4 x5 hm hi
    exact wkb_X1_gives_L6 V_l1  C o ho  (fun f9 x19 x29 x39 x49 x59 hk => ih f9 x19 x29 x39 x49 x59 (Nat.lt_of_lt_of_le hk.2 (Nat.le_of_lt_succ hm)) hk.1) f x1 x2 x3 x4 x5 (hs f x1 x2 x3 x4 x5 hi)
set_option maxHeartbeats 4000000 in
set_option maxRecDepth 100000 in
theorem wk_X1_gives (V_l1 : VC_l1) {Z : Zt}  (C : CX Z layC RX1 cX1_gives 7 (some .int) 1) (o : Nat) (ho : isLaw o)   (f : Fn) (a1 : Int32) (a2 : Int32) (a3 : Int32) (h : wp_X1_gives o f a1 a2 a3 (zp Z)) : GG Z f [(0, .ref (zad Z o)), (1, .int a1), (2, .int a2), (3, .int a3)] 0 [] := by
  refine g_iconst C ki_0 dX1_gives_0 rfl ?_
  refine g_istore (lv' := [(4, .int (0 : Int32)), (0, .ref (zad Z o)), (1, .int a1), (2, .int a2), (3, .int a3)]) C dX1_gives_1 (by decide) rfl rfl ?_
  refine g_iconst C ki_0 dX1_gives_3 rfl ?_
  refine g_istore (lv' := [(5, .int (0 : Int32)), (4, .int (0 : Int32)), (0, .ref (zad Z o)), (1, .int a1), (2, .int a2), (3, .int a3)]) C dX1_gives_4 (by decide) rfl rfl ?_
  refine g_lps [0, 1, 2, 3, 4, 5] rfl ?_
  exact wk_X1_gives_L6 V_l1  C o ho  _ _ _ _ _ _ h
set_option maxRecDepth 100000 in
theorem ct_X1_gives (V_l1 : VC_l1) {l : Launch} {E : Ev} (o : Nat) (ho : isLaw o) (f : Fn) (a1 : Int32) (a2 : Int32) (a3 : Int32)  : CT l E layC yX1_gives cX1_gives 7 (some .int) 1 [.ref (E.2.1 o), .int a1, .int a2, .int a3] f (pI (Post_X1_gives o f a1 a2 a3)) := by
  refine CT.of (by decide +kernel) (Nat.le_of_ble_eq_true rfl) (fun Z hl9 hE9 hp9 C => ?_)
  subst hl9
  subst hE9
  exact wk_X1_gives V_l1 C o ho f a1 a2 a3 (by rw [hp9]; exact V_l1.2.2.2.2.2.2.2.2.2.2.2.2.2.2.2.2.2.2.2.2.2.1 o f a1 a2 a3 ho )
set_option maxHeartbeats 4000000 in
set_option maxRecDepth 100000 in
theorem wk_X3_isMissing (V_l1 : VC_l1) {Z : Zt}  (C : CX Z layC RX3 cX3_isMissing 1 (some .boolean) 0) (o : Nat) (ho : isSh o)   (f : Fn)  (h : wp_X3_isMissing o f  (zp Z)) : GG Z f [(0, .ref (zad Z o))] 0 [] := by
  refine g_aload_n C rfl dX3_isMissing_0 rfl ?_
  refine fg_X3_15I (k := o) (x := (f o 1)) C ho.1 rfl rfl dX3_isMissing_1 rfl ?_
  refine g_if_ne (tgt := 11) C dX3_isMissing_4 (by decide) rfl (fun hc1 => ?_) (fun hc1 => ?_)
  · replace h := h.1 hc1
    refine g_iconst C ki_0 dX3_isMissing_11 rfl ?_
    exact g_zret C (Or.inl rfl) dX3_isMissing_12 h
  · replace h := h.2 hc1
    refine g_iconst C ki_1 dX3_isMissing_7 rfl ?_
    refine g_goto (q := 12) C dX3_isMissing_8 (by decide) ?_
    exact g_zret C (Or.inr rfl) dX3_isMissing_12 h
set_option maxRecDepth 100000 in
theorem ct_X3_isMissing (V_l1 : VC_l1) {l : Launch} {E : Ev} (o : Nat) (ho : isSh o) (f : Fn)   : CT l E layC yX3_isMissing cX3_isMissing 1 (some .boolean) 0 [.ref (E.2.1 o)] f (pI (fun r9 f9 => r9 = Val_X3_isMissing o f ∧ f9 = f)) := by
  refine CT.of (by decide +kernel) (Nat.le_of_ble_eq_true rfl) (fun Z hl9 hE9 hp9 C => ?_)
  subst hl9
  subst hE9
  exact wk_X3_isMissing V_l1 C o ho f  (by rw [hp9]; exact V_l1.2.2.2.2.2.2.2.2.2.2.2.2.2.2.2.2.2.2.2.2.2.2.1 o f  ho )
set_option maxHeartbeats 4000000 in
set_option maxRecDepth 100000 in
theorem wkb_X3_begin_L29 (V_l1 : VC_l1) {Z : Zt}  (C : CX Z layC RX3 cX3_begin 4 none 1) (o : Nat) (ho : isSh o) {K29 : Fn → Int32 → Prop} (hK29 : ∀ (f : Fn) (x3 : Int32), K29 f x3 → GG Z f [(0, .ref (zad Z o)), (3, .int x3)] 29 []) (f : Fn) (x3 : Int32) (h : wpb_X3_begin_L29 o  K29 f x3 (zp Z)) : GG Z f [(0, .ref (zad Z o)), (3, .int x3)] 29 [] := by
  refine g_iload_n C rfl dX3_begin_29 rfl ?_
  refine g_bipush C kb_40 dX3_begin_30 rfl ?_
  refine g_icmp_ge (tgt := 48) C dX3_begin_32 (by decide) rfl (fun hc2 => ?_) (fun hc2 => ?_)
  · replace h := h.1 hc2
    exact g_vret C dX3_begin_48 h
  · replace h := h.2 hc2
    refine g_aload_n C rfl dX3_begin_35 rfl ?_
    refine fg_X3_9R (k := o) (p := (o + 1)) C ho.1 rfl dX3_begin_36 rfl ?_
    refine g_iload_n C rfl dX3_begin_39 rfl ?_
    refine g_iconst C ki_0 dX3_begin_40 rfl ?_
    have hs3 := h.1
    replace h := h.2
    refine g_iastx (k := (o + 1)) (j := x3.toNatClampNeg) C ho.2 hs3 rfl dX3_begin_41 rfl ?_
    refine g_iinc (lv' := [(3, .int (x3 + (1 : Int32))), (0, .ref (zad Z o))]) C dX3_begin_42 rfl (inc_1 _) (by decide) rfl rfl ?_
    refine g_goto (q := 29) C dX3_begin_45 (by decide) ?_
    refine g_lps [0, 3] rfl ?_
    exact hK29 _ _ h
set_option maxHeartbeats 4000000 in
set_option maxRecDepth 100000 in
theorem wk_X3_begin_L29 (V_l1 : VC_l1) {Z : Zt}  (C : CX Z layC RX3 cX3_begin 4 none 1) (o : Nat) (ho : isSh o)   (f : Fn) (x3 : Int32) (h : wp_X3_begin_L29 o  f x3 (zp Z)) : GG Z f [(0, .ref (zad Z o)), (3, .int x3)] 29 [] := by
  obtain ⟨I, μ, h0, hs⟩ := h
  suffices H : ∀ (N : Nat) (f : Fn) (x3 : Int32), μ f x3 < N → I f x3 → GG Z f [(0, .ref (zad Z o)), (3, .int x3)] 29 [] from H _ f x3 (Nat.lt_succ_self _) h0
  clear h0
  intro N
  induction N with
  | zero => intro f x3 hm; exact absurd hm (Nat.not_lt_zero _)
  | succ N ih =>
    intro f x3 hm hi
    exact wkb_X3_begin_L29 V_l1  C o ho  (fun f9 x39 hk => ih f9 x39 (Nat.lt_of_lt_of_le hk.2 (Nat.le_of_lt_succ hm)) hk.1) f x3 (hs f x3 hi)
set_option maxHeartbeats 4000000 in
set_option maxRecDepth 100000 in
theorem wk_X3_begin_L24 (V_l1 : VC_l1) {Z : Zt}  (C : CX Z layC RX3 cX3_begin 4 none 1) (o : Nat) (ho : isSh o)   (f : Fn) (s0 : Int32) (h : wp_X3_begin_L24 o  f s0 (zp Z)) : GG Z f [(0, .ref (zad Z o))] 24 [.int s0, .ref (zad Z o)] := by
  refine fp_X3_28 (k := o) C ho.1 rfl (Nat.le_of_ble_eq_true rfl) dX3_begin_24 rfl ?_
  refine g_iconst C ki_0 dX3_begin_27 rfl ?_
  refine g_istore_n (lv' := [(3, .int (0 : Int32)), (0, .ref (zad Z o))]) C dX3_begin_28 (by decide) rfl rfl ?_
  refine g_lps [0, 3] rfl ?_
  exact wk_X3_begin_L29 V_l1  C o ho  _ _ h
set_option maxHeartbeats 4000000 in
set_option maxRecDepth 100000 in
theorem wk_X3_begin (V_l1 : VC_l1) {Z : Zt}  (C : CX Z layC RX3 cX3_begin 4 none 1) (o : Nat) (ho : isSh o)   (f : Fn) (a1 : Int32) (a2 : Int32) (h : wp_X3_begin o f a1 a2 (zp Z)) : GG Z f [(0, .ref (zad Z o)), (1, .int a1), (2, .int a2)] 0 [] := by
  refine g_aload_n C rfl dX3_begin_0 rfl ?_
  refine g_iload_n C rfl dX3_begin_1 rfl ?_
  refine fp_X3_15 (k := o) C ho.1 rfl (Nat.le_of_ble_eq_true rfl) dX3_begin_2 rfl ?_
  refine g_aload_n C rfl dX3_begin_5 rfl ?_
  refine g_iload_n C rfl dX3_begin_6 rfl ?_
  refine g_if_ne (tgt := 14) C dX3_begin_7 (by decide) rfl (fun hc1 => ?_) (fun hc1 => ?_)
  · replace h := h.1 hc1
    refine g_iconst C ki_0 dX3_begin_14 rfl ?_
    refine g_bipush C kb_40 dX3_begin_15 rfl ?_
    refine g_iload_n C rfl dX3_begin_17 rfl ?_
    refine g_callSD C tw_718 tw_462 tw_11 tw_463 hy_J9_min_7cf53 (by decide) (by decide) rfl (Nat.le_of_ble_eq_true rfl) (ct_J9_min_7cf53 V_l1   (up2 f o 1 a1) (40 : Int32) a2 ) dX3_begin_18 rfl rfl ?_
    refine g_callSD C tw_719 tw_335 tw_11 tw_336 hy_J9_max_7cf53 (by decide) (by decide) rfl (Nat.le_of_ble_eq_true rfl) (ct_J9_max_7cf53 V_l1   (up2 f o 1 a1) (0 : Int32) (Val_J9_min_7cf53 (up2 f o 1 a1) (40 : Int32) a2) ) dX3_begin_21 rfl rfl ?_
    refine g_lps [0] rfl ?_
    exact wk_X3_begin_L24 V_l1  C o ho  _ _ h
  · replace h := h.2 hc1
    refine g_iconst C ki_0 dX3_begin_10 rfl ?_
    refine g_goto (q := 24) C dX3_begin_11 (by decide) ?_
    refine g_lps [0] rfl ?_
    exact wk_X3_begin_L24 V_l1  C o ho  _ _ h
set_option maxRecDepth 100000 in
theorem ct_X3_begin (V_l1 : VC_l1) {l : Launch} {E : Ev} (o : Nat) (ho : isSh o) (f : Fn) (a1 : Int32) (a2 : Int32)  : CT l E layC yX3_begin cX3_begin 4 none 1 [.ref (E.2.1 o), .int a1, .int a2] f (pV (Post_X3_begin o f a1 a2)) := by
  refine CT.of (by decide +kernel) (Nat.le_of_ble_eq_true rfl) (fun Z hl9 hE9 hp9 C => ?_)
  subst hl9
  subst hE9
  exact wk_X3_begin V_l1 C o ho f a1 a2 (by rw [hp9]; exact V_l1.2.2.2.2.2.2.2.2.2.2.2.2.2.2.2.2.2.2.2.2.2.2.2.1 o f a1 a2 ho )
set_option maxHeartbeats 4000000 in
set_option maxRecDepth 100000 in
theorem wk_X3_write_L46 (V_l1 : VC_l1) {Z : Zt}  (C : CX Z layC RX3 cX3_write 3 none 0) (o : Nat) (ho : isSh o)   (f : Fn) (s0 : Int32) (s1 : Int32) (h : wp_X3_write_L46 o  f s0 s1 (zp Z)) : GG Z f [] 46 [.int s0, .int s1, .ref (zad Z (o + 1))] := by
  have hs5 := h.1
  replace h := h.2
  refine g_iastx (k := (o + 1)) (j := s1.toNatClampNeg) C ho.2 hs5 rfl dX3_write_46 rfl ?_
  exact g_vret C dX3_write_47 h
set_option maxHeartbeats 4000000 in
set_option maxRecDepth 100000 in
theorem wk_X3_write (V_l1 : VC_l1) {Z : Zt}  (C : CX Z layC RX3 cX3_write 3 none 0) (o : Nat) (ho : isSh o)   (f : Fn) (a1 : Int32) (a2 : Int32) (h : wp_X3_write o f a1 a2 (zp Z)) : GG Z f [(0, .ref (zad Z o)), (1, .int a1), (2, .int a2)] 0 [] := by
  refine g_iload_n C rfl dX3_write_0 rfl ?_
  refine g_if_lt (tgt := 47) C dX3_write_1 (by decide) rfl (fun hc1 => ?_) (fun hc1 => ?_)
  · replace h := h.1 hc1
    exact g_vret C dX3_write_47 h
  · replace h := h.2 hc1
    refine g_iload_n C rfl dX3_write_4 rfl ?_
    refine g_aload_n C rfl dX3_write_5 rfl ?_
    refine fg_X3_28I (k := o) (x := (f o 2)) C ho.1 rfl rfl dX3_write_6 rfl ?_
    refine g_icmp_ge (tgt := 47) C dX3_write_9 (by decide) rfl (fun hc2 => ?_) (fun hc2 => ?_)
    · replace h := h.1 hc2
      exact g_vret C dX3_write_47 h
    · replace h := h.2 hc2
      refine g_aload_n C rfl dX3_write_12 rfl ?_
      refine fg_X3_9R (k := o) (p := (o + 1)) C ho.1 rfl dX3_write_13 rfl ?_
      refine g_iload_n C rfl dX3_write_16 rfl ?_
      refine g_aload_n C rfl dX3_write_17 rfl ?_
      refine fg_X3_15I (k := o) (x := (f o 1)) C ho.1 rfl rfl dX3_write_18 rfl ?_
      refine g_bipush C kb_8 dX3_write_21 rfl ?_
      refine g_icmp_ne (tgt := 31) C dX3_write_23 (by decide) rfl (fun hc3 => ?_) (fun hc3 => ?_)
      · replace h := h.1 hc3
        refine g_aload_n C rfl dX3_write_31 rfl ?_
        refine fg_X3_15I (k := o) (x := (f o 1)) C ho.1 rfl rfl dX3_write_32 rfl ?_
        refine g_bipush C kb_16 dX3_write_35 rfl ?_
        refine g_icmp_ne (tgt := 45) C dX3_write_37 (by decide) rfl (fun hc4 => ?_) (fun hc4 => ?_)
        · replace h := h.1 hc4
          refine g_iload_n C rfl dX3_write_45 rfl ?_
          refine g_lps [] rfl ?_
          exact wk_X3_write_L46 V_l1  C o ho  _ _ _ h
        · replace h := h.2 hc4
          refine g_iload_n C rfl dX3_write_40 rfl ?_
          refine g_i2s C dX3_write_41 rfl ?_
          refine g_goto (q := 46) C dX3_write_42 (by decide) ?_
          refine g_lps [] rfl ?_
          exact wk_X3_write_L46 V_l1  C o ho  _ _ _ h
      · replace h := h.2 hc3
        refine g_iload_n C rfl dX3_write_26 rfl ?_
        refine g_i2b C dX3_write_27 rfl ?_
        refine g_goto (q := 46) C dX3_write_28 (by decide) ?_
        refine g_lps [] rfl ?_
        exact wk_X3_write_L46 V_l1  C o ho  _ _ _ h
set_option maxRecDepth 100000 in
theorem ct_X3_write (V_l1 : VC_l1) {l : Launch} {E : Ev} (o : Nat) (ho : isSh o) (f : Fn) (a1 : Int32) (a2 : Int32) (hpre : Pre_X3_write o f a1 a2) : CT l E layC yX3_write cX3_write 3 none 0 [.ref (E.2.1 o), .int a1, .int a2] f (pV (Post_X3_write o f a1 a2)) := by
  refine CT.of (by decide +kernel) (Nat.le_of_ble_eq_true rfl) (fun Z hl9 hE9 hp9 C => ?_)
  subst hl9
  subst hE9
  exact wk_X3_write V_l1 C o ho f a1 a2 (by rw [hp9]; exact V_l1.2.2.2.2.2.2.2.2.2.2.2.2.2.2.2.2.2.2.2.2.2.2.2.2.1 o f a1 a2 ho hpre)
set_option maxHeartbeats 4000000 in
set_option maxRecDepth 100000 in
theorem wk_X3_read (V_l1 : VC_l1) {Z : Zt}  (C : CX Z layC RX3 cX3_read 2 (some .int) 0) (o : Nat) (ho : isSh o)   (f : Fn) (a1 : Int32) (h : wp_X3_read o f a1 (zp Z)) : GG Z f [(0, .ref (zad Z o)), (1, .int a1)] 0 [] := by
  refine g_iload_n C rfl dX3_read_0 rfl ?_
  refine g_if_lt (tgt := 21) C dX3_read_1 (by decide) rfl (fun hc1 => ?_) (fun hc1 => ?_)
  · replace h := h.1 hc1
    refine g_iconst C ki_0 dX3_read_21 rfl ?_
    exact g_iret C dX3_read_22 h
  · replace h := h.2 hc1
    refine g_iload_n C rfl dX3_read_4 rfl ?_
    refine g_aload_n C rfl dX3_read_5 rfl ?_
    refine fg_X3_28I (k := o) (x := (f o 2)) C ho.1 rfl rfl dX3_read_6 rfl ?_
    refine g_icmp_ge (tgt := 21) C dX3_read_9 (by decide) rfl (fun hc2 => ?_) (fun hc2 => ?_)
    · replace h := h.1 hc2
      refine g_iconst C ki_0 dX3_read_21 rfl ?_
      exact g_iret C dX3_read_22 h
    · replace h := h.2 hc2
      refine g_aload_n C rfl dX3_read_12 rfl ?_
      refine fg_X3_9R (k := o) (p := (o + 1)) C ho.1 rfl dX3_read_13 rfl ?_
      refine g_iload_n C rfl dX3_read_16 rfl ?_
      have hs3 := h.1
      replace h := h.2
      refine g_ialdx (k := (o + 1)) (j := a1.toNatClampNeg) (x := (f (o + 1) a1.toNatClampNeg)) C ho.2 hs3 rfl rfl dX3_read_17 rfl ?_
      refine g_goto (q := 22) C dX3_read_18 (by decide) ?_
      exact g_iret C dX3_read_22 h
set_option maxRecDepth 100000 in
theorem ct_X3_read (V_l1 : VC_l1) {l : Launch} {E : Ev} (o : Nat) (ho : isSh o) (f : Fn) (a1 : Int32) (hpre : Pre_X3_read o f a1) : CT l E layC yX3_read cX3_read 2 (some .int) 0 [.ref (E.2.1 o), .int a1] f (pI (fun r9 f9 => r9 = Val_X3_read o f a1 ∧ f9 = f)) := by
  refine CT.of (by decide +kernel) (Nat.le_of_ble_eq_true rfl) (fun Z hl9 hE9 hp9 C => ?_)
  subst hl9
  subst hE9
  exact wk_X3_read V_l1 C o ho f a1 (by rw [hp9]; exact V_l1.2.2.2.2.2.2.2.2.2.2.2.2.2.2.2.2.2.2.2.2.2.2.2.2.2.1 o f a1 ho hpre)
set_option maxHeartbeats 4000000 in
set_option maxRecDepth 100000 in
theorem wk_X3_hasRow (V_l1 : VC_l1) {Z : Zt}  (C : CX Z layC RX3 cX3_hasRow 3 (some .boolean) 0) (o : Nat) (ho : isSh o)   (f : Fn) (a1 : Int32) (a2 : Int32) (h : wp_X3_hasRow o f a1 a2 (zp Z)) : GG Z f [(0, .ref (zad Z o)), (1, .int a1), (2, .int a2)] 0 [] := by
  refine g_iload_n C rfl dX3_hasRow_0 rfl ?_
  refine g_if_lt (tgt := 30) C dX3_hasRow_1 (by decide) rfl (fun hc1 => ?_) (fun hc1 => ?_)
  · replace h := h.1 hc1
    refine g_iconst C ki_0 dX3_hasRow_30 rfl ?_
    exact g_zret C (Or.inl rfl) dX3_hasRow_31 h
  · replace h := h.2 hc1
    refine g_iload_n C rfl dX3_hasRow_4 rfl ?_
    refine g_aload_n C rfl dX3_hasRow_5 rfl ?_
    refine fg_X3_28I (k := o) (x := (f o 2)) C ho.1 rfl rfl dX3_hasRow_6 rfl ?_
    refine g_icmp_gt (tgt := 30) C dX3_hasRow_9 (by decide) rfl (fun hc2 => ?_) (fun hc2 => ?_)
    · replace h := h.1 hc2
      refine g_iconst C ki_0 dX3_hasRow_30 rfl ?_
      exact g_zret C (Or.inl rfl) dX3_hasRow_31 h
    · replace h := h.2 hc2
      refine g_iload_n C rfl dX3_hasRow_12 rfl ?_
      refine g_if_lt (tgt := 30) C dX3_hasRow_13 (by decide) rfl (fun hc3 => ?_) (fun hc3 => ?_)
      · replace h := h.1 hc3
        refine g_iconst C ki_0 dX3_hasRow_30 rfl ?_
        exact g_zret C (Or.inl rfl) dX3_hasRow_31 h
      · replace h := h.2 hc3
        refine g_iload_n C rfl dX3_hasRow_16 rfl ?_
        refine g_aload_n C rfl dX3_hasRow_17 rfl ?_
        refine fg_X3_28I (k := o) (x := (f o 2)) C ho.1 rfl rfl dX3_hasRow_18 rfl ?_
        refine g_iload_n C rfl dX3_hasRow_21 rfl ?_
        refine g_isub C dX3_hasRow_22 rfl ?_
        refine g_icmp_gt (tgt := 30) C dX3_hasRow_23 (by decide) rfl (fun hc4 => ?_) (fun hc4 => ?_)
        · replace h := h.1 hc4
          refine g_iconst C ki_0 dX3_hasRow_30 rfl ?_
          exact g_zret C (Or.inl rfl) dX3_hasRow_31 h
        · replace h := h.2 hc4
          refine g_iconst C ki_1 dX3_hasRow_26 rfl ?_
          refine g_goto (q := 31) C dX3_hasRow_27 (by decide) ?_
          exact g_zret C (Or.inr rfl) dX3_hasRow_31 h
set_option maxRecDepth 100000 in
theorem ct_X3_hasRow (V_l1 : VC_l1) {l : Launch} {E : Ev} (o : Nat) (ho : isSh o) (f : Fn) (a1 : Int32) (a2 : Int32)  : CT l E layC yX3_hasRow cX3_hasRow 3 (some .boolean) 0 [.ref (E.2.1 o), .int a1, .int a2] f (pI (fun r9 f9 => r9 = Val_X3_hasRow o f a1 a2 ∧ f9 = f)) := by
  refine CT.of (by decide +kernel) (Nat.le_of_ble_eq_true rfl) (fun Z hl9 hE9 hp9 C => ?_)
  subst hl9
  subst hE9
  exact wk_X3_hasRow V_l1 C o ho f a1 a2 (by rw [hp9]; exact V_l1.2.2.2.2.2.2.2.2.2.2.2.2.2.2.2.2.2.2.2.2.2.2.2.2.2.2.1 o f a1 a2 ho )
