theorem if10 {c : Prop} {_ : Decidable c} : ((if c then (1 : Int32) else 0) = 0) = ¬ c := by
  by_cases h : c <;> simp [h]
theorem if01 {c : Prop} {_ : Decidable c} {r : Int32} (h : r = if c then 1 else 0) : (r = 0) = ¬ c := by rw [h]; exact if10
theorem nn {c : Prop} : (¬ ¬ c) = c := by by_cases h : c <;> simp [h]
theorem bI0 {b : Bool} : (bI b = 0) = ¬ b = true := by cases b <;> simp [bI]
theorem ii (a b : Int32) : a = b ↔ a.toInt = b.toInt := Int32.toInt_inj.symm
theorem nle {a b : Int32} : (¬ a ≤ b) = (b < a) := by simp
theorem nlt {a b : Int32} : (¬ a < b) = (b ≤ a) := by simp
theorem vp_lt {a b : Int32} {n : Nat} (h0 : 0 ≤ a) (h : a < b) (hb : b.toInt ≤ n) : vp_in a n := by
  rw [Int32.le_iff_toInt_le] at h0
  rw [Int32.lt_iff_toInt_lt] at h
  rw [vp_in_iff]
  simp only [Int32.reduceToInt] at h0
  omega
theorem cpr_0 (f : Fn) (o o2 : Nat) : cpr f o o2 0 = f := by
  funext a j
  by_cases h : a = o <;> simp [cpr, h]
theorem cpr_s (f : Fn) (o o2 n : Nat) : up2 (cpr f o o2 n) o n (cpr f o o2 n o2 n) = cpr f o o2 (n + 1) := by
  have e : cpr f o o2 n o2 n = f o2 n := by
    by_cases h : o2 = o
    · subst h; simp [cpr]
    · simp [cpr, h]
  rw [e]
  funext a j
  by_cases h : a = o
  · subst h
    rw [up2_same]
    by_cases hj : j = n
    · subst hj; simp [upd, cpr]
    · have : (j < n) = (j < n + 1) := by rw [eq_iff_iff]; omega
      simp [upd, cpr, hj, this]
  · rw [up2_ne _ h]
    simp [cpr, h]
theorem cpr_1 (f : Fn) (o o2 : Nat) : up2 f o 0 (f o2 0) = cpr f o o2 1 := by
  have := cpr_s f o o2 0
  rwa [cpr_0] at this
theorem up2_self (f : Fn) (k j : Nat) : up2 f k j (f k j) = f := by
  funext a b
  by_cases h : a = k
  · subst h
    rw [up2_same]
    by_cases hb : b = j
    · subst hb; simp [upd]
    · simp [upd, hb]
  · rw [up2_ne _ h]
theorem up2_at (f : Fn) (k j : Nat) (v : Int32) : up2 f k j v k j = v := by simp [up2, upd]
theorem up2_off (f : Fn) {k j : Nat} (v : Int32) {b : Nat} (h : b ≠ j) : up2 f k j v k b = f k b := by simp [up2, upd, h]
theorem eqM_rfl (g : Fn) : eqM g g := ⟨rfl, rfl, rfl, rfl, rfl, rfl, rfl, rfl, rfl, rfl⟩

theorem up2_ap (f : Fn) (k j : Nat) (v : Int32) (a b : Nat) : up2 f k j v a b = if a = k then (if b = j then v else f a b) else f a b := by
  by_cases h : a = k
  · subst h
    rw [up2_same, if_pos rfl]; rfl
  · rw [up2_ne _ h, if_neg h]
theorem up2_row (f : Fn) (k j : Nat) (v : Int32) (a : Nat) (h : ¬ a = k) : up2 f k j v a = f a := up2_ne _ h
theorem cpr_ap (f : Fn) (o o2 n a b : Nat) : cpr f o o2 n a b = if a = o then (if b < n then f o2 b else f o b) else f a b := by
  by_cases h : a = o <;> simp [cpr, h]
theorem cpr_row (f : Fn) (o o2 n a : Nat) (h : ¬ a = o) : cpr f o o2 n a = f a := by simp [cpr, h]
theorem tnc (x : Int32) : (x.toNatClampNeg : Int) = if 0 ≤ x then Lean.Grind.ToInt.toInt x else 0 := by
  by_cases h : 0 ≤ x
  · rw [if_pos h]
    show (x.toInt.toNat : Int) = x.toInt
    rw [Int32.le_iff_toInt_le] at h
    simp at h
    omega
  · rw [if_neg h]
    show (x.toInt.toNat : Int) = 0
    rw [Int32.le_iff_toInt_le] at h
    simp at h
    omega
theorem lnk (x : Int32) : x.toInt = Lean.Grind.ToInt.toInt x := rfl
theorem vpX (x : Int32) (n : Nat) : vp_in x n = (0 ≤ Lean.Grind.ToInt.toInt x ∧ Lean.Grind.ToInt.toInt x < n) := propext vp_in_iff
theorem nIX (n : Nat) (h : n < 2147483648) : Lean.Grind.ToInt.toInt (nI n) = (n : Int) := nI_toInt h
theorem nIc (n : Nat) (h : n < 2147483648) : (nI n).toNatClampNeg = n := nI_clamp h
theorem tncA (x y : Int32) (h : 0 ≤ x) (h2 : 0 ≤ y) (h3 : x < 1000000) (h4 : y < 1000000) : (x + y).toNatClampNeg = x.toNatClampNeg + y.toNatClampNeg := by
  have : 0 ≤ x + y := by grind
  have e : Lean.Grind.ToInt.toInt (x + y) = Lean.Grind.ToInt.toInt x + Lean.Grind.ToInt.toInt y := by
    show (x + y).toInt = x.toInt + y.toInt
    rw [Int32.le_iff_toInt_le] at h h2
    rw [Int32.lt_iff_toInt_lt] at h3 h4
    simp at h h2 h3 h4
    rw [Int32.toInt_add]
    rw [Int.bmod_eq_of_le] <;> omega
  have := tnc (x + y); have := tnc x; have := tnc y
  rw [if_pos (by assumption)] at *
  omega
theorem tncS (x y : Int32) (h : 0 ≤ y) (h2 : y ≤ x) : (x - y).toNatClampNeg = x.toNatClampNeg - y.toNatClampNeg := by
  have h5 : 0 ≤ x - y := by grind
  have h6 : 0 ≤ x := by grind
  have e : Lean.Grind.ToInt.toInt (x - y) = Lean.Grind.ToInt.toInt x - Lean.Grind.ToInt.toInt y := by
    show (x - y).toInt = x.toInt - y.toInt
    rw [Int32.le_iff_toInt_le] at h h2
    have := x.toInt_lt; have := y.toInt_lt
    simp at h h2
    rw [Int32.toInt_sub]
    rw [Int.bmod_eq_of_le] <;> omega
  have q1 := tnc (x - y); have q2 := tnc x; have q3 := tnc y
  rw [if_pos h5] at q1; rw [if_pos h6] at q2; rw [if_pos h] at q3
  omega
theorem tn0 : (0 : Int32).toNatClampNeg = 0 := rfl
theorem tn1 : (1 : Int32).toNatClampNeg = 1 := rfl
theorem tn2 : (2 : Int32).toNatClampNeg = 2 := rfl
theorem tn3 : (3 : Int32).toNatClampNeg = 3 := rfl
theorem tnn1 : (-1 : Int32).toNatClampNeg = 0 := rfl
theorem l56 (n k : Nat) : ([5, 6, 7, 8, 9, 10] : List Nat)[n]? = some k → n < 6 ∧ k = 5 + n := by
  intro h
  match n, h with
  | 0, h => exact ⟨by decide, by simpa using h.symm⟩
  | 1, h => exact ⟨by decide, by simpa using h.symm⟩
  | 2, h => exact ⟨by decide, by simpa using h.symm⟩
  | 3, h => exact ⟨by decide, by simpa using h.symm⟩
  | 4, h => exact ⟨by decide, by simpa using h.symm⟩
  | 5, h => exact ⟨by decide, by simpa using h.symm⟩
  | n + 6, h => simp at h
theorem Fx {f g : Fn} (h : ∀ a b, f a b = g a b) : f = g := funext fun a => funext fun b => h a b

theorem inG (f : Fn) (x lo hi : Int32) (l h : Int64) (e1 : lo.toInt64 = l) (e2 : hi.toInt64 = h) : Val_X9_in f x.toInt64 l h = if lo ≤ x ∧ x ≤ hi then 1 else 0 := by
  subst e1 e2
  have w : ∀ a b : Int32, (a.toInt64 ≤ b.toInt64) = (a ≤ b) := fun a b => propext (by rw [Int64.le_iff_toInt_le, Int32.le_iff_toInt_le, Int32.toInt_toInt64, Int32.toInt_toInt64])
  by_cases h : lo ≤ x ∧ x ≤ hi
  · rw [if_pos h]; exact if_pos ⟨by rw [w]; exact h.1, by rw [w]; exact h.2⟩
  · rw [if_neg h]; exact if_neg (fun q => h ⟨by have := q.1; rwa [w] at this, by have := q.2; rwa [w] at this⟩)
theorem in_m99_299 (f : Fn) (x : Int32) : Val_X9_in f x.toInt64 (-99 : Int64) (299 : Int64) = if -99 ≤ x ∧ x ≤ 299 then 1 else 0 := inG f x (-99) 299 _ _ (by decide) (by decide)
theorem in_0_1 (f : Fn) (x : Int32) : Val_X9_in f x.toInt64 (0 : Int64) (1 : Int64) = if 0 ≤ x ∧ x ≤ 1 then 1 else 0 := inG f x (0) 1 _ _ (by decide) (by decide)
theorem in_0_19999 (f : Fn) (x : Int32) : Val_X9_in f x.toInt64 (0 : Int64) (19999 : Int64) = if 0 ≤ x ∧ x ≤ 19999 then 1 else 0 := inG f x (0) 19999 _ _ (by decide) (by decide)
theorem in_0_2 (f : Fn) (x : Int32) : Val_X9_in f x.toInt64 (0 : Int64) (2 : Int64) = if 0 ≤ x ∧ x ≤ 2 then 1 else 0 := inG f x (0) 2 _ _ (by decide) (by decide)
theorem in_0_200 (f : Fn) (x : Int32) : Val_X9_in f x.toInt64 (0 : Int64) (200 : Int64) = if 0 ≤ x ∧ x ≤ 200 then 1 else 0 := inG f x (0) 200 _ _ (by decide) (by decide)
theorem in_0_3 (f : Fn) (x : Int32) : Val_X9_in f x.toInt64 (0 : Int64) (3 : Int64) = if 0 ≤ x ∧ x ≤ 3 then 1 else 0 := inG f x (0) 3 _ _ (by decide) (by decide)
theorem in_0_30 (f : Fn) (x : Int32) : Val_X9_in f x.toInt64 (0 : Int64) (30 : Int64) = if 0 ≤ x ∧ x ≤ 30 then 1 else 0 := inG f x (0) 30 _ _ (by decide) (by decide)
theorem in_0_4 (f : Fn) (x : Int32) : Val_X9_in f x.toInt64 (0 : Int64) (4 : Int64) = if 0 ≤ x ∧ x ≤ 4 then 1 else 0 := inG f x (0) 4 _ _ (by decide) (by decide)
theorem in_0_6 (f : Fn) (x : Int32) : Val_X9_in f x.toInt64 (0 : Int64) (6 : Int64) = if 0 ≤ x ∧ x ≤ 6 then 1 else 0 := inG f x (0) 6 _ _ (by decide) (by decide)
theorem in_0_60 (f : Fn) (x : Int32) : Val_X9_in f x.toInt64 (0 : Int64) (60 : Int64) = if 0 ≤ x ∧ x ≤ 60 then 1 else 0 := inG f x (0) 60 _ _ (by decide) (by decide)
theorem in_0_69 (f : Fn) (x : Int32) : Val_X9_in f x.toInt64 (0 : Int64) (69 : Int64) = if 0 ≤ x ∧ x ≤ 69 then 1 else 0 := inG f x (0) 69 _ _ (by decide) (by decide)
theorem in_0_9 (f : Fn) (x : Int32) : Val_X9_in f x.toInt64 (0 : Int64) (9 : Int64) = if 0 ≤ x ∧ x ≤ 9 then 1 else 0 := inG f x (0) 9 _ _ (by decide) (by decide)
theorem in_0_99 (f : Fn) (x : Int32) : Val_X9_in f x.toInt64 (0 : Int64) (99 : Int64) = if 0 ≤ x ∧ x ≤ 99 then 1 else 0 := inG f x (0) 99 _ _ (by decide) (by decide)
theorem in_1_200 (f : Fn) (x : Int32) : Val_X9_in f x.toInt64 (1 : Int64) (200 : Int64) = if 1 ≤ x ∧ x ≤ 200 then 1 else 0 := inG f x (1) 200 _ _ (by decide) (by decide)
theorem in_1_3 (f : Fn) (x : Int32) : Val_X9_in f x.toInt64 (1 : Int64) (3 : Int64) = if 1 ≤ x ∧ x ≤ 3 then 1 else 0 := inG f x (1) 3 _ _ (by decide) (by decide)
theorem in_1_40 (f : Fn) (x : Int32) : Val_X9_in f x.toInt64 (1 : Int64) (40 : Int64) = if 1 ≤ x ∧ x ≤ 40 then 1 else 0 := inG f x (1) 40 _ _ (by decide) (by decide)
theorem in_1_5 (f : Fn) (x : Int32) : Val_X9_in f x.toInt64 (1 : Int64) (5 : Int64) = if 1 ≤ x ∧ x ≤ 5 then 1 else 0 := inG f x (1) 5 _ _ (by decide) (by decide)
theorem in_1_60 (f : Fn) (x : Int32) : Val_X9_in f x.toInt64 (1 : Int64) (60 : Int64) = if 1 ≤ x ∧ x ≤ 60 then 1 else 0 := inG f x (1) 60 _ _ (by decide) (by decide)
theorem in_1_8 (f : Fn) (x : Int32) : Val_X9_in f x.toInt64 (1 : Int64) (8 : Int64) = if 1 ≤ x ∧ x ≤ 8 then 1 else 0 := inG f x (1) 8 _ _ (by decide) (by decide)
theorem in_4_40 (f : Fn) (x : Int32) : Val_X9_in f x.toInt64 (4 : Int64) (40 : Int64) = if 4 ≤ x ∧ x ≤ 40 then 1 else 0 := inG f x (4) 40 _ _ (by decide) (by decide)
theorem in_0e (f : Fn) (x y : Int32) : Val_X9_in f x.toInt64 (0 : Int64) y.toInt64 = if 0 ≤ x ∧ x ≤ y then 1 else 0 := inG f x 0 y _ _ (by decide) rfl
theorem vp1 (x : Int32) : vp_in x 1 = (0 ≤ x ∧ x < 1) := by
  apply propext; rw [vp_in_iff, Int32.le_iff_toInt_le, Int32.lt_iff_toInt_lt]; simp
theorem vp2 (x : Int32) : vp_in x 2 = (0 ≤ x ∧ x < 2) := by
  apply propext; rw [vp_in_iff, Int32.le_iff_toInt_le, Int32.lt_iff_toInt_lt]; simp
theorem vp3 (x : Int32) : vp_in x 3 = (0 ≤ x ∧ x < 3) := by
  apply propext; rw [vp_in_iff, Int32.le_iff_toInt_le, Int32.lt_iff_toInt_lt]; simp
theorem vp4 (x : Int32) : vp_in x 4 = (0 ≤ x ∧ x < 4) := by
  apply propext; rw [vp_in_iff, Int32.le_iff_toInt_le, Int32.lt_iff_toInt_lt]; simp
theorem vp5 (x : Int32) : vp_in x 5 = (0 ≤ x ∧ x < 5) := by
  apply propext; rw [vp_in_iff, Int32.le_iff_toInt_le, Int32.lt_iff_toInt_lt]; simp
theorem vp6 (x : Int32) : vp_in x 6 = (0 ≤ x ∧ x < 6) := by
  apply propext; rw [vp_in_iff, Int32.le_iff_toInt_le, Int32.lt_iff_toInt_lt]; simp
theorem vp20 (x : Int32) : vp_in x 20 = (0 ≤ x ∧ x < 20) := by
  apply propext; rw [vp_in_iff, Int32.le_iff_toInt_le, Int32.lt_iff_toInt_lt]; simp
theorem vp40 (x : Int32) : vp_in x 40 = (0 ≤ x ∧ x < 40) := by
  apply propext; rw [vp_in_iff, Int32.le_iff_toInt_le, Int32.lt_iff_toInt_lt]; simp
theorem vp50 (x : Int32) : vp_in x 50 = (0 ≤ x ∧ x < 50) := by
  apply propext; rw [vp_in_iff, Int32.le_iff_toInt_le, Int32.lt_iff_toInt_lt]; simp
theorem vp60 (x : Int32) : vp_in x 60 = (0 ≤ x ∧ x < 60) := by
  apply propext; rw [vp_in_iff, Int32.le_iff_toInt_le, Int32.lt_iff_toInt_lt]; simp
theorem vp160 (x : Int32) : vp_in x 160 = (0 ≤ x ∧ x < 160) := by
  apply propext; rw [vp_in_iff, Int32.le_iff_toInt_le, Int32.lt_iff_toInt_lt]; simp
theorem vp264 (x : Int32) : vp_in x 264 = (0 ≤ x ∧ x < 264) := by
  apply propext; rw [vp_in_iff, Int32.le_iff_toInt_le, Int32.lt_iff_toInt_lt]; simp
theorem tn4 : (4 : Int32).toNatClampNeg = 4 := by decide
theorem tn5 : (5 : Int32).toNatClampNeg = 5 := by decide
theorem tn6 : (6 : Int32).toNatClampNeg = 6 := by decide
theorem tn7 : (7 : Int32).toNatClampNeg = 7 := by decide
theorem tn8 : (8 : Int32).toNatClampNeg = 8 := by decide
theorem tn9 : (9 : Int32).toNatClampNeg = 9 := by decide
theorem tn10 : (10 : Int32).toNatClampNeg = 10 := by decide
theorem tn12 : (12 : Int32).toNatClampNeg = 12 := by decide
theorem tn18 : (18 : Int32).toNatClampNeg = 18 := by decide
theorem tn40 : (40 : Int32).toNatClampNeg = 40 := by decide
theorem tn50 : (50 : Int32).toNatClampNeg = 50 := by decide
theorem tn60 : (60 : Int32).toNatClampNeg = 60 := by decide
theorem tn90 : (90 : Int32).toNatClampNeg = 90 := by decide
theorem tn92 : (92 : Int32).toNatClampNeg = 92 := by decide
theorem tn112 : (112 : Int32).toNatClampNeg = 112 := by decide
theorem tn212 : (212 : Int32).toNatClampNeg = 212 := by decide
theorem ni0 : nI 0 = 0 := by decide
theorem ni1 : nI 1 = 1 := by decide
theorem ni2 : nI 2 = 2 := by decide
theorem ni3 : nI 3 = 3 := by decide
theorem ni4 : nI 4 = 4 := by decide
theorem ni5 : nI 5 = 5 := by decide
theorem ni6 : nI 6 = 6 := by decide
theorem ni7 : nI 7 = 7 := by decide
theorem tncM (c x : Int32) (h : 0 ≤ x) (h2 : x < 20000) (h3 : 0 ≤ c) (h4 : c < 1000) : (c * x).toNatClampNeg = c.toNatClampNeg * x.toNatClampNeg := by
  rw [Int32.le_iff_toInt_le] at h h3
  rw [Int32.lt_iff_toInt_lt] at h2 h4
  simp at h h2 h3 h4
  have e : (c * x).toInt = c.toInt * x.toInt := by
    have l : c.toInt * x.toInt ≤ 1000 * 20000 := Int.mul_le_mul (by omega) (by omega) h (by omega)
    have l2 : 0 ≤ c.toInt * x.toInt := Int.mul_nonneg h3 h
    rw [Int32.toInt_mul, Int.bmod_eq_of_le] <;> omega
  show (c * x).toInt.toNat = c.toInt.toNat * x.toInt.toNat
  rw [e, Int.toNat_mul h3 h]
theorem er1 (g : Fn) : er g 1 = (-1000000000 - 1, up2 g 3 1 (g 3 1 + 1)) := by simp only [er, ni1]
theorem er2 (g : Fn) : er g 2 = (-1000000000 - 2, up2 g 3 2 (g 3 2 + 1)) := by simp only [er, ni2]
theorem er3 (g : Fn) : er g 3 = (-1000000000 - 3, up2 g 3 3 (g 3 3 + 1)) := by simp only [er, ni3]
theorem er4 (g : Fn) : er g 4 = (-1000000000 - 4, up2 g 3 4 (g 3 4 + 1)) := by simp only [er, ni4]
theorem er5 (g : Fn) : er g 5 = (-1000000000 - 5, up2 g 3 5 (g 3 5 + 1)) := by simp only [er, ni5]

theorem nIb {x : Int32} {n N : Nat} (h : n ≤ N) (hN : N < 2147483648) (e : x = nI n) : 0 ≤ x ∧ x ≤ nI N := by
  subst e
  exact ⟨nI_pos' (by omega), nI_le h hN⟩
theorem dF1 {d : Nat → Int32} (h : dOK d) : swOK d 0 ∧ swOK d 1 ∧ txOK d 0 ∧ txOK d 1 := ⟨h.1, h.2.1, h.2.2.1, h.2.2.2.1⟩
theorem dF2 {d : Nat → Int32} (h : dOK d) : (0 ≤ d 0 ∧ d 0 ≤ 6) ∧ (0 ≤ d 1 ∧ d 1 ≤ 9999) ∧ (0 ≤ d 5 ∧ d 5 ≤ 200) ∧ (0 ≤ d 6 ∧ d 6 ≤ 30) ∧ (-99 ≤ d 7 ∧ d 7 ≤ 299) ∧ (0 ≤ d 9 ∧ d 9 ≤ 50) ∧ (0 ≤ d 10 ∧ d 10 ≤ 20) ∧ (0 ≤ d 2 ∧ d 2 ≤ 9999) ∧ (0 ≤ d 3 ∧ d 3 ≤ 9999) ∧ (0 ≤ d 4 ∧ d 4 ≤ 99999) := by
  obtain ⟨-, -, -, -, ⟨n0, a0, b0, -⟩, ⟨n1, a1, b1⟩, ⟨n2, a2, b2⟩, ⟨n3, a3, b3⟩, h7, ⟨n4, a4, b4⟩, ⟨n5, a5, b5⟩, ⟨n6, a6, b6⟩, ⟨n7, a7, b7⟩, ⟨n8, a8, b8⟩, -⟩ := h
  exact ⟨nIb a0 (by decide) b0, nIb a1 (by decide) b1, nIb a2 (by decide) b2, nIb a3 (by decide) b3, h7, nIb a4 (by decide) b4, nIb a5 (by decide) b5, nIb a6 (by decide) b6, nIb a7 (by decide) b7, nIb a8 (by decide) b8⟩
theorem dF3 {d : Nat → Int32} (h : dOK d) (i : Nat) (hi : nI i < d 0) (h6 : i < 6) : flOK d i := by
  obtain ⟨-, -, -, -, ⟨n0, a0, b0, c⟩, -⟩ := h
  refine c i ?_
  rw [b0, nI_ltI (by omega) (by omega)] at hi
  exact hi
theorem swF {d : Nat → Int32} {s : Nat} (h : swOK d s) : (4 ≤ d (12 + 3 * s) ∧ d (12 + 3 * s) ≤ 40) ∧ (1 ≤ d (12 + 3 * s + 1) ∧ d (12 + 3 * s + 1) ≤ 60) ∧ 0 ≤ d (12 + 3 * s + 2) ∧ d (12 + 3 * s + 2) < d (12 + 3 * s) := by
  obtain ⟨p, w, x, h1, h2, h3, h4, h5, e1, e2, e3⟩ := h
  rw [e1, e2, e3]
  exact ⟨⟨nI_le (a := 4) h1 (by omega), nI_le (b := 40) h2 (by omega)⟩, ⟨nI_le (a := 1) h3 (by omega), nI_le (b := 60) h4 (by omega)⟩, nI_pos' (by omega), nI_lt h5 (by omega)⟩
theorem sw0 {d : Nat → Int32} (h : swOK d 0) : (4 ≤ d 12 ∧ d 12 ≤ 40) ∧ (1 ≤ d 13 ∧ d 13 ≤ 60) ∧ 0 ≤ d 14 ∧ d 14 < d 12 := swF h
theorem sw1 {d : Nat → Int32} (h : swOK d 1) : (4 ≤ d 15 ∧ d 15 ≤ 40) ∧ (1 ≤ d 16 ∧ d 16 ≤ 60) ∧ 0 ≤ d 17 ∧ d 17 < d 15 := swF h
theorem InvF {g : Fn} (h : InvM g) : dOK (g 1) ∧ g 0 10 = -1 := ⟨h.1, h.2.2.1⟩
theorem InvF0 {g : Fn} (h : InvM g) : (0 ≤ g 1 0 ∧ g 1 0 ≤ 6) := (dF2 h.1).1
theorem InvS {g : Fn} (h : InvM g) (i : Nat) (hi : i < 4) : (g 7 i = 0 ∨ g 7 i = 8 ∨ g 7 i = 16 ∨ g 7 i = 32) ∧ 0 ≤ g 8 i ∧ g 8 i ≤ 40 := by
  obtain ⟨-, -, -, hs, -⟩ := h
  obtain ⟨h1, n, h2, h3⟩ := hs i hi
  exact ⟨h1, nIb h2 (by decide) h3⟩
theorem InvT {g : Fn} (h : InvM g) : 0 ≤ g 0 20 ∧ g 0 20 ≤ 40 := by
  obtain ⟨-, -, -, -, n, h2, h3⟩ := h
  exact nIb h2 (by decide) h3
