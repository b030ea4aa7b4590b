theorem TFrr (f : Fn) : TFr f f := ⟨fun _ _ _ _ => rfl, rfl, rfl⟩
theorem TFrt {a b c : Fn} (h : TFr a b) (h2 : TFr b c) : TFr a c := ⟨fun x p q r => (h2.1 x p q r).trans (h.1 x p q r), h2.2.1.trans h.2.1, h2.2.2.trans h.2.2⟩
theorem TVT {a b : Fn} (h : TFr a b) : TV b = TV a := by
  have r := h.1
  unfold TV lawC
  rw [r 38 (by decide) (by decide) (by decide), r 39 (by decide) (by decide) (by decide), r 40 (by decide) (by decide) (by decide), r 1 (by decide) (by decide) (by decide), r 12 (by decide) (by decide) (by decide), r 13 (by decide) (by decide) (by decide), r 15 (by decide) (by decide) (by decide), r 16 (by decide) (by decide) (by decide), h.2.1]
theorem TF1 {a b : Fn} (h : TFr a b) : b 1 = a 1 := h.1 1 (by decide) (by decide) (by decide)
theorem nItn {x : Int32} (h : 0 ≤ x) : nI x.toNatClampNeg = x := by
  obtain ⟨j, h1, h2⟩ := nI_of (x := x) (by rw [Int32.not_lt]; exact h)
  rw [h2, nI_clamp h1]
theorem tn1s {x y : Int32} (h : 0 ≤ x) (h2 : x < y) : (x + 1).toNatClampNeg = x.toNatClampNeg + 1 := by
  obtain ⟨j, h1, e⟩ := nI_of (x := x) (by rw [Int32.not_lt]; exact h)
  obtain ⟨i, h3, e2⟩ := nI_of (x := y) (by rw [Int32.not_lt]; exact Int32.le_trans h (Int32.le_of_lt h2))
  subst e e2
  rw [nI_ltI h1 h3] at h2
  rw [nI_1, nI_clamp h1, nI_clamp (by omega)]
theorem icC {f0 f f1 : Fn} {x r : Int32} (p : Post_X5_isCaught f (f 1 5 + x) r f1) (h : TFr f0 f) (hx : 0 ≤ x) : r = bI (canP (TV f0) x.toNatClampNeg) ∧ TFr f0 f1 ∧ f1 37 8 = vPl (TV f0) (vT (TV f0) (vW (TV f0) 3 + x)) := by
  obtain ⟨p1, p2, p3, p4⟩ := p
  rw [TVT h, TF1 h] at p1 p4
  refine ⟨?_, TFrt h p2, p4⟩
  rw [p1]
  unfold canP
  rw [nItn hx]
  rfl
theorem cas3 {f0 f f1 : Fn} {x r : Int32} (p : Post_X5_casesCaught f (f 1 5 + x) r f1) (h : TFr f0 f) (hx : 0 ≤ x) : r = casI (TV f0) (vW (TV f0) 3 + nI x.toNatClampNeg) ∧ TFr f0 f1 := by
  obtain ⟨p1, p2⟩ := p
  rw [TVT h, TF1 h] at p1
  refine ⟨?_, TFrt h p2⟩
  rw [p1, nItn hx]
  rfl
theorem cnt_s (p : Nat → Bool) (n : Nat) : cntI p (n + 1) = cntI p n + bI (p n) := rfl
theorem cnt_0 (p : Nat → Bool) : cntI p 0 = 0 := rfl
theorem fst_0 (p : Nat → Bool) : fst p 0 = none := rfl
theorem fst_s (p : Nat → Bool) (n : Nat) (h : fst p n = none) : fst p (n + 1) = if p n = true then some n else none := by rw [fst, h]
theorem fst_m {p : Nat → Bool} {k : Nat} : ∀ {n : Nat}, fst p (k + 1) = some k → k < n → fst p n = some k
  | 0, h, q => by omega
  | n + 1, h, q => by
    by_cases e : n = k
    · rw [e]; exact h
    · rw [fst, fst_m h (by omega)]
theorem fst_h {p : Nat → Bool} {k n : Nat} (h : fst p k = none) (q : p k = true) (hn : k < n) : fst p n = some k := fst_m (by rw [fst_s p k h, if_pos q]) hn
theorem oI_n : oI none = -1 := rfl
theorem oI_s (k : Nat) : oI (some k) = nI k := rfl
theorem bI_1 {b : Bool} (h : ¬ bI b = 0) : b = true := by
  rw [bI0] at h; exact Classical.not_not.mp h
theorem bI_0 {b : Bool} (h : bI b = 0) : b = false := by
  rw [bI0] at h; simpa using h
theorem bst_s (c : Nat → Int32) (n : Nat) : bst c (n + 1) = if (bst c n).2 < c n then (nI n, c n) else bst c n := rfl
theorem bst_0 (c : Nat → Int32) : bst c 0 = (0, -1) := rfl
theorem tn1e (x : Int32) (h : 0 ≤ x) (h2 : x < 2147483647) : (x + 1).toNatClampNeg = x.toNatClampNeg + 1 := tn1s h h2
theorem rowL_s (r : Nat → Int32) (n : Nat) : rowL r (n + 1) = rowL r n ++ [r n] := by simp [rowL, List.range_succ]
theorem rowL_0 (r : Nat → Int32) : rowL r 0 = [] := rfl
theorem hsum_s (h : Int32 → Int32) (net : Int32) (xs : List Int32) (x : Int32) : hsumI h net (xs ++ [x]) = hsumI h net xs + h (absI (x - net)) := by simp [hsumI, List.foldl_append]
theorem hsum_0 (h : Int32 → Int32) (net : Int32) : hsumI h net [] = 0 := rfl
theorem lst_s (c : Int32 → Int32) (n : Nat) : lstP c (n + 1) = if c (-99 + nI (n + 1)) < (lstP c n).2 then (-99 + nI (n + 1), c (-99 + nI (n + 1))) else lstP c n := rfl
theorem lst_0 (c : Int32 → Int32) : lstP c 0 = (-99, c (-99)) := rfl
theorem asT_s (V : Vw) (x : Nat → Int32) (n : Nat) : asT V x (n + 1) = (asT V x n && decide (vOff V (vT V (vW V 3 + nI n)) 0 = x n)) := rfl
theorem asT_0 (V : Vw) (x : Nat → Int32) : asT V x 0 = true := rfl
theorem lst_x (c : Int32 → Int32) (x : Int32) (h : -98 ≤ x) (h2 : x ≤ 299) : lstP c (x + 1 + 98).toNatClampNeg = if c x < (lstP c (x + 98).toNatClampNeg).2 then (x, c x) else lstP c (x + 98).toNatClampNeg := by
  have e : (x + 1 + 98).toNatClampNeg = (x + 98).toNatClampNeg + 1 := by
    have : x + 1 + 98 = (x + 98) + 1 := by grind
    rw [this]; exact tn1e _ (by grind) (by grind)
  have e2 : -99 + nI ((x + 98).toNatClampNeg + 1) = x := by
    rw [← nI_1, nItn (by grind)]; grind
  rw [e, lst_s, e2]
theorem shNe {o : Nat} (h : layC[o]? = some (.inl (3, [o + 1 + 2, 0, 0]))) : o = 48 ∨ o = 50 ∨ o = 52 ∨ o = 54 := by
  have l : o < 57 := by
    rcases Nat.lt_or_ge o 57 with q | q
    · exact q
    · rw [List.getElem?_eq_none (show layC.length ≤ o from q)] at h; cases h
  have a : ∀ o, o < 57 → (layC.map (fun c => match c with | .inl (3, _) => true | _ => false))[o]? = some true → o = 48 ∨ o = 50 ∨ o = 52 ∨ o = 54 := by decide +kernel
  refine a o l ?_
  rw [List.getElem?_map, h]
  rfl
theorem vW5 (f : Fn) : vW (TV f) 0 = f 1 2 ∧ vW (TV f) 3 = f 1 5 ∧ vW (TV f) 4 = f 37 6 ∧ swV (vF (TV f)) = swV (f 39) := ⟨rfl, rfl, rfl, rfl⟩
theorem flyC {f0 f f1 : Fn} {x : Int32} (p : Post_X5_fly f (f 1 5 + x) 0 f1) (h : TFr f0 f) : TFr f0 f1 ∧ Val_X5_off f1 0 = vOff (TV f0) (vT (TV f0) (vW (TV f0) 3 + x)) 0 := by
  obtain ⟨p1, p2, p3⟩ := p
  have z : ∀ a : Int32, a + 0 = a := fun a => by grind
  rw [TVT h, TF1 h, h.2.1, z] at p2 p3
  have h1 := TFrt h p1
  refine ⟨h1, ?_⟩
  unfold Val_X5_off vOff vT
  rw [p2, p3, TF1 h1, h1.1 39 (by decide) (by decide) (by decide)]
  rfl
theorem asT_at {V : Vw} {x : Nat → Int32} {k : Nat} : ∀ {n : Nat}, asT V x n = true → k < n → vOff V (vT V (vW V 3 + nI k)) 0 = x k
  | 0, h, q => by omega
  | n + 1, h, q => by
    rw [asT_s, Bool.and_eq_true, decide_eq_true_eq] at h
    by_cases e : k = n
    · rw [e]; exact h.2
    · exact asT_at h.1 (by omega)
theorem asT_a2 {V : Vw} {x : Nat → Int32} {k n : Nat} (h : asT V x n = true) (q : k < n) (_ : asT V x k = true) : vOff V (vT V (vW V 3 + nI k)) 0 = x k := asT_at h q
theorem tncLe {x y : Int32} (h : x ≤ y) : x.toNatClampNeg ≤ y.toNatClampNeg := by
  have := tnc x; have := tnc y
  grind
