theorem fst_n {p : Nat → Bool} : ∀ {n : Nat}, fst p n = none ↔ ∀ k, k < n → p k = false
  | 0 => ⟨fun _ k h => absurd h (Nat.not_lt_zero _), fun _ => rfl⟩
  | n + 1 => by
    constructor
    · intro h k hk
      rw [fst] at h
      cases e : fst p n with
      | some q => rw [e] at h; cases h
      | none =>
        rw [e] at h
        by_cases q : p n = true
        · rw [if_pos q] at h; cases h
        · by_cases e2 : k = n
          · rw [e2]; simpa using q
          · exact (fst_n.mp e) k (by omega)
    · intro h
      have e := (fst_n (p := p) (n := n)).mpr fun k hk => h k (by omega)
      rw [fst_s p n e, if_neg (by rw [h n (by omega)]; decide)]
theorem fst_sm {p : Nat → Bool} {k : Nat} : ∀ {n : Nat}, fst p n = some k → k < n ∧ p k = true ∧ fst p k = none
  | 0, h => by cases h
  | n + 1, h => by
    rw [fst] at h
    cases e : fst p n with
    | some q =>
      rw [e] at h
      cases h
      have := fst_sm e
      exact ⟨by omega, this.2⟩
    | none =>
      rw [e] at h
      by_cases q : p n = true
      · rw [if_pos q] at h; cases h; exact ⟨by omega, q, e⟩
      · rw [if_neg q] at h; cases h
theorem tncB (x : Int32) : x.toNatClampNeg < 2147483648 := by
  have := x.toInt_lt
  show x.toInt.toNat < _
  omega
theorem oI_lt {p : Nat → Bool} {n : Nat} (hn : n < 2147483648) : (oI (fst p n) < 0) = (fst p n = none) := by
  cases e : fst p n with
  | none => simp; decide
  | some k =>
    have := fst_lt e
    have h : ¬ nI k < 0 := nI_pos (by omega)
    simp only [oI_s, h, reduceCtorEq]
theorem hasN_n {V : Vw} {n : Nat} : hasN V n = false ↔ fst (canP V) n = none := by
  unfold hasN
  cases fst (canP V) n <;> simp
theorem hasN_s {V : Vw} {n : Nat} : hasN V n = true ↔ ¬ fst (canP V) n = none := by
  unfold hasN
  cases fst (canP V) n <;> simp
theorem swV3 (s : Nat → Int32) (t : Int32) : swV (tr3 s) t = swV s t := rfl
theorem TVx {a b : Fn} (h : eqT a b) : TV b = (tr3 (b 38), tr3 (b 39), qd4 (b 40), quin (a 1 2) (a 1 3) (a 1 4) (a 1 5) (b 37 6), lawC a) := by
  unfold TV lawC
  rw [h 1 (by decide) (by decide) (by decide) (by decide) (by decide) (by decide) (by decide), h 12 (by decide) (by decide) (by decide) (by decide) (by decide) (by decide) (by decide), h 13 (by decide) (by decide) (by decide) (by decide) (by decide) (by decide) (by decide), h 15 (by decide) (by decide) (by decide) (by decide) (by decide) (by decide) (by decide), h 16 (by decide) (by decide) (by decide) (by decide) (by decide) (by decide) (by decide)]
theorem eqTu {a b : Fn} (h : eqT a b) (k j : Nat) (v : Int32) (h1 : 37 ≤ k) (h2 : k ≤ 41) : eqT a (up2 b k j v) := fun x p q r s t u w => by rw [up2_row _ _ _ _ _ (by omega)]; exact h x p q r s t u w
theorem eqTr (a : Fn) : eqT a a := fun _ _ _ _ _ _ _ _ => rfl
/-- thinking with one number of its own changed: row k, slot s -/
def thP (k s : Nat) (a b : Fn) : Prop := eqT a b ∧ (∀ r, 38 ≤ r → r ≤ 40 → ∀ j, ¬ (r = k ∧ j = s) → b r j = a r j) ∧ (¬ k = 37 → b 37 6 = a 37 6)
theorem thP_0 (k s : Nat) (a : Fn) : thP k s a a := ⟨eqTr a, fun _ _ _ _ _ => rfl, fun _ => rfl⟩
theorem thP_u {k s : Nat} {a b c : Fn} {v : Int32} (h : thP k s a b) (h2 : TFr (up2 b k s v) c) (h3 : 37 ≤ k) (h4 : k ≤ 40) : thP k s a c := by
  refine ⟨fun x p q r s t u w => ?_, fun r h5 h6 j hj => ?_, fun hk => ?_⟩
  · rw [h2.1 x p q r, up2_row _ _ _ _ _ (by omega)]; exact h.1 x p q r s t u w
  · rw [h2.1 r (by omega) (by omega) (by omega), up2_ap]
    by_cases e : r = k
    · rw [if_pos e, if_neg (by omega)]; exact h.2.1 r h5 h6 j hj
    · rw [if_neg e]; exact h.2.1 r h5 h6 j hj
  · rw [h2.2.1, up2_row _ _ _ _ _ (by omega)]; exact h.2.2 hk
theorem TVw {a b : Fn} (h : thP 38 1 a b) (w : Int32) : TV (up2 b 38 1 w) = widV (TV a) w := by
  rw [TVx (eqTu h.1 38 1 w (by decide) (by decide))]
  have r := h.2.1
  simp only [tr3, qd4, up2_row _ 38 1 w 39 (by decide), up2_row _ 38 1 w 40 (by decide), up2_row _ 38 1 w 37 (by decide), up2_at, up2_off b w (show (0 : Nat) ≠ 1 by decide), up2_off b w (show (2 : Nat) ≠ 1 by decide), h.2.2 (by decide), r 38 (by decide) (by decide) 0 (by decide), r 38 (by decide) (by decide) 2 (by decide), r 39 (by decide) (by decide) 0 (by decide), r 39 (by decide) (by decide) 1 (by decide), r 39 (by decide) (by decide) 2 (by decide), r 40 (by decide) (by decide) 0 (by decide), r 40 (by decide) (by decide) 1 (by decide), r 40 (by decide) (by decide) 2 (by decide), r 40 (by decide) (by decide) 3 (by decide)]
  rfl
theorem TVp {a b : Fn} (h : thP 39 2 a b) (w : Int32) : TV (up2 b 39 2 w) = phaV (TV a) w := by
  rw [TVx (eqTu h.1 39 2 w (by decide) (by decide))]
  have r := h.2.1
  simp only [tr3, qd4, up2_row _ 39 2 w 38 (by decide), up2_row _ 39 2 w 40 (by decide), up2_row _ 39 2 w 37 (by decide), up2_at, up2_off b w (show (0 : Nat) ≠ 2 by decide), up2_off b w (show (1 : Nat) ≠ 2 by decide), h.2.2 (by decide), r 38 (by decide) (by decide) 0 (by decide), r 38 (by decide) (by decide) 1 (by decide), r 38 (by decide) (by decide) 2 (by decide), r 39 (by decide) (by decide) 0 (by decide), r 39 (by decide) (by decide) 1 (by decide), r 40 (by decide) (by decide) 0 (by decide), r 40 (by decide) (by decide) 1 (by decide), r 40 (by decide) (by decide) 2 (by decide), r 40 (by decide) (by decide) 3 (by decide)]
  rfl
theorem TVl {a b : Fn} (h : thP 37 6 a b) (w : Int32) : TV (up2 b 37 6 w) = lagV (TV a) w := by
  rw [TVx (eqTu h.1 37 6 w (by decide) (by decide))]
  have r := h.2.1
  simp only [tr3, qd4, up2_row _ 37 6 w 38 (by decide), up2_row _ 37 6 w 39 (by decide), up2_row _ 37 6 w 40 (by decide), up2_at, r 38 (by decide) (by decide) 0 (by decide), r 38 (by decide) (by decide) 1 (by decide), r 38 (by decide) (by decide) 2 (by decide), r 39 (by decide) (by decide) 0 (by decide), r 39 (by decide) (by decide) 1 (by decide), r 39 (by decide) (by decide) 2 (by decide), r 40 (by decide) (by decide) 0 (by decide), r 40 (by decide) (by decide) 1 (by decide), r 40 (by decide) (by decide) 2 (by decide), r 40 (by decide) (by decide) 3 (by decide)]
  rfl
theorem shKeep {o : Nat} (ho : isSh o) {a b : Fn} (h : eqT a b) : b o = a o ∧ b (o + 1) = a (o + 1) := by
  have hn := shNe ho.1
  exact ⟨h o (by omega) (by omega) (by omega) (by omega) (by omega) (by omega) (by omega), h (o + 1) (by omega) (by omega) (by omega) (by omega) (by omega) (by omega) (by omega)⟩
theorem lhpE (f : Fn) : Val_X5_leastHarmPlace f = (lstP (Val_X5_harmTogether f) 398).1 := by
  rw [Val_X5_leastHarmPlace]
  exact congrArg (fun c => (lstP c 398).1) (show (fun net => hsumI (harmI (f 40 0) (f 40 3)) net (rowL (f 41) (f 37 5).toNatClampNeg)) = Val_X5_harmTogether f from rfl)
