theorem trA_nil (f : Fn) (o k row : Nat) : trA f f o k row [] := fun t h _ => ⟨h, fun _ _ => rfl, fun j hj => absurd hj (Nat.not_lt_zero _), fun _ _ => rfl⟩
theorem trA_app {f f1 f2 : Fn} {o k row : Nat} {xs ys : List Int32} (h : trA f f1 o k row xs) (h2 : trA f1 f2 o k row ys) : trA f f2 o k row (xs ++ ys) := by
  intro t e l
  rw [List.length_append] at l
  obtain ⟨a1, a2, a3, a4⟩ := h t e (by omega)
  obtain ⟨b1, b2, b3, b4⟩ := h2 (t + xs.length) a1 (by omega)
  refine ⟨by rw [b1, List.length_append, Nat.add_assoc], fun j hj => (b2 j (by omega)).trans (a2 j hj), fun j hj => ?_, fun j hj => ?_⟩
  rotate_left
  · rw [List.length_append] at hj
    exact (b4 j (by omega)).trans (a4 j (by omega))
  rw [List.length_append] at hj
  by_cases q : j < xs.length
  · rw [b2 (t + j) (by omega), a3 j q, List.getD_eq_getElem?_getD, List.getD_eq_getElem?_getD, List.getElem?_append_left q]
  · have := b3 (j - xs.length) (by omega)
    rw [show t + xs.length + (j - xs.length) = t + j by omega] at this
    rw [this, List.getD_eq_getElem?_getD, List.getD_eq_getElem?_getD, List.getElem?_append_right (by omega)]
theorem trA_1 {f : Fn} {o k row t : Nat} {a : Int32} (h : f o k = nI t) (ht : t < 40) (hr : ¬ row = o) : trA f (up2 (up2 f row t a) o k (nI (t + 1))) o k row [a] := by
  intro t2 e l
  have : t2 = t := by
    rw [h, nI_eq (by omega) (by simp at l; omega)] at e; exact e.symm
  subst this
  refine ⟨up2_at _ _ _ _, fun j hj => ?_, fun j hj => ?_, fun j hj => ?_⟩
  · rw [up2_row _ _ _ _ _ hr, up2_off _ _ (by omega)]
  · have : j = 0 := by simp at hj; omega
    subst this
    rw [up2_row _ _ _ _ _ hr, Nat.add_zero, up2_at]; rfl
  · rw [up2_row _ _ _ _ _ hr, up2_off _ _ (by simp at hj; omega)]
theorem vo_s (K n m : Int32) (d : Nat) (act kd x : Int32) : vo K n m (d + 1) act kd x =
    if act = 0 then (if kd = 0 then (x + n, [10]) else if kd = 1 then ((vo K n m d 0 (kAb kd) x).1 * 3, 20 :: (vo K n m d 0 (kAb kd) x).2) else vo K n m d 0 (kAb kd) x)
    else if act = 1 then
      (if kd = 0 then ((vo K n m d 0 K x).1 * 2, 11 :: (vo K n m d 0 K x).2)
       else if kd = 2 then ((vo K n m d 1 (kAb kd) x).1 - (vo K n m d 2 K 1).1, 30 :: ((vo K n m d 1 (kAb kd) x).2 ++ (vo K n m d 2 K 1).2))
       else if kd = 5 then ((vo K n m d 1 (kAb kd) (x + 1)).1, 60 :: (vo K n m d 1 (kAb kd) (x + 1)).2)
       else vo K n m d 1 (kAb kd) x)
    else if act = 2 then
      (if kd = 0 then (x - m, [12]) else if kd = 3 then (-(vo K n m d 2 (kAb kd) x).1, 40 :: (vo K n m d 2 (kAb kd) x).2)
       else if kd = 6 then ((vo K n m d 2 (kAb kd) x).1 ^^^ n, 70 :: (vo K n m d 2 (kAb kd) x).2) else vo K n m d 2 (kAb kd) x)
    else
      (if kd = 0 then ((vo K n m d 1 K x).1 ^^^ (vo K n m d 2 K x).1, 13 :: ((vo K n m d 1 K x).2 ++ (vo K n m d 2 K x).2))
       else if kd = 4 then ((vo K n m d 3 (kAb kd) x).1 - (vo K n m d 0 K 2).1, 50 :: ((vo K n m d 3 (kAb kd) x).2 ++ (vo K n m d 0 K 2).2))
       else if kd = 6 then ((vo K n m d 1 K x).1 - (vo K n m d 3 (kAb kd) x).1, 71 :: ((vo K n m d 1 K x).2 ++ (vo K n m d 3 (kAb kd) x).2))
       else vo K n m d 3 (kAb kd) x) := rfl
theorem klv2 {K : Int32} (h : kOK K) : klv K ≤ 2 := by
  rcases h with h | h | h | h | h | h | h <;> subst h <;> decide
theorem vlbM {a : Int32} {l l2 : Nat} (h : l ≤ l2) (h2 : l2 ≤ 2) : vlb a l ≤ vlb a l2 := by
  unfold vlb
  split
  · omega
  · split
    · split <;> (try split) <;> (try split) <;> (try split) <;> omega
    · split <;> (try split) <;> omega
theorem abvK {k : Int32} (h : kOK k) (h0 : ¬ k = 0) : abvI k = kAb k ∧ kOK (kAb k) ∧ klv (kAb k) + 1 ≤ klv k := by
  rcases h with h | h | h | h | h | h | h <;> subst h
  · exact absurd rfl h0
  all_goals exact ⟨by decide, by unfold kOK; decide, by decide⟩
theorem kk0 : kOK 0 := Or.inl rfl

theorem vo_00 (K n m : Int32) (d : Nat) (x : Int32) : vo K n m (d + 1) 0 0 x = (x + n, [10]) := rfl
theorem vo_01 (K n m : Int32) (d : Nat) (x : Int32) : vo K n m (d + 1) 0 1 x = ((vo K n m d 0 0 x).1 * 3, 20 :: (vo K n m d 0 0 x).2) := rfl
theorem vo_02 (K n m : Int32) (d : Nat) (x : Int32) : vo K n m (d + 1) 0 2 x = (vo K n m d 0 0 x) := rfl
theorem vo_03 (K n m : Int32) (d : Nat) (x : Int32) : vo K n m (d + 1) 0 3 x = (vo K n m d 0 0 x) := rfl
theorem vo_04 (K n m : Int32) (d : Nat) (x : Int32) : vo K n m (d + 1) 0 4 x = (vo K n m d 0 1 x) := rfl
theorem vo_05 (K n m : Int32) (d : Nat) (x : Int32) : vo K n m (d + 1) 0 5 x = (vo K n m d 0 2 x) := rfl
theorem vo_06 (K n m : Int32) (d : Nat) (x : Int32) : vo K n m (d + 1) 0 6 x = (vo K n m d 0 3 x) := rfl
theorem vo_10 (K n m : Int32) (d : Nat) (x : Int32) : vo K n m (d + 1) 1 0 x = ((vo K n m d 0 K x).1 * 2, 11 :: (vo K n m d 0 K x).2) := rfl
theorem vo_11 (K n m : Int32) (d : Nat) (x : Int32) : vo K n m (d + 1) 1 1 x = (vo K n m d 1 0 x) := rfl
theorem vo_12 (K n m : Int32) (d : Nat) (x : Int32) : vo K n m (d + 1) 1 2 x = ((vo K n m d 1 0 x).1 - (vo K n m d 2 K 1).1, 30 :: ((vo K n m d 1 0 x).2 ++ (vo K n m d 2 K 1).2)) := rfl
theorem vo_13 (K n m : Int32) (d : Nat) (x : Int32) : vo K n m (d + 1) 1 3 x = (vo K n m d 1 0 x) := rfl
theorem vo_14 (K n m : Int32) (d : Nat) (x : Int32) : vo K n m (d + 1) 1 4 x = (vo K n m d 1 1 x) := rfl
theorem vo_15 (K n m : Int32) (d : Nat) (x : Int32) : vo K n m (d + 1) 1 5 x = ((vo K n m d 1 2 (x + 1)).1, 60 :: (vo K n m d 1 2 (x + 1)).2) := rfl
theorem vo_16 (K n m : Int32) (d : Nat) (x : Int32) : vo K n m (d + 1) 1 6 x = (vo K n m d 1 3 x) := rfl
theorem vo_20 (K n m : Int32) (d : Nat) (x : Int32) : vo K n m (d + 1) 2 0 x = (x - m, [12]) := rfl
theorem vo_21 (K n m : Int32) (d : Nat) (x : Int32) : vo K n m (d + 1) 2 1 x = (vo K n m d 2 0 x) := rfl
theorem vo_22 (K n m : Int32) (d : Nat) (x : Int32) : vo K n m (d + 1) 2 2 x = (vo K n m d 2 0 x) := rfl
theorem vo_23 (K n m : Int32) (d : Nat) (x : Int32) : vo K n m (d + 1) 2 3 x = (-(vo K n m d 2 0 x).1, 40 :: (vo K n m d 2 0 x).2) := rfl
theorem vo_24 (K n m : Int32) (d : Nat) (x : Int32) : vo K n m (d + 1) 2 4 x = (vo K n m d 2 1 x) := rfl
theorem vo_25 (K n m : Int32) (d : Nat) (x : Int32) : vo K n m (d + 1) 2 5 x = (vo K n m d 2 2 x) := rfl
theorem vo_26 (K n m : Int32) (d : Nat) (x : Int32) : vo K n m (d + 1) 2 6 x = ((vo K n m d 2 3 x).1 ^^^ n, 70 :: (vo K n m d 2 3 x).2) := rfl
theorem vo_30 (K n m : Int32) (d : Nat) (x : Int32) : vo K n m (d + 1) 3 0 x = ((vo K n m d 1 K x).1 ^^^ (vo K n m d 2 K x).1, 13 :: ((vo K n m d 1 K x).2 ++ (vo K n m d 2 K x).2)) := rfl
theorem vo_31 (K n m : Int32) (d : Nat) (x : Int32) : vo K n m (d + 1) 3 1 x = (vo K n m d 3 0 x) := rfl
theorem vo_32 (K n m : Int32) (d : Nat) (x : Int32) : vo K n m (d + 1) 3 2 x = (vo K n m d 3 0 x) := rfl
theorem vo_33 (K n m : Int32) (d : Nat) (x : Int32) : vo K n m (d + 1) 3 3 x = (vo K n m d 3 0 x) := rfl
theorem vo_34 (K n m : Int32) (d : Nat) (x : Int32) : vo K n m (d + 1) 3 4 x = ((vo K n m d 3 1 x).1 - (vo K n m d 0 K 2).1, 50 :: ((vo K n m d 3 1 x).2 ++ (vo K n m d 0 K 2).2)) := rfl
theorem vo_35 (K n m : Int32) (d : Nat) (x : Int32) : vo K n m (d + 1) 3 5 x = (vo K n m d 3 2 x) := rfl
theorem vo_36 (K n m : Int32) (d : Nat) (x : Int32) : vo K n m (d + 1) 3 6 x = ((vo K n m d 1 K x).1 - (vo K n m d 3 3 x).1, 71 :: ((vo K n m d 1 K x).2 ++ (vo K n m d 3 3 x).2)) := rfl
theorem vo_len {K n m : Int32} (hK : kOK K) : ∀ d act kd x, actOK act → kOK kd → (vo K n m d act kd x).2.length ≤ vlb act (klv kd)
  | 0, act, kd, x, _, _ => Nat.zero_le _
  | d + 1, act, kd, x, ha, hk => by
    have ih := vo_len (n := n) (m := m) hK d
    have k2 := klv2 hK
    have A0 : actOK 0 := Or.inl rfl
    have A1 : actOK 1 := Or.inr (Or.inl rfl)
    have A2 : actOK 2 := Or.inr (Or.inr (Or.inl rfl))
    have A3 : actOK 3 := Or.inr (Or.inr (Or.inr rfl))
    have q0 : ∀ x, (vo K n m d 0 K x).2.length ≤ 3 := fun x => Nat.le_trans (ih 0 K x A0 hK) (vlbM (l2 := 2) k2 (by decide))
    have q1 : ∀ x, (vo K n m d 1 K x).2.length ≤ 9 := fun x => Nat.le_trans (ih 1 K x A1 hK) (vlbM (l2 := 2) k2 (by decide))
    have q2 : ∀ x, (vo K n m d 2 K x).2.length ≤ 3 := fun x => Nat.le_trans (ih 2 K x A2 hK) (vlbM (l2 := 2) k2 (by decide))
    rcases ha with ha | ha | ha | ha <;> rcases hk with hk | hk | hk | hk | hk | hk | hk <;> subst ha hk
    · rw [vo_00, show vlb 0 (klv 0) = 1 by decide]; skip; (try simp only [List.length_cons, List.length_append, List.length_nil]); omega
    · rw [vo_01, show vlb 0 (klv 1) = 2 by decide]; have := ih 0 0 x A0 (by unfold kOK; decide); rw [show vlb 0 (klv 0) = 1 by decide] at this; (try simp only [List.length_cons, List.length_append, List.length_nil]); omega
    · rw [vo_02, show vlb 0 (klv 2) = 2 by decide]; have := ih 0 0 x A0 (by unfold kOK; decide); rw [show vlb 0 (klv 0) = 1 by decide] at this; (try simp only [List.length_cons, List.length_append, List.length_nil]); omega
    · rw [vo_03, show vlb 0 (klv 3) = 2 by decide]; have := ih 0 0 x A0 (by unfold kOK; decide); rw [show vlb 0 (klv 0) = 1 by decide] at this; (try simp only [List.length_cons, List.length_append, List.length_nil]); omega
    · rw [vo_04, show vlb 0 (klv 4) = 3 by decide]; have := ih 0 1 x A0 (by unfold kOK; decide); rw [show vlb 0 (klv 1) = 2 by decide] at this; (try simp only [List.length_cons, List.length_append, List.length_nil]); omega
    · rw [vo_05, show vlb 0 (klv 5) = 3 by decide]; have := ih 0 2 x A0 (by unfold kOK; decide); rw [show vlb 0 (klv 2) = 2 by decide] at this; (try simp only [List.length_cons, List.length_append, List.length_nil]); omega
    · rw [vo_06, show vlb 0 (klv 6) = 3 by decide]; have := ih 0 3 x A0 (by unfold kOK; decide); rw [show vlb 0 (klv 3) = 2 by decide] at this; (try simp only [List.length_cons, List.length_append, List.length_nil]); omega
    · rw [vo_10, show vlb 1 (klv 0) = 4 by decide]; have := q0 x; (try simp only [List.length_cons, List.length_append, List.length_nil]); omega
    · rw [vo_11, show vlb 1 (klv 1) = 8 by decide]; have := ih 1 0 x A1 (by unfold kOK; decide); rw [show vlb 1 (klv 0) = 4 by decide] at this; (try simp only [List.length_cons, List.length_append, List.length_nil]); omega
    · rw [vo_12, show vlb 1 (klv 2) = 8 by decide]; have := ih 1 0 x A1 (by unfold kOK; decide); rw [show vlb 1 (klv 0) = 4 by decide] at this; have := q2 1; (try simp only [List.length_cons, List.length_append, List.length_nil]); omega
    · rw [vo_13, show vlb 1 (klv 3) = 8 by decide]; have := ih 1 0 x A1 (by unfold kOK; decide); rw [show vlb 1 (klv 0) = 4 by decide] at this; (try simp only [List.length_cons, List.length_append, List.length_nil]); omega
    · rw [vo_14, show vlb 1 (klv 4) = 9 by decide]; have := ih 1 1 x A1 (by unfold kOK; decide); rw [show vlb 1 (klv 1) = 8 by decide] at this; (try simp only [List.length_cons, List.length_append, List.length_nil]); omega
    · rw [vo_15, show vlb 1 (klv 5) = 9 by decide]; have := ih 1 2 (x + 1) A1 (by unfold kOK; decide); rw [show vlb 1 (klv 2) = 8 by decide] at this; (try simp only [List.length_cons, List.length_append, List.length_nil]); omega
    · rw [vo_16, show vlb 1 (klv 6) = 9 by decide]; have := ih 1 3 x A1 (by unfold kOK; decide); rw [show vlb 1 (klv 3) = 8 by decide] at this; (try simp only [List.length_cons, List.length_append, List.length_nil]); omega
    · rw [vo_20, show vlb 2 (klv 0) = 1 by decide]; skip; (try simp only [List.length_cons, List.length_append, List.length_nil]); omega
    · rw [vo_21, show vlb 2 (klv 1) = 2 by decide]; have := ih 2 0 x A2 (by unfold kOK; decide); rw [show vlb 2 (klv 0) = 1 by decide] at this; (try simp only [List.length_cons, List.length_append, List.length_nil]); omega
    · rw [vo_22, show vlb 2 (klv 2) = 2 by decide]; have := ih 2 0 x A2 (by unfold kOK; decide); rw [show vlb 2 (klv 0) = 1 by decide] at this; (try simp only [List.length_cons, List.length_append, List.length_nil]); omega
    · rw [vo_23, show vlb 2 (klv 3) = 2 by decide]; have := ih 2 0 x A2 (by unfold kOK; decide); rw [show vlb 2 (klv 0) = 1 by decide] at this; (try simp only [List.length_cons, List.length_append, List.length_nil]); omega
    · rw [vo_24, show vlb 2 (klv 4) = 3 by decide]; have := ih 2 1 x A2 (by unfold kOK; decide); rw [show vlb 2 (klv 1) = 2 by decide] at this; (try simp only [List.length_cons, List.length_append, List.length_nil]); omega
    · rw [vo_25, show vlb 2 (klv 5) = 3 by decide]; have := ih 2 2 x A2 (by unfold kOK; decide); rw [show vlb 2 (klv 2) = 2 by decide] at this; (try simp only [List.length_cons, List.length_append, List.length_nil]); omega
    · rw [vo_26, show vlb 2 (klv 6) = 3 by decide]; have := ih 2 3 x A2 (by unfold kOK; decide); rw [show vlb 2 (klv 3) = 2 by decide] at this; (try simp only [List.length_cons, List.length_append, List.length_nil]); omega
    · rw [vo_30, show vlb 3 (klv 0) = 13 by decide]; have := q1 x; have := q2 x; (try simp only [List.length_cons, List.length_append, List.length_nil]); omega
    · rw [vo_31, show vlb 3 (klv 1) = 13 by decide]; have := ih 3 0 x A3 (by unfold kOK; decide); rw [show vlb 3 (klv 0) = 13 by decide] at this; (try simp only [List.length_cons, List.length_append, List.length_nil]); omega
    · rw [vo_32, show vlb 3 (klv 2) = 13 by decide]; have := ih 3 0 x A3 (by unfold kOK; decide); rw [show vlb 3 (klv 0) = 13 by decide] at this; (try simp only [List.length_cons, List.length_append, List.length_nil]); omega
    · rw [vo_33, show vlb 3 (klv 3) = 13 by decide]; have := ih 3 0 x A3 (by unfold kOK; decide); rw [show vlb 3 (klv 0) = 13 by decide] at this; (try simp only [List.length_cons, List.length_append, List.length_nil]); omega
    · rw [vo_34, show vlb 3 (klv 4) = 23 by decide]; have := ih 3 1 x A3 (by unfold kOK; decide); rw [show vlb 3 (klv 1) = 13 by decide] at this; have := q0 2; (try simp only [List.length_cons, List.length_append, List.length_nil]); omega
    · rw [vo_35, show vlb 3 (klv 5) = 23 by decide]; have := ih 3 2 x A3 (by unfold kOK; decide); rw [show vlb 3 (klv 2) = 13 by decide] at this; (try simp only [List.length_cons, List.length_append, List.length_nil]); omega
    · rw [vo_36, show vlb 3 (klv 6) = 23 by decide]; have := q1 x; have := ih 3 3 x A3 (by unfold kOK; decide); rw [show vlb 3 (klv 3) = 13 by decide] at this; (try simp only [List.length_cons, List.length_append, List.length_nil]); omega
/-- what the reference's voices stand in -/
def voQ (f : Fn) (K n m : Int32) (t : Nat) : Prop := kOK K ∧ vp_in n 6 ∧ f 0 21 = n ∧ f 1 (fl4 (ix n)) = K ∧ f 1 (fl4 (ix n) + 1) = m ∧ f 0 20 = nI t
def voF (f f1 : Fn) : Prop := (∀ a, ¬ a = 0 → ¬ a = 6 → f1 a = f a) ∧ (∀ j, ¬ j = 20 → f1 0 j = f 0 j)
theorem voF_t {a b c : Fn} (h : voF a b) (h2 : voF b c) : voF a c := ⟨fun x p q => (h2.1 x p q).trans (h.1 x p q), fun j hj => (h2.2 j hj).trans (h.2 j hj)⟩
theorem voF_0 (a : Fn) : voF a a := ⟨fun _ _ _ => rfl, fun _ _ => rfl⟩
theorem voQF {f f1 : Fn} {K n m : Int32} {t t2 : Nat} (Q : voQ f K n m t) (F : voF f f1) (h : f1 0 20 = nI t2) : voQ f1 K n m t2 := by
  obtain ⟨q1, q2, q3, q4, q5, q6⟩ := Q
  have e := F.1 1 (by decide) (by decide)
  exact ⟨q1, q2, (F.2 21 (by decide)).trans q3, by rw [e]; exact q4, by rw [e]; exact q5, h⟩
theorem ranQ {f f3 : Fn} {K n m c : Int32} {t : Nat} (Q : voQ f K n m t) (ht : t < 40) (p : Post_X9_ran f c f3) : voQ f3 K n m (t + 1) ∧ voF f f3 ∧ trA f f3 0 20 6 [c] := by
  have h := Q.2.2.2.2.2
  unfold Post_X9_ran at p
  have l : f 0 20 < 40 := by rw [h]; exact nI_lt (b := 40) ht (by omega)
  rw [if_pos l, h, show ix (nI t) = t from nI_clamp (by omega), nI_1] at p
  subst p
  have F : voF f (up2 (up2 f 6 t c) 0 20 (nI (t + 1))) := ⟨fun a x y => by rw [up2_row _ _ _ _ _ x, up2_row _ _ _ _ _ y], fun j hj => by rw [up2_off _ _ hj, up2_row _ _ _ _ _ (by decide)]⟩
  exact ⟨voQF Q F (up2_at _ _ _ _), F, trA_1 h ht (by decide)⟩
theorem ranP {f : Fn} {K n m : Int32} {t : Nat} (Q : voQ f K n m t) (ht : t < 100) (c : Int32) : Pre_X9_ran f c := by
  unfold Pre_X9_ran
  rw [Q.2.2.2.2.2]; exact nI_pos (by omega)
theorem ownQ {f : Fn} {K n m : Int32} {t : Nat} (Q : voQ f K n m t) : Pre_X9_own f ∧ Val_X9_own f = K := by
  unfold Pre_X9_own Val_X9_own
  rw [Q.2.2.1]; exact ⟨Q.2.1, Q.2.2.2.1⟩
theorem ofQ {f : Fn} {K n m : Int32} {t : Nat} (Q : voQ f K n m t) : Pre_X9_of f (f 0 21) 1 ∧ Val_X9_of f (f 0 21) 1 = m := by
  unfold Pre_X9_of Val_X9_of
  rw [Q.2.2.1]; exact ⟨⟨Q.2.1, by unfold vp_in; decide⟩, Q.2.2.2.2.1⟩
theorem trLen {f f1 : Fn} {K n m : Int32} {t d act kd : Nat} {A B x : Int32} (Q : voQ f K n m t) (ha : actOK A) (hk : kOK B) (hb : t + vlb A (klv B) ≤ 40) (T : trA f f1 0 20 6 (vo K n m d A B x).2) : ∃ t2, f1 0 20 = nI t2 ∧ t2 ≤ t + vlb A (klv B) := by
  have l := vo_len (n := n) (m := m) Q.1 d A B x ha hk
  exact ⟨_, (T t Q.2.2.2.2.2 (by omega)).1, by omega⟩
theorem pr0 {f : Fn} {K n m kd x : Int32} {t : Nat} (Q : voQ f K n m t) (hk : kOK kd) (hb : t + vlb 0 (klv kd) ≤ 40) : Pre_X9_swingsBy f kd x := by
  unfold Pre_X9_swingsBy
  rw [Q.2.2.1, Q.2.2.2.1]
  exact ⟨hk, Q.2.1, Q.1, t, hb, Q.2.2.2.2.2⟩
theorem po0 {f f1 : Fn} {K n m kd x r : Int32} {t : Nat} (Q : voQ f K n m t) (hk : kOK kd) (hb : t + vlb 0 (klv kd) ≤ 40) (p : Post_X9_swingsBy f kd x r f1) : (∀ d : Nat, 3 * awt 0 + klv kd < d + 1 → r = (vo K n m (d + 2) 0 kd x).1 ∧ trA f f1 0 20 6 (vo K n m (d + 2) 0 kd x).2) ∧ voF f f1 ∧ ∃ t2, voQ f1 K n m t2 ∧ t2 ≤ t + vlb 0 (klv kd) := by
  unfold Post_X9_swingsBy at p
  rw [Q.2.2.1, Q.2.2.2.1, Q.2.2.2.2.1] at p
  have k2 := klv2 hk
  have aw : awt 0 ≤ 2 := by decide
  obtain ⟨t2, h1, h2⟩ := trLen (act := 0) (kd := 0) Q (by unfold actOK; decide) hk hb (p.1 30 (by omega)).2
  exact ⟨p.1, p.2, t2, voQF Q p.2 h1, h2⟩
theorem mk0 {f f1 : Fn} {K n m kd x r : Int32} {t : Nat} (Q : voQ f K n m t) (h : ∀ e : Nat, 3 * awt 0 + klv kd < e + 2 → r = (vo K n m (e + 2 + 1) 0 kd x).1 ∧ trA f f1 0 20 6 (vo K n m (e + 2 + 1) 0 kd x).2) (F : voF f f1) (h0 : 0 < 3 * awt 0 + klv kd ∨ ∀ d, r = (vo K n m (d + 1) 0 kd x).1 ∧ trA f f1 0 20 6 (vo K n m (d + 1) 0 kd x).2) : Post_X9_swingsBy f kd x r f1 := by
  unfold Post_X9_swingsBy
  rw [Q.2.2.1, Q.2.2.2.1, Q.2.2.2.2.1]
  refine ⟨fun d hd => ?_, F⟩
  match d, hd with
  | 0, hd =>
    rcases h0 with h0 | h0
    · omega
    · exact h0 1
  | e + 1, hd => exact h e hd
theorem pr1 {f : Fn} {K n m kd x : Int32} {t : Nat} (Q : voQ f K n m t) (hk : kOK kd) (hb : t + vlb 1 (klv kd) ≤ 40) : Pre_X9_fliesBy f kd x := by
  unfold Pre_X9_fliesBy
  rw [Q.2.2.1, Q.2.2.2.1]
  exact ⟨hk, Q.2.1, Q.1, t, hb, Q.2.2.2.2.2⟩
theorem po1 {f f1 : Fn} {K n m kd x r : Int32} {t : Nat} (Q : voQ f K n m t) (hk : kOK kd) (hb : t + vlb 1 (klv kd) ≤ 40) (p : Post_X9_fliesBy f kd x r f1) : (∀ d : Nat, 3 * awt 1 + klv kd < d + 1 → r = (vo K n m (d + 2) 1 kd x).1 ∧ trA f f1 0 20 6 (vo K n m (d + 2) 1 kd x).2) ∧ voF f f1 ∧ ∃ t2, voQ f1 K n m t2 ∧ t2 ≤ t + vlb 1 (klv kd) := by
  unfold Post_X9_fliesBy at p
  rw [Q.2.2.1, Q.2.2.2.1, Q.2.2.2.2.1] at p
  have k2 := klv2 hk
  have aw : awt 1 ≤ 2 := by decide
  obtain ⟨t2, h1, h2⟩ := trLen (act := 0) (kd := 0) Q (by unfold actOK; decide) hk hb (p.1 30 (by omega)).2
  exact ⟨p.1, p.2, t2, voQF Q p.2 h1, h2⟩
theorem mk1 {f f1 : Fn} {K n m kd x r : Int32} {t : Nat} (Q : voQ f K n m t) (h : ∀ e : Nat, 3 * awt 1 + klv kd < e + 2 → r = (vo K n m (e + 2 + 1) 1 kd x).1 ∧ trA f f1 0 20 6 (vo K n m (e + 2 + 1) 1 kd x).2) (F : voF f f1) (h0 : 0 < 3 * awt 1 + klv kd ∨ ∀ d, r = (vo K n m (d + 1) 1 kd x).1 ∧ trA f f1 0 20 6 (vo K n m (d + 1) 1 kd x).2) : Post_X9_fliesBy f kd x r f1 := by
  unfold Post_X9_fliesBy
  rw [Q.2.2.1, Q.2.2.2.1, Q.2.2.2.2.1]
  refine ⟨fun d hd => ?_, F⟩
  match d, hd with
  | 0, hd =>
    rcases h0 with h0 | h0
    · omega
    · exact h0 1
  | e + 1, hd => exact h e hd
theorem pr2 {f : Fn} {K n m kd x : Int32} {t : Nat} (Q : voQ f K n m t) (hk : kOK kd) (hb : t + vlb 2 (klv kd) ≤ 40) : Pre_X9_fallsBy f kd x := by
  unfold Pre_X9_fallsBy
  rw [Q.2.2.1, Q.2.2.2.1]
  exact ⟨hk, Q.2.1, Q.1, t, hb, Q.2.2.2.2.2⟩
theorem po2 {f f1 : Fn} {K n m kd x r : Int32} {t : Nat} (Q : voQ f K n m t) (hk : kOK kd) (hb : t + vlb 2 (klv kd) ≤ 40) (p : Post_X9_fallsBy f kd x r f1) : (∀ d : Nat, 3 * awt 2 + klv kd < d + 1 → r = (vo K n m (d + 2) 2 kd x).1 ∧ trA f f1 0 20 6 (vo K n m (d + 2) 2 kd x).2) ∧ voF f f1 ∧ ∃ t2, voQ f1 K n m t2 ∧ t2 ≤ t + vlb 2 (klv kd) := by
  unfold Post_X9_fallsBy at p
  rw [Q.2.2.1, Q.2.2.2.1, Q.2.2.2.2.1] at p
  have k2 := klv2 hk
  have aw : awt 2 ≤ 2 := by decide
  obtain ⟨t2, h1, h2⟩ := trLen (act := 0) (kd := 0) Q (by unfold actOK; decide) hk hb (p.1 30 (by omega)).2
  exact ⟨p.1, p.2, t2, voQF Q p.2 h1, h2⟩
theorem mk2 {f f1 : Fn} {K n m kd x r : Int32} {t : Nat} (Q : voQ f K n m t) (h : ∀ e : Nat, 3 * awt 2 + klv kd < e + 2 → r = (vo K n m (e + 2 + 1) 2 kd x).1 ∧ trA f f1 0 20 6 (vo K n m (e + 2 + 1) 2 kd x).2) (F : voF f f1) (h0 : 0 < 3 * awt 2 + klv kd ∨ ∀ d, r = (vo K n m (d + 1) 2 kd x).1 ∧ trA f f1 0 20 6 (vo K n m (d + 1) 2 kd x).2) : Post_X9_fallsBy f kd x r f1 := by
  unfold Post_X9_fallsBy
  rw [Q.2.2.1, Q.2.2.2.1, Q.2.2.2.2.1]
  refine ⟨fun d hd => ?_, F⟩
  match d, hd with
  | 0, hd =>
    rcases h0 with h0 | h0
    · omega
    · exact h0 1
  | e + 1, hd => exact h e hd
theorem pr3 {f : Fn} {K n m kd x : Int32} {t : Nat} (Q : voQ f K n m t) (hk : kOK kd) (hb : t + vlb 3 (klv kd) ≤ 40) : Pre_X9_tellsBy f kd x := by
  unfold Pre_X9_tellsBy
  rw [Q.2.2.1, Q.2.2.2.1]
  exact ⟨hk, Q.2.1, Q.1, t, hb, Q.2.2.2.2.2⟩
theorem po3 {f f1 : Fn} {K n m kd x r : Int32} {t : Nat} (Q : voQ f K n m t) (hk : kOK kd) (hb : t + vlb 3 (klv kd) ≤ 40) (p : Post_X9_tellsBy f kd x r f1) : (∀ d : Nat, 3 * awt 3 + klv kd < d + 1 → r = (vo K n m (d + 2) 3 kd x).1 ∧ trA f f1 0 20 6 (vo K n m (d + 2) 3 kd x).2) ∧ voF f f1 ∧ ∃ t2, voQ f1 K n m t2 ∧ t2 ≤ t + vlb 3 (klv kd) := by
  unfold Post_X9_tellsBy at p
  rw [Q.2.2.1, Q.2.2.2.1, Q.2.2.2.2.1] at p
  have k2 := klv2 hk
  have aw : awt 3 ≤ 2 := by decide
  obtain ⟨t2, h1, h2⟩ := trLen (act := 0) (kd := 0) Q (by unfold actOK; decide) hk hb (p.1 30 (by omega)).2
  exact ⟨p.1, p.2, t2, voQF Q p.2 h1, h2⟩
theorem mk3 {f f1 : Fn} {K n m kd x r : Int32} {t : Nat} (Q : voQ f K n m t) (h : ∀ e : Nat, 3 * awt 3 + klv kd < e + 2 → r = (vo K n m (e + 2 + 1) 3 kd x).1 ∧ trA f f1 0 20 6 (vo K n m (e + 2 + 1) 3 kd x).2) (F : voF f f1) (h0 : 0 < 3 * awt 3 + klv kd ∨ ∀ d, r = (vo K n m (d + 1) 3 kd x).1 ∧ trA f f1 0 20 6 (vo K n m (d + 1) 3 kd x).2) : Post_X9_tellsBy f kd x r f1 := by
  unfold Post_X9_tellsBy
  rw [Q.2.2.1, Q.2.2.2.1, Q.2.2.2.2.1]
  refine ⟨fun d hd => ?_, F⟩
  match d, hd with
  | 0, hd =>
    rcases h0 with h0 | h0
    · omega
    · exact h0 1
  | e + 1, hd => exact h e hd
/-- what the class's voices stand in -/
def vpQ (f : Fn) (K n m : Int32) (t : Nat) : Prop := kOK K ∧ f 46 0 = K ∧ f 44 2 = n ∧ f 46 1 = m ∧ f 44 1 = nI t
def vpF (f f1 : Fn) : Prop := (∀ a, a ≠ 44 → a ≠ 45 → f1 a = f a) ∧ (∀ j, ¬ j = 1 → f1 44 j = f 44 j)
theorem vpF_t {a b c : Fn} (h : vpF a b) (h2 : vpF b c) : vpF a c := ⟨fun x p q => (h2.1 x p q).trans (h.1 x p q), fun j hj => (h2.2 j hj).trans (h.2 j hj)⟩
theorem vpQF {f f1 : Fn} {K n m : Int32} {t t2 : Nat} (Q : vpQ f K n m t) (F : vpF f f1) (h : f1 44 1 = nI t2) : vpQ f1 K n m t2 := by
  obtain ⟨q1, q2, q3, q4, q5⟩ := Q
  have e := F.1 46 (by decide) (by decide)
  exact ⟨q1, by rw [e]; exact q2, (F.2 2 (by decide)).trans q3, by rw [e]; exact q4, h⟩
theorem notQ {f f3 : Fn} {K n m c : Int32} {t : Nat} (Q : vpQ f K n m t) (ht : t < 40) (p : Post_X6_note f c f3) : vpQ f3 K n m (t + 1) ∧ vpF f f3 ∧ trA f f3 44 1 45 [c] := by
  have h := Q.2.2.2.2
  unfold Post_X6_note at p
  have l : 0 ≤ f 44 1 ∧ f 44 1 < 40 := by rw [h]; exact ⟨Int32.not_lt.mp (nI_pos (by omega)), nI_lt (b := 40) ht (by omega)⟩
  rw [if_pos l, h, nI_clamp (by omega), nI_1] at p
  subst p
  have F : vpF f (up2 (up2 f 45 t c) 44 1 (nI (t + 1))) := ⟨fun a x y => by rw [up2_row _ _ _ _ _ x, up2_row _ _ _ _ _ y], fun j hj => by rw [up2_off _ _ hj, up2_row _ _ _ _ _ (by decide)]⟩
  exact ⟨vpQF Q F (up2_at _ _ _ _), F, trA_1 h ht (by decide)⟩
theorem tqLen {f f1 : Fn} {K n m : Int32} {t d : Nat} {A B x : Int32} (Q : vpQ f K n m t) (ha : actOK A) (hk : kOK B) (hb : t + vlb A (klv B) ≤ 40) (T : trA f f1 44 1 45 (vo K n m d A B x).2) : ∃ t2, f1 44 1 = nI t2 ∧ t2 ≤ t + vlb A (klv B) := by
  have l := vo_len (n := n) (m := m) Q.1 d A B x ha hk
  exact ⟨_, (T t Q.2.2.2.2 (by omega)).1, by omega⟩
theorem awt2 {a : Int32} (h : actOK a) : awt a ≤ 2 := by
  rcases h with h | h | h | h <;> subst h <;> decide
theorem ps6 {f : Fn} {K n m a kd x q : Int32} {t q0 : Nat} (Q : vpQ f K n m t) (ha : actOK a) (hk : kOK kd) (hb : t + vlb a (klv kd) ≤ 40) (hq : q = nI q0) (hl : q0 + 2 * (3 * awt a + klv kd) ≤ 30) : Pre_X6_say f a kd x q := by
  unfold Pre_X6_say
  rw [Q.2.1]
  exact ⟨Q.1, ha, hk, ⟨t, hb, Q.2.2.2.2⟩, q0, hq, hl⟩
theorem pw6 {f : Fn} {K n m a x q : Int32} {t q0 : Nat} (Q : vpQ f K n m t) (ha : actOK a) (hb : t + vlb a 2 ≤ 40) (hq : q = nI q0) (hl : q0 + 2 * (3 * awt a + 2) + 1 ≤ 30) : Pre_X6_own f a x q := by
  unfold Pre_X6_own
  rw [Q.2.1]
  exact ⟨Q.1, ha, ⟨t, hb, Q.2.2.2.2⟩, q0, hq, hl⟩
theorem qs6 {f f1 : Fn} {K n m a kd x q r : Int32} {t : Nat} (Q : vpQ f K n m t) (ha : actOK a) (hk : kOK kd) (hb : t + vlb a (klv kd) ≤ 40) (p : Post_X6_say f a kd x q r f1) : (∀ d : Nat, 3 * awt a + klv kd < d → r = (vo K n m (d + 2) a kd x).1 ∧ trA f f1 44 1 45 (vo K n m (d + 2) a kd x).2) ∧ vpF f f1 ∧ ∃ t2, vpQ f1 K n m t2 ∧ t2 ≤ t + vlb a (klv kd) := by
  unfold Post_X6_say at p
  rw [Q.2.1, Q.2.2.1, Q.2.2.2.1] at p
  have k2 := klv2 hk
  have aw := awt2 ha
  obtain ⟨t2, h1, h2⟩ := tqLen Q ha hk hb (p.1 30 (by omega)).2
  exact ⟨fun d hd => p.1 d (by omega), p.2, t2, vpQF Q p.2 h1, h2⟩
theorem qw6 {f f1 : Fn} {K n m a x q r : Int32} {t : Nat} (Q : vpQ f K n m t) (ha : actOK a) (hb : t + vlb a 2 ≤ 40) (p : Post_X6_own f a x q r f1) : (∀ d : Nat, 3 * awt a + klv K < d → r = (vo K n m (d + 2) a K x).1 ∧ trA f f1 44 1 45 (vo K n m (d + 2) a K x).2) ∧ vpF f f1 ∧ ∃ t2, vpQ f1 K n m t2 ∧ t2 ≤ t + vlb a 2 := by
  unfold Post_X6_own at p
  rw [Q.2.1] at p
  have k2 := klv2 Q.1
  have vm := vlbM (a := a) k2 (Nat.le_refl 2)
  obtain ⟨h1, h2, t2, h3, h4⟩ := qs6 Q ha Q.1 (by omega) p
  exact ⟨h1, h2, t2, h3, by omega⟩
theorem mk6 {f f1 : Fn} {K n m a kd x q r : Int32} {t : Nat} (Q : vpQ f K n m t) (h : ∀ d : Nat, 3 * awt a + klv kd < d → r = (vo K n m (d + 2) a kd x).1 ∧ trA f f1 44 1 45 (vo K n m (d + 2) a kd x).2) (F : vpF f f1) : pI (Post_X6_say f a kd x q) (some (.int r)) f1 := by
  rw [pI_iff]
  unfold Post_X6_say
  rw [Q.2.1, Q.2.2.1, Q.2.2.2.1]
  exact ⟨fun d hd => h d (by omega), F⟩
theorem lNdiv {p q : Nat} (hp : p < 2147483648) (hq : q < 2147483648) : lN p / lN q = lN (p / q) := by
  have l : p / q ≤ p := Nat.div_le_self p q
  apply Int64.toInt_inj.mp
  rw [Int64.toInt_div, lN_toInt (by omega), lN_toInt (by omega), lN_toInt (by omega), ← Int.ofNat_tdiv]
  generalize p / q = m at l
  exact Int.bmod_eq_of_le (by omega) (by omega)
theorem lNmod {p q : Nat} (hp : p < 2147483648) (hq : q < 2147483648) : lN p - lN p / lN q * lN q = lN (p % q) := by
  rw [lNdiv hp hq, lN_mul, lN_sub (Nat.div_mul_le_self p q)]
  congr 1
  have := Nat.div_add_mod p q
  rw [Nat.mul_comm] at this
  omega
theorem lNneg {x : Nat} (h : x < 2147483648) : (-(lN x)).toInt = -(x : Int) := by
  rw [Int64.toInt_neg, lN_toInt (by omega)]
  exact Int.bmod_eq_of_le (by omega) (by omega)
theorem lNab {a : Int64} {x : Nat} (hx : x < 2147483648) (h : a = lN x ∨ a = -(lN x)) : a.toInt.natAbs = x := by
  rcases h with h | h <;> subst h
  · rw [lN_toInt (by omega)]; omega
  · rw [lNneg hx]; omega
theorem casB (V : Vw) (t : Int32) : ∃ c : Nat, c ≤ 9 ∧ casI V t = nI c := by
  have b : ∀ x : Bool, ∃ k : Nat, k ≤ 1 ∧ bI x = nI k := fun x => by
    cases x
    · exact ⟨0, by omega, rfl⟩
    · exact ⟨1, by omega, rfl⟩
  unfold casI
  obtain ⟨k1, h1, e1⟩ := b (vHeld V (vOff V (vT V t + (-1)) (-1)))
  obtain ⟨k2, h2, e2⟩ := b (vHeld V (vOff V (vT V t + (-1)) 0))
  obtain ⟨k3, h3, e3⟩ := b (vHeld V (vOff V (vT V t + (-1)) 1))
  obtain ⟨k4, h4, e4⟩ := b (vHeld V (vOff V (vT V t) (-1)))
  obtain ⟨k5, h5, e5⟩ := b (vHeld V (vOff V (vT V t) 0))
  obtain ⟨k6, h6, e6⟩ := b (vHeld V (vOff V (vT V t) 1))
  obtain ⟨k7, h7, e7⟩ := b (vHeld V (vOff V (vT V t + 1) (-1)))
  obtain ⟨k8, h8, e8⟩ := b (vHeld V (vOff V (vT V t + 1) 0))
  obtain ⟨k9, h9, e9⟩ := b (vHeld V (vOff V (vT V t + 1) 1))
  rw [e1, e2, e3, e4, e5, e6, e7, e8, e9, nI_add, nI_add, nI_add, nI_add, nI_add, nI_add, nI_add, nI_add]
  exact ⟨_, by omega, rfl⟩
theorem frcE {c n : Nat} (hc : c < 2147483648) (hn : n < 2147483648) (p : Int32) : frcI (nI c) (nI n) p = if p = 0 then nI c / nI (Nat.gcd c n) else nI n / nI (Nat.gcd c n) := by
  have e1 : (nI c).toInt.natAbs = c := by rw [nI_toInt (by omega)]; omega
  have e2 : (nI n).toInt.natAbs = n := by rw [nI_toInt (by omega)]; omega
  unfold frcI
  rw [e1, e2]
theorem i64n {m : Nat} (h : m < 2147483648) : (-(nI m)).toInt64 = -(lN m) := by
  apply Int64.toInt_inj.mp
  rw [Int32.toInt_toInt64, lNneg h, Int32.toInt_neg, nI_toInt (by omega)]
  exact Int.bmod_eq_of_le (by omega) (by omega)
theorem div64 {a b : Int32} (h : 0 < b) : (a / b).toInt64 = a.toInt64 / b.toInt64 := by
  apply Int64.toInt_inj.mp
  rw [Int32.toInt_toInt64, divT h, Int64.toInt_div, Int32.toInt_toInt64, Int32.toInt_toInt64]
  have h1 := a.toInt_lt
  have h2 := a.le_toInt
  have := Int.natAbs_tdiv_le_natAbs a.toInt b.toInt
  exact (Int.bmod_eq_of_le (by omega) (by omega)).symm
theorem agnL {c x h : Nat} (hc : c ≤ 9) (hx : x ≤ 99) (hh : h ≤ 99) : ∃ w : Nat, w < 100000 ∧
    ((agnI (nI c) (nI x) (nI h) = nI w ∧ ∀ s : Int64, s = (if lN c * lN x - (9 - lN c) * lN h ≤ 0 then 0 else lN c * lN x - (9 - lN c) * lN h) → 9 * (lN c * lN x - (9 - lN c) * lN h) + (9 - lN c) * s = lN w)
    ∨ (agnI (nI c) (nI x) (nI h) = -(nI w) ∧ ∀ s : Int64, s = (if lN c * lN x - (9 - lN c) * lN h ≤ 0 then 0 else lN c * lN x - (9 - lN c) * lN h) → 9 * (lN c * lN x - (9 - lN c) * lN h) + (9 - lN c) * s = -(lN w))) := by
  have lA : c * x ≤ 9 * 99 := Nat.mul_le_mul hc hx
  have lB : (9 - c) * h ≤ 9 * 99 := Nat.mul_le_mul (by omega) hh
  have e9 : (9 : Int64) - lN c = lN (9 - c) := lN_sub (a := 9) hc
  have i9 : (9 : Int32) - nI c = nI (9 - c) := by
    have : nI (9 - c) + nI c = 9 := by rw [nI_add, show 9 - c + c = 9 by omega]; rfl
    rw [← this]; grind
  have eB : (9 - lN c) * lN h = lN ((9 - c) * h) := by rw [e9, lN_mul]
  have eA : lN c * lN x = lN (c * x) := lN_mul c x
  have iA : nI c * nI x = nI (c * x) := nImul c x
  have iB : (9 - nI c) * nI h = nI ((9 - c) * h) := by rw [i9, nImul]
  rw [eA, eB]
  have ag : agnI (nI c) (nI x) (nI h) = 9 * (nI c * nI x) - 9 * ((9 - nI c) * nI h) + (9 - nI c) * maxI 0 (nI c * nI x - (9 - nI c) * nI h) := by
    unfold agnI
    generalize maxI 0 (nI c * nI x - (9 - nI c) * nI h) = M
    grind
  rw [ag, iA, iB, e9, i9]
  have lC : (9 - c) * (c * x) ≤ 9 * 891 := Nat.mul_le_mul (by omega) lA
  generalize hA : c * x = A at *
  generalize hB : (9 - c) * h = B at *
  by_cases q : A ≤ B
  · have d64 : lN A - lN B = -(lN (B - A)) := by
      have : lN (B - A) + lN A = lN B := by rw [lN_add, show B - A + A = B by omega]
      rw [← this]; grind
    have d32 : nI A - nI B = -(nI (B - A)) := by
      have : nI (B - A) + nI A = nI B := by rw [nI_add, show B - A + A = B by omega]
      rw [← this]; grind
    have le : -(lN (B - A)) ≤ 0 := by
      rw [Int64.le_iff_toInt_le, lNneg (by omega)]; simp
    have m0 : maxI 0 (-(nI (B - A))) = 0 := by
      unfold maxI
      rw [if_neg]
      intro h
      rw [Int32.lt_iff_toInt_lt, Int32.toInt_neg, nI_toInt (by omega), Int.bmod_eq_of_le (by omega) (by omega)] at h
      simp at h; omega
    refine ⟨9 * (B - A), by omega, Or.inr ⟨?_, fun s hs => ?_⟩⟩
    · rw [d32, m0]
      have : (9 : Int32) * nI A - 9 * nI B = 9 * (nI A - nI B) := by grind
      rw [this, d32]
      have : nI (9 * (B - A)) = 9 * nI (B - A) := (nImul 9 (B - A)).symm
      rw [this]; grind
    · rw [d64, if_pos le] at hs
      rw [d64, hs]
      have : lN (9 * (B - A)) = 9 * lN (B - A) := (lN_mul 9 (B - A)).symm
      rw [this]; grind
  · have d64 : lN A - lN B = lN (A - B) := lN_sub (by omega)
    have d32 : nI A - nI B = nI (A - B) := by
      have : nI (A - B) + nI B = nI A := by rw [nI_add, show A - B + B = A by omega]
      rw [← this]; grind
    have le : ¬ lN (A - B) ≤ 0 := by
      intro h
      have : lN (A - B) ≤ lN 0 := h
      rw [lN_le (by omega) (by omega)] at this
      omega
    have m0 : maxI 0 (nI (A - B)) = nI (A - B) := by
      unfold maxI
      rw [if_pos]
      exact nI_lt (a := 0) (by omega) (by omega)
    have lD : (9 - c) * (A - B) ≤ 9 * 891 := Nat.mul_le_mul (by omega) (by omega)
    refine ⟨9 * (A - B) + (9 - c) * (A - B), by omega, Or.inl ⟨?_, fun s hs => ?_⟩⟩
    · rw [d32, m0]
      have : (9 : Int32) * nI A - 9 * nI B = 9 * (nI A - nI B) := by grind
      rw [this, d32, ← nI_add, ← nImul, ← nImul] <;> rfl
    · rw [d64, if_neg le] at hs
      rw [d64, hs, ← lN_add, ← lN_mul, ← lN_mul] <;> rfl
