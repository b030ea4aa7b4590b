/-- slots of the memory that hold a count, and its greatest -/
def scN (j : Nat) : Option Nat := if j = 1 ∨ j = 2 ∨ j = 3 then some 9999 else if j = 4 then some 99999 else if j = 5 then some 200 else if j = 6 then some 30 else if j = 9 then some 50 else if j = 10 then some 20 else none
theorem dOKu {d : Nat → Int32} {j : Nat} {v : Int32} (h : dOK d) (hj : (0 < j ∧ j < 12) ∨ (92 ≤ j ∧ j < 112)) (q : ∀ N, scN j = some N → ∃ a : Nat, a ≤ N ∧ v = nI a) (q7 : j = 7 → -99 ≤ v ∧ v ≤ 299) : dOK (upd d j v) := by
  obtain ⟨p1, p2, p3, p4, ⟨n, n1, n2, n3⟩, p6, p7, p8, p9, p10, p11, p12, p13, p14, p15⟩ := h
  have e : ∀ k, ¬ k = j → upd d j v k = d k := fun k hk => updN _ _ _ hk
  have s : ∀ k N, scN k = some N → (∃ a : Nat, a ≤ N ∧ d k = nI a) → ∃ a : Nat, a ≤ N ∧ upd d j v k = nI a := fun k N hs hk => by
    by_cases hkj : k = j
    · subst hkj; rw [updE]; exact q N hs
    · rw [e k hkj]; exact hk
  refine ⟨swOKc p1 fun i hi => e _ (by omega), swOKc p2 fun i hi => e _ (by omega), txOKc p3 (e _ (by omega)) (fun i hi => e _ (by omega)), txOKc p4 (e _ (by omega)) (fun i hi => e _ (by omega)), ⟨n, n1, by rw [e _ (by omega)]; exact n2, fun i hi => flOKc (n3 i hi) fun c hc => e _ (by omega)⟩, s 1 9999 rfl p6, s 5 200 rfl p7, s 6 30 rfl p8, ?_, s 9 50 rfl p10, s 10 20 rfl p11, s 2 9999 rfl p12, s 3 9999 rfl p13, s 4 99999 rfl p14, fun k hk => by rw [e _ (by omega)]; exact p15 k hk⟩
  by_cases h7 : j = 7
  · subst h7; rw [updE]; exact q7 rfl
  · rw [e 7 (by omega)]; exact p9
theorem dOKf {d : Nat → Int32} {i c : Nat} {v : Int32} (h : dOK d) (hi : i < 6) (hc : c < 4) (a : Nat) (hv : v = nI a) (h0 : c = 0 → a ≤ 6) (h1 : c = 1 → a ≤ 9) (h2 : c = 2 → 1 ≤ a ∧ a ≤ 3) (h3 : c = 3 → a ≤ 99) : dOK (upd d (fl4 i + c) v) := by
  obtain ⟨p1, p2, p3, p4, ⟨n, n1, n2, n3⟩, p6, p7, p8, p9, p10, p11, p12, p13, p14, p15⟩ := h
  have e : ∀ k, ¬ k = fl4 i + c → upd d (fl4 i + c) v k = d k := fun k hk => updN _ _ _ hk
  have fe : fl4 i = 18 + 4 * i := rfl
  refine ⟨swOKc p1 fun j hj => e _ (by omega), swOKc p2 fun j hj => e _ (by omega), txOKc p3 (e _ (by omega)) (fun j hj => e _ (by omega)), txOKc p4 (e _ (by omega)) (fun j hj => e _ (by omega)), ⟨n, n1, by rw [e _ (by omega)]; exact n2, fun j hj => ?_⟩, ?_⟩
  · obtain ⟨k, m, t, q, c1, c2, c3, c4, c5, e1, e2, e3, e4⟩ := n3 j hj
    by_cases hji : j = i
    · subst hji
      rw [fe]
      match c, hc with
      | 0, _ => exact ⟨a, m, t, q, h0 rfl, c2, c3, c4, c5, (updE _ _ _).trans hv, (updN _ _ _ (by omega)).trans e2, (updN _ _ _ (by omega)).trans e3, (updN _ _ _ (by omega)).trans e4⟩
      | 1, _ => exact ⟨k, a, t, q, c1, h1 rfl, c3, c4, c5, (updN _ _ _ (by omega)).trans e1, (updE _ _ _).trans hv, (updN _ _ _ (by omega)).trans e3, (updN _ _ _ (by omega)).trans e4⟩
      | 2, _ => exact ⟨k, m, a, q, c1, c2, (h2 rfl).1, (h2 rfl).2, c5, (updN _ _ _ (by omega)).trans e1, (updN _ _ _ (by omega)).trans e2, (updE _ _ _).trans hv, (updN _ _ _ (by omega)).trans e4⟩
      | 3, _ => exact ⟨k, m, t, a, c1, c2, c3, c4, h3 rfl, (updN _ _ _ (by omega)).trans e1, (updN _ _ _ (by omega)).trans e2, (updN _ _ _ (by omega)).trans e3, (updE _ _ _).trans hv⟩
      | c + 4, hc => omega
    · exact flOKc ⟨k, m, t, q, c1, c2, c3, c4, c5, e1, e2, e3, e4⟩ fun b hb => e _ (by omega)
  · simp only [e 1 (by omega), e 5 (by omega), e 6 (by omega), e 7 (by omega), e 9 (by omega), e 10 (by omega), e 2 (by omega), e 3 (by omega), e 4 (by omega)]
    exact ⟨p6, p7, p8, p9, p10, p11, p12, p13, p14, fun k hk => by rw [e _ (by omega)]; exact p15 k hk⟩
theorem heldN (x : Int32) (N : Nat) (hN : N < 2147483648) : ∃ a : Nat, a ≤ N ∧ heldI x 0 (nI N) = nI a := by
  unfold heldI
  by_cases h : x < 0
  · rw [if_pos h]; exact ⟨0, by omega, rfl⟩
  · rw [if_neg h]
    by_cases h2 : nI N < x
    · rw [if_pos h2]; exact ⟨N, Nat.le_refl _, rfl⟩
    · rw [if_neg h2]
      obtain ⟨a, h3, rfl⟩ := nI_of h
      refine ⟨a, ?_, rfl⟩
      rw [nI_ltI (by omega) (by omega)] at h2
      omega
theorem InvE {g g1 : Fn} (h : InvM g) (e : eqM g g1) : InvM g1 := by
  obtain ⟨e1, e2, e3, e6, e7, e8, e9, e02, e010, e020⟩ := e
  obtain ⟨h1, h2, h3, h4, h5⟩ := h
  refine ⟨by rw [e1]; exact h1, by rw [e02, e2]; exact h2, by rw [e010]; exact h3, ?_, by rw [e020]; exact h5⟩
  unfold shOK
  rw [e7, e8]
  exact h4
theorem InvR {g : Fn} (h : InvM g) {j : Nat} {v : Int32} (hd : dOK (upd (g 1) j v)) : InvM (up2 g 1 j v) := by
  have r : ∀ a, ¬ a = 1 → up2 g 1 j v a = g a := fun a ha => up2_row _ _ _ _ _ ha
  obtain ⟨h1, h2, h3, h4, h5⟩ := h
  unfold InvM shOK
  rw [r 0 (by decide), r 2 (by decide), r 7 (by decide), r 8 (by decide), up2_same]
  exact ⟨hd, h2, h3, h4, h5⟩
theorem InvEr {g : Fn} (h : InvM g) (k : Nat) : InvM (er g k).2 := by
  have r : ∀ a, ¬ a = 3 → (er g k).2 a = g a := fun a ha => up2_row _ _ _ _ _ ha
  unfold InvM shOK
  rw [r 0 (by decide), r 1 (by decide), r 2 (by decide), r 7 (by decide), r 8 (by decide)]
  exact h
theorem upd1 (g : Fn) (j : Nat) (v : Int32) : up2 g 1 j v 1 = upd (g 1) j v := up2_same _ _ _ _
theorem scH {j N : Nat} {x : Int32} (hs : scN j = some N) (hN : N < 2147483648) : ∀ M, scN j = some M → ∃ a : Nat, a ≤ M ∧ heldI x 0 (nI N) = nI a := fun M hM => by
  rw [hs] at hM; cases hM
  exact heldN x N hN
/-- what a letting go keeps -/
theorem goesK {g : Fn} {i : Nat} {t : Int32} (h : InvM g) (hi : i < 6) : InvM (RE_goes g i t).2 ∧ (RE_goes g i t).2 1 0 = g 1 0 ∧ (RE_goes g i t).2 1 1 = g 1 1 := by
  have fe : fl4 i = 18 + 4 * i := rfl
  unfold RE_goes
  by_cases c : vCt (VM (g 1) i) t = true
  · rw [if_pos c]
    have a1 : InvM (up2 g 1 2 (heldI (g 1 2 + 1) 0 9999)) := InvR h (dOKu h.1 (by omega) (scH (j := 2) (N := 9999) rfl (by omega)) (fun e => absurd e (by decide)))
    obtain ⟨a, ha, hb⟩ := heldN (g 1 (fl4 i + 3) + 1) 99 (by omega)
    refine ⟨InvR a1 (dOKf a1.1 hi (by decide) a hb (by omega) (by omega) (by omega) (fun _ => ha)), ?_, ?_⟩
    · dsimp only
      rw [up2_off _ _ (by omega), up2_off _ _ (by omega)]
    · dsimp only
      rw [up2_off _ _ (by omega), up2_off _ _ (by omega)]
  · rw [if_neg c]
    have a1 : InvM (up2 g 1 3 (heldI (g 1 3 + 1) 0 9999)) := InvR h (dOKu h.1 (by omega) (scH (j := 3) (N := 9999) rfl (by omega)) (fun e => absurd e (by decide)))
    have a2 : ∀ x, InvM (up2 (up2 g 1 3 (heldI (g 1 3 + 1) 0 9999)) 1 4 (heldI x 0 99999)) := fun x => InvR a1 (dOKu a1.1 (by omega) (scH (j := 4) (N := 99999) rfl (by omega)) (fun e => absurd e (by decide)))
    obtain ⟨a, ha, hb⟩ := heldN (g 1 (fl4 i + 3) + 1) 99 (by omega)
    refine ⟨InvR (a2 _) (dOKf (a2 _).1 hi (by decide) a hb (by omega) (by omega) (by omega) (fun _ => ha)), ?_, ?_⟩
    · dsimp only
      rw [up2_off _ _ (by omega), up2_off _ _ (by omega), up2_off _ _ (by omega)]
    · dsimp only
      rw [up2_off _ _ (by omega), up2_off _ _ (by omega), up2_off _ _ (by omega)]
theorem goesE {g f : Fn} (h : eqM g f) (i : Nat) (t : Int32) : (RE_goes f i t).1 = (RE_goes g i t).1 ∧ eqM (RE_goes g i t).2 (RE_goes f i t).2 := by
  have e := h.1
  unfold RE_goes
  rw [e]
  by_cases c : vCt (VM (g 1) i) t = true
  · rw [if_pos c, if_pos c]; exact ⟨rfl, eqMu (eqMu h _ _ _) _ _ _⟩
  · rw [if_neg c, if_neg c]; exact ⟨rfl, eqMu (eqMu (eqMu h _ _ _) _ _ _) _ _ _⟩
theorem InvSeed {g : Fn} (h : InvM g) (v : Int32) : InvM (up2 g 1 8 v) := InvR h (dOKu h.1 (by omega) (fun N hN => by cases hN) (fun e => absurd e (by decide)))
theorem eveSK {g : Fn} {i : Nat} (h : InvM g) (hi : i < 6) : InvM (eveS g i) ∧ eveS g i 1 0 = g 1 0 ∧ eveS g i 1 1 = g 1 1 := by
  unfold eveS
  have s := InvSeed h (zNx (g 1 8))
  obtain ⟨a, b, c⟩ := goesK (t := g 1 1 + remI (zDr (zNx (g 1 8))) 12) s hi
  refine ⟨a, b.trans ?_, c.trans ?_⟩
  · rw [up2_off _ _ (by decide)]
  · rw [up2_off _ _ (by decide)]
theorem eveNK {g : Fn} (h : InvM g) : ∀ i, i ≤ 6 → InvM (eveN g i) ∧ eveN g i 1 0 = g 1 0 ∧ eveN g i 1 1 = g 1 1
  | 0, _ => ⟨h, rfl, rfl⟩
  | i + 1, hi => by
    obtain ⟨a, b, c⟩ := eveNK h i (by omega)
    obtain ⟨a2, b2, c2⟩ := eveSK (i := i) a (by omega)
    exact ⟨a2, b2.trans b, c2.trans c⟩
theorem n6 {g : Fn} (h : InvM g) : ∃ n : Nat, n ≤ 6 ∧ g 1 0 = nI n ∧ ix (g 1 0) = n := by
  obtain ⟨-, -, -, -, ⟨n, n1, n2, -⟩, -⟩ := h.1
  exact ⟨n, n1, n2, by rw [n2]; exact nI_clamp (by omega)⟩
theorem t9 {g : Fn} (h : InvM g) : ∃ t : Nat, t ≤ 9999 ∧ g 1 1 = nI t := by
  obtain ⟨-, -, -, -, -, h1, -⟩ := h.1
  exact h1
theorem eve1K {g : Fn} (h : InvM g) {t : Nat} (ht : g 1 1 = nI t) (t9 : t + 12 ≤ 9999) : InvM (eve1 g) ∧ eve1 g 1 0 = g 1 0 ∧ eve1 g 1 1 = nI (t + 12) := by
  obtain ⟨n, n1, n2, n3⟩ := n6 h
  obtain ⟨a, b, c⟩ := eveNK h (ix (g 1 0)) (by omega)
  unfold eve1
  have e12 : eveN g (ix (g 1 0)) 1 1 + 12 = nI (t + 12) := by rw [c, ht]; exact nI_add t 12
  refine ⟨InvR a (dOKu a.1 (by omega) (fun N hN => ?_) (fun e => absurd e (by decide))), ?_, ?_⟩
  · cases hN; exact ⟨t + 12, t9, e12⟩
  · rw [up2_off _ _ (by decide), b]
  · rw [up2_at]; exact e12
theorem eveKK {g : Fn} (h : InvM g) {t : Nat} (ht : g 1 1 = nI t) : ∀ k, t + 12 * k ≤ 9999 → InvM (eveK g k) ∧ eveK g k 1 0 = g 1 0 ∧ eveK g k 1 1 = nI (t + 12 * k)
  | 0, _ => ⟨h, rfl, ht⟩
  | k + 1, hk => by
    obtain ⟨a, b, c⟩ := eveKK h ht k (by omega)
    obtain ⟨a2, b2, c2⟩ := eve1K a c (by omega)
    exact ⟨a2, b2.trans b, by rw [show t + 12 * (k + 1) = t + 12 * k + 12 by omega]; exact c2⟩
theorem rstK {g : Fn} (h : InvM g) : ∀ i, i ≤ 6 → InvM (rstN g i).2 ∧ (rstN g i).2 1 0 = g 1 0
  | 0, _ => ⟨h, rfl⟩
  | i + 1, hi => by
    obtain ⟨a, b⟩ := rstK h i (by omega)
    have fe : fl4 i = 18 + 4 * i := rfl
    exact ⟨InvR a (dOKf a.1 (by omega) (by decide) 0 rfl (by omega) (by omega) (by omega) (by omega)), by rw [rstN]; dsimp only; rw [up2_off _ _ (by omega)]; exact b⟩
theorem nImul (a b : Nat) : nI a * nI b = nI (a * b) := (Int32.ofNat_mul a b).symm
