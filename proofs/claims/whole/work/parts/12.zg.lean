def rdAt (f : Fn) (n p c : Nat) : Prop := n ≤ 50 ∧ f 1 9 = nI n ∧ p ≤ n ∧ c ≤ p ∧ f 42 3 = nI p ∧ f 42 2 = nI c ∧ f 42 4 = 0
def seg (f : Fn) (row c : Nat) (xs : List Int32) : Prop := ∀ j, j < xs.length → f row (c + j) = xs.getD j 0
theorem seg_app {f : Fn} {row c : Nat} {xs ys : List Int32} (h : seg f row c xs) (h2 : seg f row (c + xs.length) ys) : seg f row c (xs ++ ys) := fun j hj => by
  rw [List.length_append] at hj
  by_cases q : j < xs.length
  · rw [h j q, List.getD_eq_getElem?_getD, List.getD_eq_getElem?_getD, List.getElem?_append_left q]
  · have := h2 (j - xs.length) (by omega)
    rw [show c + xs.length + (j - xs.length) = c + j by omega] at this
    rw [this, List.getD_eq_getElem?_getD, List.getD_eq_getElem?_getD, List.getElem?_append_right (by omega)]
/-- the class stands where a reading r has come, from count c on -/
def rdRep (f0 f : Fn) (c : Nat) (r : PR) : Prop := f 42 3 = nI r.1 ∧ f 42 2 = nI (c + r.2.2.length) ∧ f 42 4 = bI r.2.1 ∧ (∀ a, a ≠ 42 → a ≠ 43 → f a = f0 a) ∧ (∀ j, j < c → f 43 j = f0 43 j) ∧ seg f 43 c r.2.2
theorem rd_in {f f1 : Fn} {lv n p c op : Nat} (q : rdPost f f1 lv op) (h : rdAt f n p c) : rdRep f f1 c (PS (f 11) n lv op p) := by
  obtain ⟨h1, h2, h3, h4, h5, h6, h7⟩ := h
  obtain ⟨⟨a1, a2, a3⟩, b, d, e, -, -⟩ := q n p c (fuelR lv op) h1 h2 h3 h4 ⟨h5, h6, h7⟩ (Nat.le_refl _)
  exact ⟨a1, a2, a3, b, d, e⟩
theorem rd_mk {f f1 : Fn} {lv n p c op : Nat} (hl : lv ≤ 5) (ho : op ≤ 5) (h : rdAt f n p c) (q : rdRep f f1 c (PS (f 11) n lv op p)) : rdPost f f1 lv op := by
  obtain ⟨h1, h2, h3, h4, h5, h6, h7⟩ := h
  intro n2 p2 c2 d k1 k2 k3 k4 ⟨k5, k6, k7⟩ hd
  have e1 : n2 = n := by rw [h2, nI_eq (by omega) (by omega)] at k2; exact k2.symm
  have e2 : p2 = p := by rw [h5, nI_eq (by omega) (by omega)] at k5; exact k5.symm
  have e3 : c2 = c := by rw [h6, nI_eq (by omega) (by omega)] at k6; exact k6.symm
  subst e1 e2 e3
  rw [psG _ _ _ _ hl ho d hd]
  have b := PS_bd (f 11) lv op h3
  exact ⟨⟨q.1, q.2.1, q.2.2.1⟩, q.2.2.2.1, q.2.2.2.2.1, q.2.2.2.2.2, b.2.1, b.2.2.1⟩
theorem rd_pre {f : Fn} {n p c : Nat} (h : rdAt f n p c) : rdPre f := ⟨n, p, c, h.1, h.2.1, h.2.2.1, h.2.2.2.1, h.2.2.2.2.1, h.2.2.2.2.2.1, h.2.2.2.2.2.2⟩
theorem rd_of {f : Fn} (h : rdPre f) : ∃ n p c, rdAt f n p c := by
  obtain ⟨n, p, c, h1, h2, h3, h4, h5, h6, h7⟩ := h
  exact ⟨n, p, c, h1, h2, h3, h4, h5, h6, h7⟩
theorem rd_next {f : Fn} {n p : Nat} (h1 : n ≤ 50) (h2 : f 1 9 = nI n) (h3 : p ≤ n) (h5 : f 42 3 = nI p) : Val_X2_next f = nxI (f 11) n p := by
  unfold Val_X2_next nxI
  rw [h5, h2]
  by_cases q : p < n
  · rw [if_pos ⟨Int32.not_lt.mp (nI_pos (by omega)), nI_lt (b := 50) (by omega) (by omega), nI_lt q (by omega)⟩, if_pos q, nI_clamp (by omega)]
  · rw [if_neg (fun z => q ((nI_ltI (by omega) (by omega)).mp z.2.2)), if_neg q]
theorem rd_up {f : Fn} {n p c : Nat} (h : rdAt f n p c) (l : p < n) : rdAt (up2 f 42 3 (f 42 3 + 1)) n (p + 1) c := by
  obtain ⟨h1, h2, h3, h4, h5, h6, h7⟩ := h
  exact ⟨h1, by rw [up2_row _ _ _ _ _ (by decide)]; exact h2, l, by omega, by rw [up2_at, h5, nI_1], (up2_off _ _ (by decide)).trans h6, (up2_off _ _ (by decide)).trans h7⟩
/-- a step more -/
theorem rd_add {f0 f f1 : Fn} {c q : Nat} {x : Int32} {w : Bool} {xs : List Int32} (h : rdRep f0 f c (q, w, xs)) (hl : c + xs.length < 50) (s : Post_X2_addStep f x f1) : rdRep f0 f1 c (q, w, xs ++ [x]) := by
  obtain ⟨h1, h2, h3, h4, h5, h6⟩ := h
  have h2' : f 42 2 = nI (c + xs.length) := h2
  unfold Post_X2_addStep at s
  have l5 : nI (c + xs.length) < 50 := nI_lt (b := 50) hl (by omega)
  rw [h2', if_pos l5, nI_clamp (by omega), nI_1] at s
  subst s
  refine ⟨?_, ?_, ?_, fun a x y => ?_, fun j hj => ?_, ?_⟩
  · rw [up2_off _ _ (by decide), up2_row _ _ _ _ _ (by decide)]; exact h1
  · rw [up2_at, List.length_append]; rfl
  · rw [up2_off _ _ (by decide), up2_row _ _ _ _ _ (by decide)]; exact h3
  · rw [up2_row _ _ _ _ _ x, up2_row _ _ _ _ _ y]; exact h4 a x y
  · rw [up2_row _ _ _ _ _ (by decide), up2_off _ _ (by omega)]; exact h5 j hj
  · refine seg_app (fun j hj => ?_) (fun j hj => ?_)
    · rw [up2_row _ _ _ _ _ (by decide), up2_off _ _ (show c + j ≠ c + xs.length by omega)]; exact h6 j hj
    · have : j = 0 := by simp at hj; omega
      subst this
      rw [up2_row _ _ _ _ _ (by decide), Nat.add_zero, up2_at]; rfl
theorem rd_addP {f0 f : Fn} {c : Nat} {r : PR} (h : rdRep f0 f c r) (hl : c + r.2.2.length < 1000) (x : Int32) : Pre_X2_addStep f x := by
  unfold Pre_X2_addStep
  rw [h.2.1]; exact nI_pos (by omega)
/-- one reading behind another -/
theorem rd_cat {f0 f g f2 : Fn} {c q q2 : Nat} {w w2 : Bool} {xs ys : List Int32} (h : rdRep f0 f c (q, w, xs)) (hg : ∀ a, a ≠ 42 → g a = f a) (h2 : rdRep g f2 (c + xs.length) (q2, w2, ys)) : rdRep f0 f2 c (q2, w2, xs ++ ys) := by
  obtain ⟨h1, h2', h3, h4, h5, h6⟩ := h
  obtain ⟨k1, k2, k3, k4, k5, k6⟩ := h2
  refine ⟨k1, by rw [k2, List.length_append, Nat.add_assoc], k3, fun a x y => by rw [k4 a x y, hg a x, h4 a x y], fun j hj => by rw [k5 j (by omega), hg 43 (by decide), h5 j hj], seg_app (fun j hj => ?_) k6⟩
  have hj' : j < xs.length := hj
  rw [k5 (c + j) (by omega), hg 43 (by decide)]; exact h6 j hj
