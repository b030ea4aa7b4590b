/-- where a reading stands: between p and n, no more steps than places, on if it went well -/
def bdP (n p : Nat) (r : PR) : Prop := p ≤ r.1 ∧ r.1 ≤ n ∧ p + r.2.2.length ≤ r.1 ∧ (r.2.1 = false → p < r.1)
theorem lv_in {b : Nat → Int32} {n p lv : Nat} (h : lvI (nxI b n p) = nI lv) (hl : lv ≤ 4) : p < n := by
  rcases Nat.lt_or_ge p n with q | q
  · exact q
  · exfalso
    have e : nxI b n p = -1 := by unfold nxI; rw [if_neg (by omega)]
    rw [e, show lvI (-1) = -1 by decide] at h
    have := nI_pos (n := lv) (by omega)
    rw [← h] at this
    exact this (by decide)
theorem pLoop_bd {rd : Nat → PR} {b : Nat → Int32} {n lv p : Nat} (hl : lv ≤ 4) (hr : ∀ q, q ≤ n → bdP n q (rd q)) : ∀ k r, bdP n p r → bdP n p (pLoop rd b n lv k r)
  | 0, r, h => h
  | k + 1, r, h => by
    rw [pLoop]
    by_cases c : r.2.1 = false ∧ lvI (nxI b n r.1) = nI lv
    · rw [if_pos c]
      have l := lv_in c.2 hl
      obtain ⟨a1, a2, a3, a4⟩ := hr (r.1 + 1) (by omega)
      obtain ⟨h1, h2, h3, h4⟩ := h
      refine pLoop_bd hl hr k _ ⟨?_, a2, ?_, fun _ => ?_⟩
      · show p ≤ (rd (r.1 + 1)).1; omega
      · show p + (r.2.2 ++ (rd (r.1 + 1)).2.2 ++ [-(nxI b n r.1)]).length ≤ (rd (r.1 + 1)).1
        rw [List.length_append, List.length_append]; simp; omega
      · show p < (rd (r.1 + 1)).1; omega
    · rw [if_neg c]; exact h
theorem numK_s (b : Nat → Int32) (n p k : Nat) : numK b n p (k + 1) = if (numK b n p k).1 = k ∧ dgI (nxI b n (p + k)) = true then (k + 1, (numK b n p k).2 * 10 + nxI b n (p + k) - 48) else numK b n p k := rfl
theorem dg_in {b : Nat → Int32} {n p : Nat} (h : dgI (nxI b n p) = true) : p < n := by
  rcases Nat.lt_or_ge p n with q | q
  · exact q
  · have e : nxI b n p = -1 := by unfold nxI; rw [if_neg (by omega)]
    rw [e] at h; cases h
theorem numK_bd {b : Nat → Int32} {n p : Nat} (hp : p ≤ n) : ∀ k, (numK b n p k).1 ≤ k ∧ p + (numK b n p k).1 ≤ n
  | 0 => ⟨Nat.le_refl _, hp⟩
  | k + 1 => by
    obtain ⟨a, c⟩ := numK_bd (b := b) hp k
    rw [numK_s]
    by_cases q : (numK b n p k).1 = k ∧ dgI (nxI b n (p + k)) = true
    · rw [if_pos q]
      have := dg_in q.2
      exact ⟨Nat.le_refl _, by show p + (k + 1) ≤ n; omega⟩
    · rw [if_neg q]; omega
theorem numK_1 {b : Nat → Int32} {n p : Nat} (h : dgI (nxI b n p) = true) : ∀ k, 1 ≤ (numK b n p (k + 1)).1
  | 0 => by rw [numK_s, if_pos ⟨rfl, h⟩]; exact Nat.le_refl _
  | k + 1 => by
    have := numK_1 h k
    rw [numK_s]
    by_cases q : (numK b n p (k + 1)).1 = k + 1 ∧ dgI (nxI b n (p + (k + 1))) = true
    · rw [if_pos q]; show 1 ≤ k + 1 + 1; omega
    · rw [if_neg q]; exact this
theorem nx_in {b : Nat → Int32} {n p : Nat} {c : Int32} (h : nxI b n p = c) (hc : ¬ c = -1) : p < n := by
  rcases Nat.lt_or_ge p n with q | q
  · exact q
  · exfalso
    have e : nxI b n p = -1 := by unfold nxI; rw [if_neg (by omega)]
    exact hc (h.symm.trans e)
theorem psR_s (b : Nat → Int32) (n d lv op p : Nat) : psR b n (d + 1) lv op p =
    if lv ≤ 4 then pLoop (psR b n d (lv + 1) op) b n lv (if lv = 2 then 1 else 50) (psR b n d (lv + 1) op p)
    else if dgI (nxI b n p) = true then (p + (numK b n p 4).1, false, [(numK b n p 4).2])
    else if nxI b n p = 107 ∨ nxI b n p = 118 ∨ nxI b n p = 109 then (p + 1, false, [-(nxI b n p)])
    else if nxI b n p = 33 ∧ op < 5 then ((psR b n d 5 (op + 1) (p + 1)).1, (psR b n d 5 (op + 1) (p + 1)).2.1, (psR b n d 5 (op + 1) (p + 1)).2.2 ++ [-33])
    else if nxI b n p = 40 ∧ op < 5 then
      (if (psR b n d 0 (op + 1) (p + 1)).2.1 = false ∧ nxI b n (psR b n d 0 (op + 1) (p + 1)).1 = 41 then ((psR b n d 0 (op + 1) (p + 1)).1 + 1, false, (psR b n d 0 (op + 1) (p + 1)).2.2)
       else ((psR b n d 0 (op + 1) (p + 1)).1, true, (psR b n d 0 (op + 1) (p + 1)).2.2))
    else (p, true, []) := rfl
theorem psR_bd (b : Nat → Int32) (n : Nat) : ∀ d lv op p, p ≤ n → bdP n p (psR b n d lv op p)
  | 0, lv, op, p, h => ⟨Nat.le_refl _, h, Nat.le_refl _, fun e => by cases e⟩
  | d + 1, lv, op, p, h => by
    rw [psR_s]
    by_cases c0 : lv ≤ 4
    · rw [if_pos c0]
      exact pLoop_bd c0 (fun q hq => psR_bd b n d _ _ q hq) _ _ (psR_bd b n d _ _ p h)
    rw [if_neg c0]
    by_cases c1 : dgI (nxI b n p) = true
    · rw [if_pos c1]
      have a := numK_bd (b := b) h 4
      have a1 : 1 ≤ (numK b n p 4).1 := numK_1 c1 3
      exact ⟨by show p ≤ p + _; omega, a.2, by show p + 1 ≤ p + _; omega, fun _ => by show p < p + _; omega⟩
    rw [if_neg c1]
    by_cases c2 : nxI b n p = 107 ∨ nxI b n p = 118 ∨ nxI b n p = 109
    · rw [if_pos c2]
      have : p < n := by rcases c2 with e | e | e <;> exact nx_in e (by decide)
      exact ⟨by show p ≤ p + 1; omega, this, Nat.le_refl _, fun _ => by show p < p + 1; omega⟩
    rw [if_neg c2]
    by_cases c3 : nxI b n p = 33 ∧ op < 5
    · rw [if_pos c3]
      have l := nx_in c3.1 (by decide)
      obtain ⟨a1, a2, a3, a4⟩ := psR_bd b n d 5 (op + 1) (p + 1) (by omega)
      refine ⟨?_, a2, ?_, fun _ => ?_⟩
      · show p ≤ (psR b n d 5 (op + 1) (p + 1)).1; omega
      · show p + ((psR b n d 5 (op + 1) (p + 1)).2.2 ++ [-33]).length ≤ (psR b n d 5 (op + 1) (p + 1)).1
        rw [List.length_append]; simp; omega
      · show p < (psR b n d 5 (op + 1) (p + 1)).1; omega
    rw [if_neg c3]
    by_cases c4 : nxI b n p = 40 ∧ op < 5
    · rw [if_pos c4]
      have l := nx_in c4.1 (by decide)
      obtain ⟨a1, a2, a3, a4⟩ := psR_bd b n d 0 (op + 1) (p + 1) (by omega)
      by_cases c5 : (psR b n d 0 (op + 1) (p + 1)).2.1 = false ∧ nxI b n (psR b n d 0 (op + 1) (p + 1)).1 = 41
      · rw [if_pos c5]
        have l2 := nx_in c5.2 (by decide)
        refine ⟨?_, l2, ?_, fun _ => ?_⟩
        · show p ≤ (psR b n d 0 (op + 1) (p + 1)).1 + 1; omega
        · show p + (psR b n d 0 (op + 1) (p + 1)).2.2.length ≤ (psR b n d 0 (op + 1) (p + 1)).1 + 1; omega
        · show p < (psR b n d 0 (op + 1) (p + 1)).1 + 1; omega
      · rw [if_neg c5]
        refine ⟨?_, a2, ?_, fun e => by cases e⟩
        · show p ≤ (psR b n d 0 (op + 1) (p + 1)).1; omega
        · show p + (psR b n d 0 (op + 1) (p + 1)).2.2.length ≤ (psR b n d 0 (op + 1) (p + 1)).1; omega
    rw [if_neg c4]
    exact ⟨Nat.le_refl _, h, Nat.le_refl _, fun e => by cases e⟩
/-- more fuel than is needed changes nothing -/
theorem psR_f (b : Nat → Int32) (n : Nat) : ∀ d lv op, lv ≤ 5 → op ≤ 5 → fuelR lv op ≤ d → psR b n (d + 1) lv op = psR b n d lv op
  | 0, lv, op, h1, h2, h => by unfold fuelR at h; omega
  | d + 1, lv, op, h1, h2, h => by
    funext p
    rw [psR_s b n (d + 1) lv op p, psR_s b n d lv op p]
    unfold fuelR at h
    by_cases c0 : lv ≤ 4
    · rw [if_pos c0, if_pos c0, psR_f b n d (lv + 1) op (by omega) h2 (by unfold fuelR; omega)]
    rw [if_neg c0, if_neg c0]
    by_cases c3 : op < 5
    · rw [psR_f b n d 5 (op + 1) (by omega) (by omega) (by unfold fuelR; omega), psR_f b n d 0 (op + 1) (by omega) (by omega) (by unfold fuelR; omega)]
    · have n1 : ¬ (nxI b n p = 33 ∧ op < 5) := fun q => c3 q.2
      have n2 : ¬ (nxI b n p = 40 ∧ op < 5) := fun q => c3 q.2
      simp only [if_neg n1, if_neg n2]
/-- a reading with the fuel that it needs -/
def PS (b : Nat → Int32) (n lv op : Nat) : Nat → PR := psR b n (fuelR lv op) lv op
theorem psG (b : Nat → Int32) (n lv op : Nat) (h1 : lv ≤ 5) (h2 : op ≤ 5) : ∀ d, fuelR lv op ≤ d → psR b n d lv op = PS b n lv op
  | 0, h => by unfold fuelR at h; omega
  | d + 1, h => by
    by_cases e : fuelR lv op = d + 1
    · unfold PS; rw [e]
    · rw [psR_f b n d lv op h1 h2 (by omega)]; exact psG b n lv op h1 h2 d (by omega)
theorem PS_bd (b : Nat → Int32) {n p : Nat} (lv op : Nat) (h : p ≤ n) : bdP n p (PS b n lv op p) := psR_bd b n _ lv op p h
theorem PS_lo (b : Nat → Int32) (n lv op p : Nat) (h : lv ≤ 4) (ho : op ≤ 5) : PS b n lv op p = pLoop (PS b n (lv + 1) op) b n lv (if lv = 2 then 1 else 50) (PS b n (lv + 1) op p) := by
  unfold PS
  have : fuelR lv op = fuelR (lv + 1) op + 1 := by unfold fuelR; omega
  rw [this, psR_s, if_pos h]
theorem PS_5 (b : Nat → Int32) (n op p : Nat) (ho : op ≤ 5) : PS b n 5 op p =
    if dgI (nxI b n p) = true then (p + (numK b n p 4).1, false, [(numK b n p 4).2])
    else if nxI b n p = 107 ∨ nxI b n p = 118 ∨ nxI b n p = 109 then (p + 1, false, [-(nxI b n p)])
    else if nxI b n p = 33 ∧ op < 5 then ((PS b n 5 (op + 1) (p + 1)).1, (PS b n 5 (op + 1) (p + 1)).2.1, (PS b n 5 (op + 1) (p + 1)).2.2 ++ [-33])
    else if nxI b n p = 40 ∧ op < 5 then
      (if (PS b n 0 (op + 1) (p + 1)).2.1 = false ∧ nxI b n (PS b n 0 (op + 1) (p + 1)).1 = 41 then ((PS b n 0 (op + 1) (p + 1)).1 + 1, false, (PS b n 0 (op + 1) (p + 1)).2.2)
       else ((PS b n 0 (op + 1) (p + 1)).1, true, (PS b n 0 (op + 1) (p + 1)).2.2))
    else (p, true, []) := by
  have e : PS b n 5 op p = psR b n (8 * (5 - op) + 1 + 1) 5 op p := by unfold PS fuelR; congr 1
  rw [e, psR_s, if_neg (by decide)]
  by_cases c3 : op < 5
  · rw [psG b n 5 (op + 1) (by omega) (by omega) _ (by unfold fuelR; omega), psG b n 0 (op + 1) (by omega) (by omega) _ (by unfold fuelR; omega)]
  · have n1 : ¬ (nxI b n p = 33 ∧ op < 5) := fun q => c3 q.2
    have n2 : ¬ (nxI b n p = 40 ∧ op < 5) := fun q => c3 q.2
    simp only [if_neg n1, if_neg n2]
theorem pT_PS (b : Nat → Int32) (n : Nat) : pT b n = PS b n 0 0 0 := congrFun (psG b n 0 0 (by omega) (by omega) 48 (by unfold fuelR; omega)) 0
/-- a loop that stands still stands still for good -/
theorem pLoop_z {rd : Nat → PR} {b : Nat → Int32} {n lv : Nat} {r : PR} (h : ¬ (r.2.1 = false ∧ lvI (nxI b n r.1) = nI lv)) : ∀ k, pLoop rd b n lv k r = r
  | 0 => rfl
  | k + 1 => by rw [pLoop, if_neg h]
theorem pLoop_s {rd : Nat → PR} {b : Nat → Int32} {n lv : Nat} {r : PR} (h : r.2.1 = false ∧ lvI (nxI b n r.1) = nI lv) (k : Nat) : pLoop rd b n lv (k + 1) r = pLoop rd b n lv k ((rd (r.1 + 1)).1, (rd (r.1 + 1)).2.1, r.2.2 ++ (rd (r.1 + 1)).2.2 ++ [-(nxI b n r.1)]) := by rw [pLoop, if_pos h]
