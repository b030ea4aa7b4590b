theorem if10 {c : Prop} {_ : Decidable c} : ((if c then (1 : Int32) else 0) = 0) = ¬ c := by
  by_cases h : c <;> simp [h]
theorem if01 {c : Prop} {_ : Decidable c} {r : Int32} (h : r = if c then 1 else 0) : (r = 0) = ¬ c := by rw [h]; exact if10
theorem nn {c : Prop} : (¬ ¬ c) = c := by by_cases h : c <;> simp [h]
theorem bI0 {b : Bool} : (bI b = 0) = ¬ b = true := by cases b <;> simp [bI]
theorem ii (a b : Int32) : a = b ↔ a.toInt = b.toInt := Int32.toInt_inj.symm
theorem nle {a b : Int32} : (¬ a ≤ b) = (b < a) := by simp
theorem nlt {a b : Int32} : (¬ a < b) = (b ≤ a) := by simp
theorem vp_lt {a b : Int32} {n : Nat} (h0 : 0 ≤ a) (h : a < b) (hb : b.toInt ≤ n) : vp_in a n := by
  rw [Int32.le_iff_toInt_le] at h0
  rw [Int32.lt_iff_toInt_lt] at h
  rw [vp_in_iff]
  simp only [Int32.reduceToInt] at h0
  omega
theorem cpr_0 (f : Fn) (o o2 : Nat) : cpr f o o2 0 = f := by
  funext a j
  by_cases h : a = o <;> simp [cpr, h]
theorem cpr_s (f : Fn) (o o2 n : Nat) : up2 (cpr f o o2 n) o n (cpr f o o2 n o2 n) = cpr f o o2 (n + 1) := by
  have e : cpr f o o2 n o2 n = f o2 n := by
    by_cases h : o2 = o
    · subst h; simp [cpr]
    · simp [cpr, h]
  rw [e]
  funext a j
  by_cases h : a = o
  · subst h
    rw [up2_same]
    by_cases hj : j = n
    · subst hj; simp [upd, cpr]
    · have : (j < n) = (j < n + 1) := by rw [eq_iff_iff]; omega
      simp [upd, cpr, hj, this]
  · rw [up2_ne _ h]
    simp [cpr, h]
theorem cpr_1 (f : Fn) (o o2 : Nat) : up2 f o 0 (f o2 0) = cpr f o o2 1 := by
  have := cpr_s f o o2 0
  rwa [cpr_0] at this
theorem up2_self (f : Fn) (k j : Nat) : up2 f k j (f k j) = f := by
  funext a b
  by_cases h : a = k
  · subst h
    rw [up2_same]
    by_cases hb : b = j
    · subst hb; simp [upd]
    · simp [upd, hb]
  · rw [up2_ne _ h]
theorem up2_at (f : Fn) (k j : Nat) (v : Int32) : up2 f k j v k j = v := by simp [up2, upd]
theorem up2_off (f : Fn) {k j : Nat} (v : Int32) {b : Nat} (h : b ≠ j) : up2 f k j v k b = f k b := by simp [up2, upd, h]
theorem eqM_rfl (g : Fn) : eqM g g := ⟨rfl, rfl, rfl, rfl, rfl, rfl, rfl, rfl, rfl, rfl⟩
