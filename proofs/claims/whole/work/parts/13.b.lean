/-! facts that a call of grind takes by name -/
theorem fst_hF {p : Nat → Bool} {k : Nat} (h : fst p k = none) (q : p k = true) : (∀ n, k < n → fst p n = some k) ∧ True := ⟨fun _ hn => fst_h h q hn, trivial⟩
theorem asT_aF {V : Vw} {x : Nat → Int32} {n : Nat} (h : asT V x n = true) : (∀ k, k < n → asT V x k = true → vOff V (vT V (vW V 3 + nI k)) 0 = x k) ∧ True := ⟨fun _ q _ => asT_at h q, trivial⟩
set_option maxHeartbeats 200000 in
theorem vc_X7_swingOf : vcS_X7_swingOf := by
  unfold vcS_X7_swingOf
  simp only [wp_X7_swingOf, pI_iff, pV_iff, pL_iff, Val_X7_swingOf, tn0, tn1, tn2, tn3, tn4, tn5, tn6, tn7, tn8, tn9, tn10, tn12, tn18, tn40, tn50, tn60, tn90, tn92, tn112, tn212, tnn1, ni0, ni1, ni2, ni3, ni4, ni5, ni6, ni7, er1, er2, er3, er4, er5, lg_cmp_lt, lg_cmp_le, lg_cmp_gt, lg_cmp_ge, lg_cmp_eq]
  intros
  (repeat' (first | with_reducible apply And.intro | with_reducible intro _)) <;> (try first | apply pR_some | apply pR_none) <;> first | grind [Val_X7_swingOf, up2_ap, cpr_ap, vp1, vp2, vp3, vp4, vp5, vp6, vp20, vp40, vp50, vp60, vp160, vp264, tnc, nIX, nIc, tncA, tncS, tncM, l56, eqM_rfl, up2_row, InvF, InvF0, dF1, dF2, sw0, sw1, InvT]
set_option maxHeartbeats 200000 in
theorem vc_X7_lawOf : vcS_X7_lawOf := by
  unfold vcS_X7_lawOf
  simp only [wp_X7_lawOf, pI_iff, pV_iff, pL_iff, Val_X7_lawOf, tn0, tn1, tn2, tn3, tn4, tn5, tn6, tn7, tn8, tn9, tn10, tn12, tn18, tn40, tn50, tn60, tn90, tn92, tn112, tn212, tnn1, ni0, ni1, ni2, ni3, ni4, ni5, ni6, ni7, er1, er2, er3, er4, er5, lg_cmp_lt, lg_cmp_le, lg_cmp_gt, lg_cmp_ge, lg_cmp_eq]
  intros
  (repeat' (first | with_reducible apply And.intro | with_reducible intro _)) <;> (try first | apply pR_some | apply pR_none) <;> first | grind [Val_X7_lawOf, up2_ap, cpr_ap, vp1, vp2, vp3, vp4, vp5, vp6, vp20, vp40, vp50, vp60, vp160, vp264, tnc, nIX, nIc, tncA, tncS, tncM, l56, eqM_rfl, up2_row, InvF, InvF0, dF1, dF2, sw0, sw1, InvT]
set_option maxHeartbeats 200000 in
theorem vc_X7_flyerOf : vcS_X7_flyerOf := by
  unfold vcS_X7_flyerOf
  simp only [wp_X7_flyerOf, pI_iff, pV_iff, pL_iff, Val_X7_flyerOf, tn0, tn1, tn2, tn3, tn4, tn5, tn6, tn7, tn8, tn9, tn10, tn12, tn18, tn40, tn50, tn60, tn90, tn92, tn112, tn212, tnn1, ni0, ni1, ni2, ni3, ni4, ni5, ni6, ni7, er1, er2, er3, er4, er5, lg_cmp_lt, lg_cmp_le, lg_cmp_gt, lg_cmp_ge, lg_cmp_eq]
  intros
  (repeat' (first | with_reducible apply And.intro | with_reducible intro _)) <;> (try first | apply pR_some | apply pR_none) <;> first | grind [Val_X7_flyerOf, up2_ap, cpr_ap, vp1, vp2, vp3, vp4, vp5, vp6, vp20, vp40, vp50, vp60, vp160, vp264, tnc, nIX, nIc, tncA, tncS, tncM, l56, eqM_rfl, up2_row, InvF, InvF0, dF1, dF2, sw0, sw1, InvT]
set_option maxHeartbeats 200000 in
theorem vc_X7_addByte : vcS_X7_addByte := by
  unfold vcS_X7_addByte
  simp only [wp_X7_addByte, pI_iff, pV_iff, pL_iff, Post_X7_addByte, tn0, tn1, tn2, tn3, tn4, tn5, tn6, tn7, tn8, tn9, tn10, tn12, tn18, tn40, tn50, tn60, tn90, tn92, tn112, tn212, tnn1, ni0, ni1, ni2, ni3, ni4, ni5, ni6, ni7, er1, er2, er3, er4, er5, lg_cmp_lt, lg_cmp_le, lg_cmp_gt, lg_cmp_ge, lg_cmp_eq]
  intros
  (repeat' (first | with_reducible apply And.intro | with_reducible intro _)) <;> (try first | apply pR_some | apply pR_none) <;> first | grind [up2_ap, cpr_ap, vp1, vp2, vp3, vp4, vp5, vp6, vp20, vp40, vp50, vp60, vp160, vp264, tnc, nIX, nIc, tncA, tncS, tncM, l56, eqM_rfl, up2_row, InvF, InvF0, dF1, dF2, sw0, sw1, InvT]
set_option maxHeartbeats 200000 in
theorem vc_X7_addWaiting : vcS_X7_addWaiting := by
  unfold vcS_X7_addWaiting
  simp only [wp_X7_addWaiting, pI_iff, pV_iff, pL_iff, Post_X7_addWaiting, tn0, tn1, tn2, tn3, tn4, tn5, tn6, tn7, tn8, tn9, tn10, tn12, tn18, tn40, tn50, tn60, tn90, tn92, tn112, tn212, tnn1, ni0, ni1, ni2, ni3, ni4, ni5, ni6, ni7, er1, er2, er3, er4, er5, lg_cmp_lt, lg_cmp_le, lg_cmp_gt, lg_cmp_ge, lg_cmp_eq]
  intros
  (repeat' (first | with_reducible apply And.intro | with_reducible intro _)) <;> (try first | apply pR_some | apply pR_none) <;> first | grind [up2_ap, cpr_ap, vp1, vp2, vp3, vp4, vp5, vp6, vp20, vp40, vp50, vp60, vp160, vp264, tnc, nIX, nIc, tncA, tncS, tncM, l56, eqM_rfl, up2_row, InvF, InvF0, dF1, dF2, sw0, sw1, InvT]
set_option maxHeartbeats 200000 in
theorem vc_X7_draw : vcS_X7_draw := by
  unfold vcS_X7_draw
  simp only [wp_X7_draw, pI_iff, pV_iff, pL_iff, Post_X7_draw, tn0, tn1, tn2, tn3, tn4, tn5, tn6, tn7, tn8, tn9, tn10, tn12, tn18, tn40, tn50, tn60, tn90, tn92, tn112, tn212, tnn1, ni0, ni1, ni2, ni3, ni4, ni5, ni6, ni7, er1, er2, er3, er4, er5, lg_cmp_lt, lg_cmp_le, lg_cmp_gt, lg_cmp_ge, lg_cmp_eq]
  intros
  (repeat' (first | with_reducible apply And.intro | with_reducible intro _)) <;> (try first | apply pR_some | apply pR_none) <;> first | grind [up2_ap, cpr_ap, vp1, vp2, vp3, vp4, vp5, vp6, vp20, vp40, vp50, vp60, vp160, vp264, tnc, nIX, nIc, tncA, tncS, tncM, l56, eqM_rfl, up2_row, InvF, InvF0, dF1, dF2, sw0, sw1, InvT]
set_option maxHeartbeats 1000000 in
theorem vc_X7_copyA : vcS_X7_copyA := by
  intro f0
  simp only [wp_X7_copyA, wp_X7_copyA_L64]
  intro f1 h1 f3 h3
  unfold Post_X4_copy at h1 h3
  have e3 : ∀ a j, f3 a j = if a = 21 then (if j < 3 then f0 3 j else f0 21 j) else if a = 20 then (if j < 3 then f0 2 j else f0 20 j) else f0 a j := by
    intro a j
    subst h1 h3
    simp only [cpr_ap]
    grind
  clear h1 h3
  refine ⟨fun (f : Fn) (x2 : Int32) => ∃ k : Nat, k ≤ 6 ∧ x2 = nI k ∧ ∀ a j, f a j = if 23 ≤ a ∧ a < 23 + k then (if j < 4 then f0 (a - 18) j else f0 a j) else if a = 19 ∧ (j = 2 ∨ j = 3 ∨ j = 4 ∨ j = 5 ∨ j = 7) then f0 1 j else f3 a j, fun _ x2 => 10 - x2.toNatClampNeg, ⟨0, by omega, rfl, fun a j => by simp only [up2_ap]; grind⟩, ?_⟩
  rintro f x2 ⟨k, hk, rfl, hI⟩
  simp only [wpb_X7_copyA_L64, wp_X7_copyA_L100, pV_iff]
  refine ⟨fun h f6 e6 f8 e8 f10 e10 f12 e12 => ?_, fun h => ?_⟩
  · have h' : nI 6 ≤ nI k := h
    rw [nI_leI (by decide) (by omega)] at h'
    have k6 : k = 6 := by omega
    subst k6
    have d6 : ∀ a j, f6 a j = if a = 29 then (if j < 50 then f 11 j else f 29 j) else f a j := by
      intro a j
      rw [e6]
      by_cases q : a = 29
      · simp only [if_pos q, va_cpy, tn0, tn50, Nat.zero_le, true_and, Nat.zero_add, Nat.sub_zero]
      · simp only [if_neg q]
    have d8 : ∀ a j, f8 a j = if a = 30 then (if j = 5 then minI (f6 12 5) 50 else f6 30 j) else if a = 31 then (if j < (minI (f6 12 5) 50).toNatClampNeg then f6 13 j else f6 31 j) else if a = 19 ∧ j = 9 then f6 1 9 else f6 a j := by
      intro a j
      unfold Post_X1_copy Post_X1_take at e8
      by_cases q1 : a = 30
      · subst q1; simp [e8, upd, up2_ap]
      · by_cases q2 : a = 31
        · subst q2; simp [e8, upd, up2_ap]
        · simp only [e8, q1, q2, if_false, up2_ap]
          try grind
    have d10 : ∀ a j, f10 a j = if a = 33 then (if j = 5 then minI (f8 15 5) 50 else f8 33 j) else if a = 34 then (if j < (minI (f8 15 5) 50).toNatClampNeg then f8 16 j else f8 34 j) else f8 a j := by
      intro a j
      unfold Post_X1_copy Post_X1_take at e10
      by_cases q1 : a = 33
      · subst q1; simp [e10, upd, up2_ap]
      · by_cases q2 : a = 34
        · subst q2; simp [e10, upd, up2_ap]
        · simp only [e10, q1, q2, if_false, up2_ap]
          try grind
    have d12 : ∀ a j, up2 f12 19 17 (f12 1 17) a j = if a = 36 then (if j < 20 then f10 18 j else f10 36 j) else if a = 19 ∧ (j = 12 ∨ j = 13 ∨ j = 14 ∨ j = 15 ∨ j = 17) then f10 1 j else f10 a j := by
      intro a j
      by_cases q1 : a = 36
      · subst q1; simp [e12, va_cpy, tn0, show (20 : Int32).toNatClampNeg = 20 by decide, up2_ap]
      · by_cases q2 : a = 19
        · subst q2; simp [e12, up2_ap]; grind
        · simp [e12, q1, q2, up2_ap]
    generalize up2 f12 19 17 (f12 1 17) = g at d12 ⊢
    clear e6 e8 e10 e12 h h'
    have rw6 : ∀ a j, f a j = if 23 ≤ a ∧ a < 29 then (if j < 4 then f0 (a - 18) j else f0 a j) else if a = 19 ∧ (j = 2 ∨ j = 3 ∨ j = 4 ∨ j = 5 ∨ j = 7) then f0 1 j else if a = 21 then (if j < 3 then f0 3 j else f0 21 j) else if a = 20 then (if j < 3 then f0 2 j else f0 20 j) else f0 a j := by
      intro a j
      rw [hI, e3]
    have all : ∀ a j, g a j = if a = 36 then (if j < 20 then f0 18 j else f0 36 j) else if a = 19 ∧ (j = 2 ∨ j = 3 ∨ j = 4 ∨ j = 5 ∨ j = 7 ∨ j = 9 ∨ j = 12 ∨ j = 13 ∨ j = 14 ∨ j = 15 ∨ j = 17) then f0 1 j
        else if a = 33 then (if j = 5 then minI (f0 15 5) 50 else f0 33 j) else if a = 34 then (if j < (minI (f0 15 5) 50).toNatClampNeg then f0 16 j else f0 34 j)
        else if a = 30 then (if j = 5 then minI (f0 12 5) 50 else f0 30 j) else if a = 31 then (if j < (minI (f0 12 5) 50).toNatClampNeg then f0 13 j else f0 31 j)
        else if a = 29 then (if j < 50 then f0 11 j else f0 29 j) else if 23 ≤ a ∧ a < 29 then (if j < 4 then f0 (a - 18) j else f0 a j)
        else if a = 21 then (if j < 3 then f0 3 j else f0 21 j) else if a = 20 then (if j < 3 then f0 2 j else f0 20 j) else f0 a j := by
      intro a j
      rw [d12]
      simp only [d10, d8, d6, rw6]
      grind (splits := 40)
    clear d12 d10 d8 d6 rw6 hI e3
    refine ⟨fun a ha => funext fun j => ?_, fun j hj => ?_, fun j hj => ?_, fun j hj => ?_, fun i j hi hj => ?_, fun j hj => ?_, fun j hj => ?_, fun j hj => ?_, ?_, fun j hj => ?_, fun j hj => ?_, ?_, fun j hj => ?_⟩ <;> rw [all] <;> grind (splits := 40)
  · have h' : ¬ nI 6 ≤ nI k := h
    rw [nI_leI (by decide) (by omega)] at h'
    have l2 : ∀ n q : Nat, ([23, 24, 25, 26, 27, 28] : List Nat)[n]? = some q → q = 23 + n ∧ n < 6 := by
      intro n q hq
      match n, hq with
      | 0, hq | 1, hq | 2, hq | 3, hq | 4, hq | 5, hq => simp at hq; omega
      | n + 6, hq => simp at hq
    have l3 : ∀ n q : Nat, ([5, 6, 7, 8, 9, 10] : List Nat)[n]? = some q → q = 5 + n ∧ n < 6 := by
      intro n q hq
      match n, hq with
      | 0, hq | 1, hq | 2, hq | 3, hq | 4, hq | 5, hq => simp at hq; omega
      | n + 6, hq => simp at hq
    have isf : ∀ n q : Nat, n < 6 → (q = 5 + n ∨ q = 23 + n) → isFl q := by
      intro n q h1 h2
      match n, h1 with
      | 0, _ | 1, _ | 2, _ | 3, _ | 4, _ | 5, _ => rcases h2 with h2 | h2 <;> subst h2 <;> rfl
      | n + 6, h1 => omega
    rw [nI_clamp (by omega)]
    refine ⟨vp_in_nI (by omega) (by omega), fun k15 q15 => ⟨vp_in_nI (by omega) (by omega), fun k18 q18 => ⟨isf k _ (by omega) (by have := (l2 _ _ q15).1; omega), isf k _ (by omega) (by have := (l3 _ _ q18).1; omega), fun f22 e22 => ⟨⟨k + 1, by omega, by rw [nI_1], fun a j => ?_⟩, ?_⟩⟩⟩⟩
    · have a15 := (l2 _ _ q15).1
      have a18 := (l3 _ _ q18).1
      subst a15 a18
      unfold Post_X0_copy at e22
      subst e22
      simp only [cpr_ap]
      simp only [hI]
      have e3' := e3
      grind
    · rw [nI_1, nI_clamp (by omega)]; omega
set_option maxHeartbeats 1000000 in
theorem vc_X7_copyB : vcS_X7_copyB := by
  intro f0
  simp only [wp_X7_copyB, wp_X7_copyB_L64]
  intro f1 h1 f3 h3
  unfold Post_X4_copy at h1 h3
  have e3 : ∀ a j, f3 a j = if a = 3 then (if j < 3 then f0 21 j else f0 3 j) else if a = 2 then (if j < 3 then f0 20 j else f0 2 j) else f0 a j := by
    intro a j
    subst h1 h3
    simp only [cpr_ap]
    grind
  clear h1 h3
  refine ⟨fun (f : Fn) (x2 : Int32) => ∃ k : Nat, k ≤ 6 ∧ x2 = nI k ∧ ∀ a j, f a j = if 5 ≤ a ∧ a < 5 + k then (if j < 4 then f0 (a + 18) j else f0 a j) else if a = 1 ∧ (j = 2 ∨ j = 3 ∨ j = 4 ∨ j = 5 ∨ j = 7) then f0 19 j else f3 a j, fun _ x2 => 10 - x2.toNatClampNeg, ⟨0, by omega, rfl, fun a j => by simp only [up2_ap]; grind⟩, ?_⟩
  rintro f x2 ⟨k, hk, rfl, hI⟩
  simp only [wpb_X7_copyB_L64, wp_X7_copyB_L100, pV_iff]
  refine ⟨fun h f6 e6 f8 e8 f10 e10 f12 e12 => ?_, fun h => ?_⟩
  · have h' : nI 6 ≤ nI k := h
    rw [nI_leI (by decide) (by omega)] at h'
    have k6 : k = 6 := by omega
    subst k6
    have d6 : ∀ a j, f6 a j = if a = 11 then (if j < 50 then f 29 j else f 11 j) else f a j := by
      intro a j
      rw [e6]
      by_cases q : a = 11
      · simp only [if_pos q, va_cpy, tn0, tn50, Nat.zero_le, true_and, Nat.zero_add, Nat.sub_zero]
      · simp only [if_neg q]
    have d8 : ∀ a j, f8 a j = if a = 12 then (if j = 5 then minI (f6 30 5) 50 else f6 12 j) else if a = 13 then (if j < (minI (f6 30 5) 50).toNatClampNeg then f6 31 j else f6 13 j) else if a = 1 ∧ j = 9 then f6 19 9 else f6 a j := by
      intro a j
      unfold Post_X1_copy Post_X1_take at e8
      by_cases q1 : a = 12
      · subst q1; simp [e8, upd, up2_ap]
      · by_cases q2 : a = 13
        · subst q2; simp [e8, upd, up2_ap]
        · simp only [e8, q1, q2, if_false, up2_ap]
          try grind
    have d10 : ∀ a j, f10 a j = if a = 15 then (if j = 5 then minI (f8 33 5) 50 else f8 15 j) else if a = 16 then (if j < (minI (f8 33 5) 50).toNatClampNeg then f8 34 j else f8 16 j) else f8 a j := by
      intro a j
      unfold Post_X1_copy Post_X1_take at e10
      by_cases q1 : a = 15
      · subst q1; simp [e10, upd, up2_ap]
      · by_cases q2 : a = 16
        · subst q2; simp [e10, upd, up2_ap]
        · simp only [e10, q1, q2, if_false, up2_ap]
          try grind
    have d12 : ∀ a j, up2 f12 1 17 (f12 19 17) a j = if a = 18 then (if j < 20 then f10 36 j else f10 18 j) else if a = 1 ∧ (j = 12 ∨ j = 13 ∨ j = 14 ∨ j = 15 ∨ j = 17) then f10 19 j else f10 a j := by
      intro a j
      by_cases q1 : a = 18
      · subst q1; simp [e12, va_cpy, tn0, show (20 : Int32).toNatClampNeg = 20 by decide, up2_ap]
      · by_cases q2 : a = 1
        · subst q2; simp [e12, up2_ap]; grind
        · simp [e12, q1, q2, up2_ap]
    generalize up2 f12 1 17 (f12 19 17) = g at d12 ⊢
    clear e6 e8 e10 e12 h h'
    have rw6 : ∀ a j, f a j = if 5 ≤ a ∧ a < 11 then (if j < 4 then f0 (a + 18) j else f0 a j) else if a = 1 ∧ (j = 2 ∨ j = 3 ∨ j = 4 ∨ j = 5 ∨ j = 7) then f0 19 j else if a = 3 then (if j < 3 then f0 21 j else f0 3 j) else if a = 2 then (if j < 3 then f0 20 j else f0 2 j) else f0 a j := by
      intro a j
      rw [hI, e3]
    have all : ∀ a j, g a j = if a = 18 then (if j < 20 then f0 36 j else f0 18 j) else if a = 1 ∧ (j = 2 ∨ j = 3 ∨ j = 4 ∨ j = 5 ∨ j = 7 ∨ j = 9 ∨ j = 12 ∨ j = 13 ∨ j = 14 ∨ j = 15 ∨ j = 17) then f0 19 j
        else if a = 15 then (if j = 5 then minI (f0 33 5) 50 else f0 15 j) else if a = 16 then (if j < (minI (f0 33 5) 50).toNatClampNeg then f0 34 j else f0 16 j)
        else if a = 12 then (if j = 5 then minI (f0 30 5) 50 else f0 12 j) else if a = 13 then (if j < (minI (f0 30 5) 50).toNatClampNeg then f0 31 j else f0 13 j)
        else if a = 11 then (if j < 50 then f0 29 j else f0 11 j) else if 5 ≤ a ∧ a < 11 then (if j < 4 then f0 (a + 18) j else f0 a j)
        else if a = 3 then (if j < 3 then f0 21 j else f0 3 j) else if a = 2 then (if j < 3 then f0 20 j else f0 2 j) else f0 a j := by
      intro a j
      rw [d12]
      simp only [d10, d8, d6, rw6]
      grind (splits := 40)
    clear d12 d10 d8 d6 rw6 hI e3
    refine ⟨fun a ha => funext fun j => ?_, fun j hj => ?_, fun j hj => ?_, fun j hj => ?_, fun i j hi hj => ?_, fun j hj => ?_, fun j hj => ?_, fun j hj => ?_, ?_, fun j hj => ?_, fun j hj => ?_, ?_, fun j hj => ?_⟩ <;> rw [all] <;> grind (splits := 40)
  · have h' : ¬ nI 6 ≤ nI k := h
    rw [nI_leI (by decide) (by omega)] at h'
    have l2 : ∀ n q : Nat, ([5, 6, 7, 8, 9, 10] : List Nat)[n]? = some q → q = 5 + n ∧ n < 6 := by
      intro n q hq
      match n, hq with
      | 0, hq | 1, hq | 2, hq | 3, hq | 4, hq | 5, hq => simp at hq; omega
      | n + 6, hq => simp at hq
    have l3 : ∀ n q : Nat, ([23, 24, 25, 26, 27, 28] : List Nat)[n]? = some q → q = 23 + n ∧ n < 6 := by
      intro n q hq
      match n, hq with
      | 0, hq | 1, hq | 2, hq | 3, hq | 4, hq | 5, hq => simp at hq; omega
      | n + 6, hq => simp at hq
    have isf : ∀ n q : Nat, n < 6 → (q = 5 + n ∨ q = 23 + n) → isFl q := by
      intro n q h1 h2
      match n, h1 with
      | 0, _ | 1, _ | 2, _ | 3, _ | 4, _ | 5, _ => rcases h2 with h2 | h2 <;> subst h2 <;> rfl
      | n + 6, h1 => omega
    rw [nI_clamp (by omega)]
    refine ⟨vp_in_nI (by omega) (by omega), fun k15 q15 => ⟨vp_in_nI (by omega) (by omega), fun k18 q18 => ⟨isf k _ (by omega) (by have := (l2 _ _ q15).1; omega), isf k _ (by omega) (by have := (l3 _ _ q18).1; omega), fun f22 e22 => ⟨⟨k + 1, by omega, by rw [nI_1], fun a j => ?_⟩, ?_⟩⟩⟩⟩
    · have a15 := (l2 _ _ q15).1
      have a18 := (l3 _ _ q18).1
      subst a15 a18
      unfold Post_X0_copy at e22
      subst e22
      simp only [cpr_ap]
      simp only [hI]
      have e3' := e3
      grind
    · rw [nI_1, nI_clamp (by omega)]; omega
theorem vc_X5_start : vcS_X5_start := by
  intro o f ho
  simp only [wp_X5_start]
  intro f1 h1 f3 h3 f5 h5
  rw [pV_iff]
  unfold Post_X4_copy at h1 h3
  unfold Post_X0_copy at h5
  subst h1 h3 h5
  rfl
theorem vc_X5_fly : vcS_X5_fly := by
  intro f a1 a2
  simp only [wp_X5_fly]
  rintro r1 f2 ⟨h1, h2⟩ r4 f5 ⟨h3, h4⟩
  rw [pV_iff]
  have z : ∀ a, a ≠ 14 → f2 a = f a := h2
  have e15 : f2 15 = f 15 := z 15 (by decide)
  have e16 : f2 16 = f 16 := z 16 (by decide)
  have e40 : f2 40 = f 40 := z 40 (by decide)
  have e37 : f2 37 = f 37 := z 37 (by decide)
  rw [up2_row _ _ _ _ 15 (by decide), up2_row _ _ _ _ (15 + 1) (by decide), e40, e15, show f2 (15 + 1) = f (15 + 1) from e16] at h3
  have h4' : ∀ a, a ≠ 17 → f5 a = up2 f2 37 7 (a1 + f 37 6 + a2 + r1) a := h4
  refine ⟨⟨fun a p q r => ?_, ?_, ?_⟩, ?_, ?_⟩
  · rw [up2_row _ _ _ _ _ r, h4' a q, up2_row _ _ _ _ _ r, z a p]
  · rw [up2_off _ _ (by decide), h4' 37 (by decide), up2_off _ _ (by decide), e37]
  · rw [up2_off _ _ (by decide), h4' 37 (by decide), up2_off _ _ (by decide), e37]
  · rw [up2_off _ _ (by decide), h4' 37 (by decide), up2_at, h1]
    rfl
  · rw [up2_at, h3]
    rfl
set_option maxHeartbeats 200000 in
theorem vc_X5_off : vcS_X5_off := by
  unfold vcS_X5_off
  simp only [wp_X5_off, pI_iff, pV_iff, pL_iff, Val_X5_off, tn0, tn1, tn2, tn3, tn4, tn5, tn6, tn7, tn8, tn9, tn10, tn12, tn18, tn40, tn50, tn60, tn90, tn92, tn112, tn212, tnn1, ni0, ni1, ni2, ni3, ni4, ni5, ni6, ni7, er1, er2, er3, er4, er5, lg_cmp_lt, lg_cmp_le, lg_cmp_gt, lg_cmp_ge, lg_cmp_eq]
  intros
  (repeat' (first | with_reducible apply And.intro | with_reducible intro _)) <;> (try first | apply pR_some | apply pR_none) <;> first | grind [Val_X5_off, fmodI, remI, absI, Val_X4_placeAt, up2_ap, cpr_ap, vp1, vp2, vp3, vp4, vp5, vp6, vp20, vp40, vp50, vp60, vp160, vp264, tnc, nIX, nIc, tncA, tncS, tncM, l56, eqM_rfl, up2_row, InvF, InvF0, dF1, dF2, sw0, sw1, InvT]
set_option maxHeartbeats 200000 in
theorem vc_X5_isHeld : vcS_X5_isHeld := by
  unfold vcS_X5_isHeld
  simp only [wp_X5_isHeld, pI_iff, pV_iff, pL_iff, Val_X5_isHeld, tn0, tn1, tn2, tn3, tn4, tn5, tn6, tn7, tn8, tn9, tn10, tn12, tn18, tn40, tn50, tn60, tn90, tn92, tn112, tn212, tnn1, ni0, ni1, ni2, ni3, ni4, ni5, ni6, ni7, er1, er2, er3, er4, er5, lg_cmp_lt, lg_cmp_le, lg_cmp_gt, lg_cmp_ge, lg_cmp_eq]
  intros
  (repeat' (first | with_reducible apply And.intro | with_reducible intro _)) <;> (try first | apply pR_some | apply pR_none) <;> first | grind [Val_X5_isHeld, holdsI, maxI, absI, Val_J9_abs_0f7a4, Val_X0_holds, up2_ap, cpr_ap, vp1, vp2, vp3, vp4, vp5, vp6, vp20, vp40, vp50, vp60, vp160, vp264, tnc, nIX, nIc, tncA, tncS, tncM, l56, eqM_rfl, up2_row, InvF, InvF0, dF1, dF2, sw0, sw1, InvT]
theorem vc_X5_isCaught : vcS_X5_isCaught := by
  intro f a1
  simp only [wp_X5_isCaught]
  rintro f1 ⟨h1, h2, h3⟩
  have z : a1 + f 37 6 + 0 = vT (TV f) a1 := by show _ = a1 + f 37 6; grind
  rw [z] at h2 h3
  have hv : Val_X5_isHeld f1 (Val_X5_off f1 0) = bI (vCt (TV f) a1) := by
    have e1 : f1 1 = f 1 := TF1 h1
    have e39 : f1 39 = f 39 := h1.1 39 (by decide) (by decide) (by decide)
    have e40 : f1 40 = f 40 := h1.1 40 (by decide) (by decide) (by decide)
    have eo : Val_X5_off f1 0 = vOff (TV f) (vT (TV f) a1) 0 := by
      unfold Val_X5_off
      rw [h2, h3, e1, e39]
      rfl
    unfold Val_X5_isHeld vCt vHeld bI
    rw [eo, e1, e40]
    have : vHd (TV f) = holdsI (f 40 0) (f 40 1) (f 40 3) (f 1 3) := rfl
    rw [this]
    by_cases q : absI (vOff (TV f) (vT (TV f) a1) 0) ≤ holdsI (f 40 0) (f 40 1) (f 40 3) (f 1 3)
    · rw [if_pos q, if_pos (by simpa using q)]
    · rw [if_neg q, if_neg (by simpa using q)]
  rw [hv]
  refine ⟨?_, ?_⟩
  · unfold bI; split
    · exact Or.inr rfl
    · exact Or.inl rfl
  · rw [pI_iff]
    exact ⟨rfl, h1, h2, h3⟩
set_option maxHeartbeats 400000 in
theorem vc_X5_howManyCaught : vcS_X5_howManyCaught := by
  unfold vcS_X5_howManyCaught
  intro f0 a1
  simp only [wp_X5_howManyCaught, wp_X5_howManyCaught_L4]
  refine ⟨fun f x1 x2 x3 => x1 = a1 ∧ 0 ≤ x3 ∧ (x3 = 0 ∨ x3 ≤ a1) ∧ x2 = cntI (canP (TV f0)) x3.toNatClampNeg ∧ TFr f0 f, fun f x1 x2 x3 => 2147483648 - x3.toNatClampNeg, ?_, ?_⟩
  · grind [→ icC, → cas3, cnt_s, cnt_0, fst_0, fst_s, oI_n, oI_s, bI, bst_s, bst_0, TFrr, tn1e, nItn, tnc]
  · intro f x1 x2 x3 hI
    simp only [wp_X5_howManyCaught_L31, wpb_X5_howManyCaught_L4, wp_X5_howManyCaught_L4, wp_X5_howManyCaught, pI_iff, pV_iff, Post_X5_howManyCaught] at hI ⊢
    (repeat' (first | with_reducible apply And.intro | with_reducible intro _)) <;> first | grind [→ icC, → cas3, cnt_s, cnt_0, fst_0, fst_s, oI_n, oI_s, bI, bst_s, bst_0, TFrr, tn1e, nItn, tnc]
set_option maxHeartbeats 400000 in
theorem vc_X5_firstCaught : vcS_X5_firstCaught := by
  unfold vcS_X5_firstCaught
  intro f0 a1
  simp only [wp_X5_firstCaught, wp_X5_firstCaught_L2]
  refine ⟨fun f x1 x2 => x1 = a1 ∧ 0 ≤ x2 ∧ (x2 = 0 ∨ x2 ≤ a1) ∧ fst (canP (TV f0)) x2.toNatClampNeg = none ∧ TFr f0 f, fun f x1 x2 => 2147483648 - x2.toNatClampNeg, ?_, ?_⟩
  · grind [→ icC, → cas3, cnt_s, cnt_0, fst_0, fst_s, oI_n, oI_s, → bI_1, → bI_0, bst_s, bst_0, TFrr, tn1e, nItn, tnc]
  · intro f x1 x2 hI
    simp only [wpb_X5_firstCaught_L2, wp_X5_firstCaught_L2, wp_X5_firstCaught, pI_iff, pV_iff, Post_X5_firstCaught] at hI ⊢
    (repeat' (first | with_reducible apply And.intro | with_reducible intro _)) <;> first | grind [→ fst_hF, → icC, → cas3, cnt_s, cnt_0, fst_0, fst_s, oI_n, oI_s, → bI_1, → bI_0, bst_s, bst_0, TFrr, tn1e, nItn, tnc]
theorem vc_X5_casesCaught : vcS_X5_casesCaught := by
  intro f0 a1
  simp only [wp_X5_casesCaught, wp_X5_casesCaught_L4]
  generalize hV : TV f0 = V
  have hh : ∃ h : Int32 → Int32 → Int32, h = fun t a => bI (vHeld V (vOff V (vT V a1 + t) a)) := ⟨_, rfl⟩
  obtain ⟨h, hh⟩ := hh
  have hR : ∃ R : Int32 → Int32 → Int32, R = fun t x => if x = -1 then 0 else if x = 0 then h t (-1) else if x = 1 then h t (-1) + h t 0 else h t (-1) + h t 0 + h t 1 := ⟨_, rfl⟩
  obtain ⟨R, hR⟩ := hR
  have hS : ∃ S : Int32 → Int32, S = fun x => if x = -1 then 0 else if x = 0 then R (-1) 2 else if x = 1 then R (-1) 2 + R 0 2 else R (-1) 2 + R 0 2 + R 1 2 := ⟨_, rfl⟩
  obtain ⟨S, hS⟩ := hS
  have rS : ∀ t x, (x = -1 ∨ x = 0 ∨ x = 1) → R t (x + 1) = R t x + h t x := by
    rintro t x (rfl | rfl | rfl)
    · rw [show (-1 : Int32) + 1 = 0 by decide]; subst hR; simp
    · rw [show (0 : Int32) + 1 = 1 by decide]; subst hR; simp
    · rw [show (1 : Int32) + 1 = 2 by decide]; subst hR; simp
  have sS : ∀ x, (x = -1 ∨ x = 0 ∨ x = 1) → S (x + 1) = S x + R x 2 := by
    rintro x (rfl | rfl | rfl)
    · rw [show (-1 : Int32) + 1 = 0 by decide]; subst hS; simp
    · rw [show (0 : Int32) + 1 = 1 by decide]; subst hS; simp
    · rw [show (1 : Int32) + 1 = 2 by decide]; subst hS; simp
  have r0 : ∀ t, R t (-1) = 0 := fun t => by subst hR; simp
  have s0 : S (-1) = 0 := by subst hS; simp
  have sE : S 2 = casI V a1 := by
    have : S 2 = R (-1) 2 + R 0 2 + R 1 2 := by subst hS; simp
    rw [this]
    have : ∀ t, R t 2 = h t (-1) + h t 0 + h t 1 := fun t => by subst hR; simp
    rw [this, this, this, hh]
    unfold casI
    have : vT V a1 + 0 = vT V a1 := by grind
    simp only [this]
    grind
  refine ⟨fun (f : Fn) (x1 x2 x3 : Int32) => x1 = a1 ∧ (x3 = -1 ∨ x3 = 0 ∨ x3 = 1 ∨ x3 = 2) ∧ x2 = S x3 ∧ TFr f0 f, fun _ _ _ x3 => 4 - (x3 + 1).toNatClampNeg, ⟨rfl, Or.inl rfl, s0.symm, TFrr _⟩, ?_⟩
  rintro f x1 x2 x3 ⟨rfl, h3, rfl, h4⟩
  simp only [wpb_X5_casesCaught_L4, wp_X5_casesCaught_L18, pI_iff]
  refine ⟨fun q => ?_, fun q f2 p => ?_⟩
  · have : x3 = 2 := by grind
    subst this
    refine ⟨?_, h4⟩
    rw [sE, hV]
  · have h3' : x3 = -1 ∨ x3 = 0 ∨ x3 = 1 := by grind
    obtain ⟨p1, p2, p3⟩ := p
    have g1 := TFrt h4 p1
    have et : x1 + f 37 6 + x3 = vT V x1 + x3 := by rw [h4.2.1, ← hV]; rfl
    rw [TVT h4, hV, et] at p2 p3
    refine ⟨fun (f : Fn) (y1 y2 y3 y4 : Int32) => y1 = x1 ∧ y3 = x3 ∧ (y4 = -1 ∨ y4 = 0 ∨ y4 = 1 ∨ y4 = 2) ∧ y2 = S x3 + R x3 y4 ∧ TFr f0 f ∧ f 37 7 = vC V (vT V x1 + x3) ∧ f 37 8 = vPl V (vT V x1 + x3), fun _ _ _ _ x4 => 4 - (x4 + 1).toNatClampNeg, ⟨rfl, rfl, Or.inl rfl, by rw [r0]; grind, g1, p2, p3⟩, ?_⟩
    rintro f5 y1 y2 y3 y4 ⟨rfl, rfl, h5, rfl, h6, h7, h8⟩
    simp only [wpb_X5_casesCaught_L18, wp_X5_casesCaught_L43]
    refine ⟨fun q2 => ?_, fun q2 => ?_⟩
    · have : y4 = 2 := by grind
      subst this
      refine ⟨⟨trivial, by grind, (sS _ h3').symm, h6⟩, ?_⟩
      rcases h3' with e | e | e <;> rw [e] <;> decide
    · have h5' : y4 = -1 ∨ y4 = 0 ∨ y4 = 1 := by grind
      have hv : Val_X5_isHeld f5 (Val_X5_off f5 y4) = h y3 y4 := by
        have e1 : f5 1 = f0 1 := TF1 h6
        have e39 : f5 39 = f0 39 := h6.1 39 (by decide) (by decide) (by decide)
        have e40 : f5 40 = f0 40 := h6.1 40 (by decide) (by decide) (by decide)
        have eo : Val_X5_off f5 y4 = vOff V (vT V y1 + y3) y4 := by
          unfold Val_X5_off vOff
          rw [h7, h8, e1, e39, ← hV]
          rfl
        rw [hh]
        show _ = bI (vHeld V (vOff V (vT V y1 + y3) y4))
        unfold Val_X5_isHeld vHeld bI
        rw [eo, e1, e40]
        have : vHd V = holdsI (f0 40 0) (f0 40 1) (f0 40 3) (f0 1 3) := by rw [← hV]; rfl
        rw [this]
        by_cases q : absI (vOff V (vT V y1 + y3) y4) ≤ holdsI (f0 40 0) (f0 40 1) (f0 40 3) (f0 1 3)
        · rw [if_pos q, if_pos (by simpa using q)]
        · rw [if_neg q, if_neg (by simpa using q)]
      have hm : 4 - (y4 + 1 + 1).toNatClampNeg < 4 - (y4 + 1).toNatClampNeg := by
        rcases h5' with e | e | e <;> rw [e] <;> decide
      have hb : h y3 y4 = 0 ∨ h y3 y4 = 1 := by rw [hh]; unfold bI; dsimp only; split <;> simp
      rw [hv]
      refine ⟨fun e => ⟨⟨trivial, trivial, by grind, ?_, h6, h7, h8⟩, hm⟩, fun e => ⟨⟨trivial, trivial, by grind, ?_, h6, h7, h8⟩, hm⟩⟩
      · rw [rS _ _ h5', e]; grind
      · have e1 : h y3 y4 = 1 := by rcases hb with e2 | e2; exact absurd e2 e; exact e2
        rw [rS _ _ h5', e1]; grind
set_option maxHeartbeats 400000 in
theorem vc_X5_surestWait : vcS_X5_surestWait := by
  unfold vcS_X5_surestWait
  intro f0 a1
  simp only [wp_X5_surestWait, wp_X5_surestWait_L7]
  refine ⟨fun f x1 x2 x3 x4 => x1 = a1 ∧ 0 ≤ x4 ∧ (x4 = 0 ∨ x4 ≤ a1) ∧ x2 = (bst (fun k => casI (TV f0) (vW (TV f0) 3 + nI k)) x4.toNatClampNeg).1 ∧ x3 = (bst (fun k => casI (TV f0) (vW (TV f0) 3 + nI k)) x4.toNatClampNeg).2 ∧ TFr f0 f, fun f x1 x2 x3 x4 => 2147483648 - x4.toNatClampNeg, ?_, ?_⟩
  · grind [→ icC, → cas3, cnt_s, cnt_0, fst_0, fst_s, oI_n, oI_s, → bI_1, → bI_0, bst_s, bst_0, TFrr, tn1e, nItn, tnc, surI]
  · intro f x1 x2 x3 x4 hI
    simp only [wp_X5_surestWait_L41, wpb_X5_surestWait_L7, wp_X5_surestWait_L7, wp_X5_surestWait, pI_iff, pV_iff, Post_X5_surestWait] at hI ⊢
    (repeat' (first | with_reducible apply And.intro | with_reducible intro _)) <;> first | grind [→ icC, → cas3, cnt_s, cnt_0, fst_0, fst_s, oI_n, oI_s, → bI_1, → bI_0, bst_s, bst_0, TFrr, tn1e, nItn, tnc, surI]
theorem vc_X5_leastPumps : vcS_X5_leastPumps := by
  intro f0 a1 hp
  obtain ⟨w, w1, w2, w3⟩ := hp
  simp only [wp_X5_leastPumps, wp_X5_leastPumps_L10]
  refine ⟨fun (f : Fn) (x1 x2 x3 : Int32) => x1 = a1 ∧ x2 = nI w ∧ (∃ k : Nat, k ≤ 60 ∧ x3 = nI k ∧ fst (pmpP (TV f0) a1.toNatClampNeg) k = none) ∧ thP 38 1 f0 f, fun _ _ _ x3 => 100 - x3.toNatClampNeg, ⟨rfl, w3, ⟨0, by decide, rfl, rfl⟩, thP_0 _ _ _⟩, ?_⟩
  rintro f x1 x2 x3 ⟨rfl, rfl, ⟨k, hk, rfl, h3⟩, h4⟩
  simp only [wpb_X5_leastPumps_L10, pI_iff]
  have vn : vN (TV f0) 1 = nI w := by rw [← w3]; rfl
  have pk : ∀ j, pmpP (TV f0) x1.toNatClampNeg j = hasN (widV (TV f0) (minI 60 (nI (w + j)))) x1.toNatClampNeg := fun j => by rw [← nI_add, ← vn]; rfl
  have m60 : ∀ j, 60 ≤ j → j < 2147483648 → minI 60 (nI j) = 60 := fun j hj h2 => by
    have : nI 60 ≤ nI j := nI_le hj h2
    unfold minI; rw [if_neg (by rw [Int32.not_lt]; exact this)]
  refine ⟨fun h => ?_, fun h => ⟨fun q => ?_, fun q r3 f4 p => ?_⟩⟩
  · have : k = 60 := by
      have : nI 59 < nI k := h
      rw [nI_ltI (by decide) (by omega)] at this
      omega
    subst this
    exact ⟨by rw [h3]; rfl, h4.1⟩
  · have q2 : 60 < w + k := by
      have : nI 60 < nI w + nI k := q
      rw [nI_add, nI_ltI (by decide) (by omega)] at this
      exact this
    have : fst (pmpP (TV f0) x1.toNatClampNeg) 60 = none := fst_n.mpr fun j hj => by
      by_cases e : j < k
      · exact fst_n.mp h3 j e
      · have e2 := fst_n.mp h3 (60 - w) (by omega)
        rw [pk, m60 _ (by omega) (by omega)] at e2
        rw [pk, m60 _ (by omega) (by omega)]
        exact e2
    exact ⟨by rw [this]; rfl, h4.1⟩
  · obtain ⟨p1, p2⟩ := p
    have q2 : w + k ≤ 60 := by
      have : ¬ nI 60 < nI w + nI k := q
      rw [nI_add, nI_ltI (by decide) (by omega)] at this
      omega
    have h2 : k < 60 := by
      have : ¬ nI 59 < nI k := h
      rw [nI_ltI (by decide) (by omega)] at this
      omega
    have mk : minI 60 (nI (w + k)) = nI (w + k) := by
      unfold minI
      by_cases e : nI (w + k) < 60
      · rw [if_pos e]
      · rw [if_neg e]
        have : ¬ nI (w + k) < nI 60 := e
        rw [nI_ltI (by omega) (by decide)] at this
        have : w + k = 60 := by omega
        rw [this]; rfl
    rw [TVw h4, nI_add] at p1
    have pe := pk k
    rw [mk] at pe
    rw [p1, oI_lt (tncB _)]
    refine ⟨fun h5 => ⟨⟨trivial, trivial, ⟨k + 1, by omega, by rw [nI_1], ?_⟩, thP_u h4 p2 (by decide) (by decide)⟩, ?_⟩, fun h5 => ?_⟩
    · rw [fst_s _ _ h3, if_neg]
      rw [pe, hasN_n.mpr h5]; decide
    · rw [nI_1, nI_clamp (by omega), nI_clamp (by omega)]; omega
    · have := fst_h h3 (by rw [pe]; exact hasN_s.mpr h5) h2
      exact ⟨by rw [this]; rfl, (thP_u h4 p2 (by decide) (by decide)).1⟩
theorem vc_X5_leastSteps : vcS_X5_leastSteps := by
  intro f0 a1 hp
  obtain ⟨w, w1, w2, w3⟩ := hp
  simp only [wp_X5_leastSteps, wp_X5_leastSteps_L10]
  refine ⟨fun (f : Fn) (x1 x2 x3 : Int32) => x1 = a1 ∧ x2 = f0 39 2 ∧ (∃ k : Nat, k ≤ 40 ∧ x3 = nI k ∧ fst (stpP (TV f0) a1.toNatClampNeg) k = none) ∧ thP 39 2 f0 f, fun _ _ _ x3 => 100 - x3.toNatClampNeg, ⟨rfl, rfl, ⟨0, by decide, rfl, rfl⟩, thP_0 _ _ _⟩, ?_⟩
  rintro f x1 x2 x3 ⟨rfl, rfl, ⟨k, hk, rfl, h3⟩, h4⟩
  simp only [wpb_X5_leastSteps_L10, pI_iff]
  have f39 : f 39 0 = nI w := by rw [h4.2.1 39 (by decide) (by decide) 0 (by decide), w3]
  rw [f39]
  refine ⟨fun h => ?_, fun h => ⟨fun q => ?_, fun q => ⟨nI_ne0 w1 (by omega), fun r3 f4 p => ?_⟩⟩⟩
  · have : k = 40 := by
      have : nI 40 ≤ nI k := h
      rw [nI_leI (by decide) (by omega)] at this
      omega
    subst this
    exact ⟨by rw [h3]; rfl, h4.1⟩
  · exact absurd q (nI_nle w1 (by omega))
  · obtain ⟨p1, p2⟩ := p
    have h2 : k < 40 := by
      have : ¬ nI 40 ≤ nI k := h
      rw [nI_leI (by decide) (by omega)] at this
      omega
    rw [TVp h4] at p1
    have pe : stpP (TV f0) x1.toNatClampNeg k = hasN (phaV (TV f0) (f0 39 2 + nI k - (f0 39 2 + nI k) / nI w * nI w)) x1.toNatClampNeg := by
      rw [← w3]; rfl
    rw [p1, oI_lt (tncB _)]
    refine ⟨fun h5 => ⟨⟨trivial, trivial, ⟨k + 1, by omega, by rw [nI_1], ?_⟩, thP_u h4 p2 (by decide) (by decide)⟩, ?_⟩, fun h5 => ?_⟩
    · rw [fst_s _ _ h3, if_neg]
      rw [pe, hasN_n.mpr h5]; decide
    · rw [nI_1, nI_clamp (by omega), nI_clamp (by omega)]; omega
    · have := fst_h h3 (by rw [pe]; exact hasN_s.mpr h5) h2
      exact ⟨by rw [this]; rfl, (thP_u h4 p2 (by decide) (by decide)).1⟩
theorem fal_s (V : Vw) (n : Nat) : falL V (n + 1) = if canP V n = true then falL V n else falL V n ++ [vPl V (vT V (vW V 3 + nI n))] := rfl
theorem fal_l (V : Vw) : ∀ n, (falL V n).length ≤ n
  | 0 => Nat.le_refl _
  | n + 1 => by
    have := fal_l V n
    rw [fal_s]
    by_cases h : canP V n = true
    · rw [if_pos h]; omega
    · rw [if_neg h, List.length_append]; simp; omega
/-- what gathering leaves alone -/
def gaF (a b : Fn) : Prop := eqT a b ∧ (∀ q, q = 38 ∨ q = 39 ∨ q = 40 → b q = a q) ∧ b 37 6 = a 37 6
theorem gaV {a b : Fn} (h : gaF a b) : TV b = TV a := by
  have r := h.1
  unfold TV lawC
  rw [h.2.1 38 (by omega), h.2.1 39 (by omega), h.2.1 40 (by omega), r 1 (by decide) (by decide) (by decide) (by decide) (by decide) (by decide) (by decide), r 12 (by decide) (by decide) (by decide) (by decide) (by decide) (by decide) (by decide), r 13 (by decide) (by decide) (by decide) (by decide) (by decide) (by decide) (by decide), r 15 (by decide) (by decide) (by decide) (by decide) (by decide) (by decide) (by decide), r 16 (by decide) (by decide) (by decide) (by decide) (by decide) (by decide) (by decide), h.2.2]
theorem gaT {a b c : Fn} (h : gaF a b) (h2 : TFr b c) : gaF a c := ⟨fun x p q r s t u v => (h2.1 x p q r).trans (h.1 x p q r s t u v), fun q hq => (h2.1 q (by omega) (by omega) (by omega)).trans (h.2.1 q hq), h2.2.1.trans h.2.2⟩
theorem gaU {a b : Fn} (h : gaF a b) (j : Nat) (v w : Int32) : gaF a (up2 (up2 b 41 j v) 37 5 w) := ⟨fun x p q r s t u v2 => by rw [up2_row _ _ _ _ _ (by omega), up2_row _ _ _ _ _ (by omega)]; exact h.1 x p q r s t u v2, fun q hq => by rw [up2_row _ _ _ _ _ (by omega), up2_row _ _ _ _ _ (by omega)]; exact h.2.1 q hq, by rw [up2_ap, if_pos rfl, if_neg (by decide), up2_row _ _ _ _ _ (by decide)]; exact h.2.2⟩
set_option maxHeartbeats 600000 in
theorem vc_X5_gatherFalls : vcS_X5_gatherFalls := by
  intro f0 a1 hp
  unfold Pre_X5_gatherFalls at hp
  simp only [wp_X5_gatherFalls, wp_X5_gatherFalls_L7]
  refine ⟨fun (f : Fn) (x1 x2 : Int32) => x1 = a1 ∧ 0 ≤ x2 ∧ x2 ≤ 60 ∧ (x2 = 0 ∨ x2 ≤ a1) ∧ gaF f0 f ∧ f 37 5 = nI (falL (TV f0) x2.toNatClampNeg).length ∧ ∀ j, j < (falL (TV f0) x2.toNatClampNeg).length → f 41 j = (falL (TV f0) x2.toNatClampNeg).getD j 0, fun _ _ x2 => 100 - x2.toNatClampNeg, ?_, ?_⟩
  · refine ⟨rfl, by decide, by decide, Or.inl rfl, ⟨fun x _ _ h3 _ _ _ _ => up2_row _ _ _ _ _ h3, fun q hq => up2_row _ _ _ _ _ (by omega), rfl⟩, ?_, ?_⟩
    · rw [up2_at]; rfl
    · intro j hj; exact absurd hj (Nat.not_lt_zero _)
  · rintro f x1 x2 ⟨rfl, h1, h2, h3, h4, h5, h6⟩
    have fl := fal_l (TV f0) x2.toNatClampNeg
    have b60 : x2.toNatClampNeg ≤ 60 := tncLe (y := 60) h2
    simp only [wpb_X5_gatherFalls_L7, wp_X5_gatherFalls_L73, wp_X5_gatherFalls_L67, pI_iff]
    have b59 : ¬ x1 ≤ x2 → (0 ≤ f 37 5 ∧ f 37 5 ≤ nI 59) := fun q => nIb (N := 59) (by have := tncLe (show x2 ≤ 59 by grind); rw [show (59 : Int32).toNatClampNeg = 59 by decide] at this; omega) (by decide) h5
    refine ⟨fun h => ?_, fun h => ⟨fun h7 => ?_, fun _ => ⟨fun h7 => ?_, fun h7 => fun r f4 p => ?_⟩⟩⟩
    · have e : x2.toNatClampNeg = x1.toNatClampNeg := by grind [tnc]
      unfold Post_X5_gatherFalls
      rw [← e]
      exact ⟨h5, rfl, h6, h4.1, h4.2.1⟩
    · exact absurd h7 (by have := (b59 h).1; grind)
    · exact absurd h7 (by have := (b59 h).2; rw [show nI 59 = 59 by decide] at this; grind)
    · obtain ⟨p1, p2, p3, p4⟩ := p
      have e1 : f 1 5 + x2 = vW (TV f0) 3 + nI x2.toNatClampNeg := by
        rw [nItn h1]; show _ = f0 1 5 + x2
        rw [h4.1 1 (by decide) (by decide) (by decide) (by decide) (by decide) (by decide) (by decide)]
      rw [gaV h4, e1] at p1 p4
      have k1 := tn1e x2 h1 (by grind)
      have g1 := gaT h4 p2
      have r5 : f4 37 5 = f 37 5 := p2.2.2
      have r41 : f4 41 = f 41 := p2.1 41 (by decide) (by decide) (by decide)
      refine ⟨fun h8 => ⟨⟨trivial, by grind, by grind, by grind, g1, ?_, ?_⟩, by omega⟩, fun h8 => ⟨?_, ⟨trivial, by grind, by grind, by grind, gaU g1 _ _ _, ?_, ?_⟩, by omega⟩⟩
      · rw [k1, fal_s, if_pos (bI_1 (by rw [p1] at h8; exact h8)), r5]; exact h5
      · rw [k1, fal_s, if_pos (bI_1 (by rw [p1] at h8; exact h8)), r41]; exact h6
      · rw [r5, h5]; exact vp_in_nI (by have := tncLe (show x2 ≤ 59 by grind); rw [show (59 : Int32).toNatClampNeg = 59 by decide] at this; omega) (by omega)
      · have nc : ¬ canP (TV f0) x2.toNatClampNeg = true := by rw [p1, bI0] at h8; exact h8
        rw [k1, fal_s, if_neg nc, up2_at, r5, h5, nI_1, List.length_append]; rfl
      · have nc : ¬ canP (TV f0) x2.toNatClampNeg = true := by rw [p1, bI0] at h8; exact h8
        rw [k1, fal_s, if_neg nc, r5, h5, nI_clamp (by omega), p4]
        intro j hj
        rw [List.length_append] at hj
        rw [up2_row _ _ _ _ _ (by decide), up2_ap, if_pos rfl, r41]
        by_cases e : j = (falL (TV f0) x2.toNatClampNeg).length
        · rw [if_pos e, e]; simp
        · have : j < (falL (TV f0) x2.toNatClampNeg).length := by simp at hj; omega
          rw [if_neg e, h6 j this, List.getD_eq_getElem?_getD, List.getD_eq_getElem?_getD, List.getElem?_append_left this]
set_option maxHeartbeats 400000 in
theorem vc_X5_harmTogether : vcS_X5_harmTogether := by
  unfold vcS_X5_harmTogether
  intro f0 a1 hp
  simp only [wp_X5_harmTogether, wp_X5_harmTogether_L4]
  refine ⟨fun f x1 x2 x3 => f = f0 ∧ x1 = a1 ∧ 0 ≤ x3 ∧ x3 ≤ f0 37 5 ∧ x2 = hsumI (harmI (f0 40 0) (f0 40 3)) a1 (rowL (f0 41) x3.toNatClampNeg), fun f x1 x2 x3 => 2147483648 - x3.toNatClampNeg, ?_, ?_⟩
  · grind [→ icC, → cas3, cnt_s, cnt_0, fst_0, fst_s, oI_n, oI_s, bI, bst_s, bst_0, TFrr, tn1e, nItn, tnc, rowL_s, rowL_0, hsum_s, hsum_0, vp60, Val_X0_harm, Val_J9_abs_0f7a4, Pre_X5_harmTogether]
  · intro f x1 x2 x3 hI
    simp only [wpb_X5_harmTogether_L4, wp_X5_harmTogether_L4, wp_X5_harmTogether, pI_iff, pV_iff, Val_X5_harmTogether, Pre_X5_harmTogether] at hI ⊢
    (repeat' (first | with_reducible apply And.intro | with_reducible intro _)) <;> first | grind [→ icC, → cas3, cnt_s, cnt_0, fst_0, fst_s, oI_n, oI_s, bI, bst_s, bst_0, TFrr, tn1e, nItn, tnc, rowL_s, rowL_0, hsum_s, hsum_0, vp60, Val_X0_harm, Val_J9_abs_0f7a4, Pre_X5_harmTogether]
set_option maxHeartbeats 600000 in
theorem vc_X5_leastHarmPlace : vcS_X5_leastHarmPlace := by
  intro f0 hp
  simp only [lhpE]
  generalize hN : (398 : Nat) = N
  unfold Pre_X5_leastHarmPlace at hp
  simp only [wp_X5_leastHarmPlace, wp_X5_leastHarmPlace_L12]
  refine ⟨hp, fun (f : Fn) (x1 x2 x3 : Int32) => f = f0 ∧ -98 ≤ x3 ∧ x3 ≤ 300 ∧ x1 = (lstP (Val_X5_harmTogether f0) (x3 + 98).toNatClampNeg).1 ∧ x2 = (lstP (Val_X5_harmTogether f0) (x3 + 98).toNatClampNeg).2, fun _ _ _ x3 => 400 - (x3 + 98).toNatClampNeg, ?_, ?_⟩
  · refine ⟨rfl, by decide, by decide, ?_, ?_⟩ <;> rfl
  · rintro f x1 x2 x3 ⟨rfl, h1, h2, rfl, rfl⟩
    simp only [wpb_X5_leastHarmPlace_L12, wp_X5_leastHarmPlace_L37, pI_iff]
    refine ⟨fun h => ?_, fun h => ⟨hp, fun h3 => ⟨⟨trivial, by grind, by grind, ?_, ?_⟩, ?_⟩, fun h3 => ⟨⟨trivial, by grind, by grind, ?_, ?_⟩, ?_⟩⟩⟩
    · have e : x3 = 300 := by grind
      subst e
      have e2 : ((300 : Int32) + 98).toNatClampNeg = N := by rw [← hN]; decide
      rw [e2]
      exact ⟨rfl, trivial⟩
    · rw [lst_x _ _ h1 (by grind), if_neg (Int32.not_lt.mpr h3)]
    · rw [lst_x _ _ h1 (by grind), if_neg (Int32.not_lt.mpr h3)]
    · rw [show x3 + 1 + 98 = (x3 + 98) + 1 by grind, tn1e _ (by grind) (by grind)]
      have := tncLe (show x3 + 98 ≤ 397 by grind)
      rw [show (397 : Int32).toNatClampNeg = 397 by decide] at this
      omega
    · rw [lst_x _ _ h1 (by grind), if_pos (Int32.not_le.mp h3)]
    · rw [lst_x _ _ h1 (by grind), if_pos (Int32.not_le.mp h3)]
    · rw [show x3 + 1 + 98 = (x3 + 98) + 1 by grind, tn1e _ (by grind) (by grind)]
      have := tncLe (show x3 + 98 ≤ 397 by grind)
      rw [show (397 : Int32).toNatClampNeg = 397 by decide] at this
      omega
set_option maxHeartbeats 600000 in
theorem vc_X5_isAsTold : vcS_X5_isAsTold := by
  unfold vcS_X5_isAsTold
  intro o f0 ho hp
  have hn := shNe ho.1
  unfold Pre_X5_isAsTold at hp
  have tf : ∀ f, TFr f0 f → f o = f0 o ∧ f (o + 1) = f0 (o + 1) := fun f h => ⟨h.1 _ (by omega) (by omega) (by omega), h.1 _ (by omega) (by omega) (by omega)⟩
  simp only [wp_X5_isAsTold, wp_X5_isAsTold_L2]
  refine ⟨fun (f : Fn) (x2 : Int32) => TFr f0 f ∧ 0 ≤ x2 ∧ x2 ≤ f0 o 2 ∧ asT (TV f0) (f0 (o + 1)) x2.toNatClampNeg = true, fun (f : Fn) (x2 : Int32) => 2147483648 - x2.toNatClampNeg, ?_, ?_⟩
  · grind (splits := 14) [→ asT_aF, → icC, → cas3, cnt_s, cnt_0, fst_0, fst_s, oI_n, oI_s, bI, bst_s, bst_0, TFrr, tn1e, nItn, tnc, asT_s, asT_0, → flyC, → TF1, Val_X3_read, Pre_X3_read]
  · intro f x2 hI
    simp only [wpb_X5_isAsTold_L2, wp_X5_isAsTold_L2, wp_X5_isAsTold, pI_iff, pV_iff, Post_X5_isAsTold, Pre_X5_isAsTold] at hI ⊢
    (repeat' (first | with_reducible apply And.intro | with_reducible intro _)) <;> first | grind (splits := 14) [→ asT_aF, → icC, → cas3, cnt_s, cnt_0, fst_0, fst_s, oI_n, oI_s, bI, bst_s, bst_0, TFrr, tn1e, nItn, tnc, asT_s, asT_0, → flyC, → TF1, Val_X3_read, Pre_X3_read]
theorem vc_X5_firstPhase : vcS_X5_firstPhase := by
  intro o f0 a2 ho hp
  obtain ⟨s1, s2, a, p, rfl, ap, p40, e39⟩ := hp
  simp only [wp_X5_firstPhase, wp_X5_firstPhase_L2]
  refine ⟨fun (f : Fn) (x3 : Int32) => (∃ k : Nat, k ≤ p ∧ x3 = nI k ∧ a ≤ k ∧ fst (fun k => decide (a ≤ k) && phsP (TV f0) (f0 (o + 1)) (f0 o 2).toNatClampNeg k) k = none) ∧ thP 39 2 f0 f, fun _ x3 => 100 - x3.toNatClampNeg, ⟨⟨a, ap, rfl, Nat.le_refl _, fst_n.mpr fun k hk => by rw [decide_eq_false (show ¬ a ≤ k by omega)]; rfl⟩, thP_0 _ _ _⟩, ?_⟩
  rintro f x3 ⟨⟨k, hk, rfl, ak, h3⟩, h4⟩
  simp only [wpb_X5_firstPhase_L2, pI_iff]
  have f39 : f 39 0 = nI p := by rw [h4.2.1 39 (by decide) (by decide) 0 (by decide), e39]
  have fin : ∀ (b : Fn), thP 39 2 f0 b → eqT f0 b ∧ b 37 6 = f0 37 6 ∧ b 38 = f0 38 ∧ b 40 = f0 40 ∧ ∀ j, ¬ j = 2 → b 39 j = f0 39 j := fun b hb => ⟨hb.1, hb.2.2 (by decide), funext fun j => hb.2.1 38 (by decide) (by decide) j (by omega), funext fun j => hb.2.1 40 (by decide) (by decide) j (by omega), fun j hj => hb.2.1 39 (by decide) (by decide) j (by omega)⟩
  have uq : ∀ a' p' : Nat, nI a = nI a' → a' ≤ p' → p' ≤ 40 → f0 39 0 = nI p' → a' = a ∧ p' = p := fun a' p' q1 q2 q3 q4 => by
    rw [nI_eq (by omega) (by omega)] at q1
    rw [e39, nI_eq (by omega) (by omega)] at q4
    omega
  rw [f39, nI_leI (by omega) (by omega)]
  refine ⟨fun h => ?_, fun h => ⟨?_, fun r3 f4 p => ?_⟩⟩
  · have : k = p := by omega
    subst this
    refine ⟨fun a' p' q1 q2 q3 q4 => ?_, fin _ h4⟩
    obtain ⟨rfl, rfl⟩ := uq a' p' q1 q2 q3 q4
    rw [h3]; rfl
  · have hs := shKeep ho (eqTu h4.1 39 2 (nI k) (by decide) (by decide))
    unfold Pre_X5_isAsTold
    rw [hs.1]
    exact ⟨s1, s2⟩
  · obtain ⟨p1, p2⟩ := p
    have hs := shKeep ho (eqTu h4.1 39 2 (nI k) (by decide) (by decide))
    rw [hs.1, hs.2, TVp h4] at p1
    have pe : phsP (TV f0) (f0 (o + 1)) (f0 o 2).toNatClampNeg k = asT (phaV (TV f0) (nI k)) (f0 (o + 1)) (f0 o 2).toNatClampNeg := rfl
    rw [← pe] at p1
    rw [p1]
    refine ⟨fun h5 => ⟨⟨⟨k + 1, by omega, by rw [nI_1], by omega, ?_⟩, thP_u h4 p2 (by decide) (by decide)⟩, ?_⟩, fun h5 => ?_⟩
    · rw [fst_s _ _ h3, if_neg]
      rw [bI_0 h5]; simp
    · rw [nI_1, nI_clamp (by omega), nI_clamp (by omega)]; omega
    · refine ⟨fun a' p' q1 q2 q3 q4 => ?_, fin _ (thP_u h4 p2 (by decide) (by decide))⟩
      obtain ⟨rfl, rfl⟩ := uq a' p' q1 q2 q3 q4
      have := fst_h h3 (by show (decide (a' ≤ k) && phsP (TV f0) (f0 (o + 1)) (f0 o 2).toNatClampNeg k) = true; rw [bI_1 h5, decide_eq_true ak]; rfl) (show k < p' by omega)
      rw [this]; rfl
theorem vc_X5_howManyPhases : vcS_X5_howManyPhases := by
  intro o f0 ho hp
  obtain ⟨s1, s2, p, p40, e39⟩ := hp
  simp only [wp_X5_howManyPhases, wp_X5_howManyPhases_L12]
  refine ⟨⟨s1, s2, 0, p, rfl, by omega, p40, e39⟩, fun r2 f3 q => ?_⟩
  have TVe : ∀ b, thP 39 2 f0 b → ∀ k, phsP (TV b) (b (o + 1)) (b o 2).toNatClampNeg k = phsP (TV f0) (f0 (o + 1)) (f0 o 2).toNatClampNeg k := fun b hb k => by
    have hs := shKeep ho hb.1
    unfold phsP
    rw [hs.1, hs.2, ← TVp hb (nI k), ← TVp (thP_0 39 2 b) (nI k)]
  have keep : ∀ b c, thP 39 2 f0 b → eqT b c → c 37 6 = b 37 6 → c 38 = b 38 → c 40 = b 40 → (∀ j, ¬ j = 2 → c 39 j = b 39 j) → thP 39 2 f0 c := fun b c hb h1 h2 h3 h4 h5 => ⟨eqTt hb.1 h1, fun r h6 h7 j hj => by
    have : r = 38 ∨ r = 39 ∨ r = 40 := by omega
    rcases this with e | e | e
    · rw [e, h3, ← hb.2.1 38 (by decide) (by decide) j (by omega)]
    · rw [e, h5 j (by omega), ← hb.2.1 39 (by decide) (by decide) j (by omega)]
    · rw [e, h4, ← hb.2.1 40 (by decide) (by decide) j (by omega)], fun _ => h2.trans (hb.2.2 (by decide))⟩
  obtain ⟨q1, q2, q3, q4, q5, q6⟩ := q
  refine ⟨fun (f : Fn) (x2 x3 x4 : Int32) => thP 39 2 f0 f ∧ ∃ a k : Nat, a ≤ p ∧ k ≤ a ∧ x4 = nI k ∧ x2 = cntI (phsP (TV f0) (f0 (o + 1)) (f0 o 2).toNatClampNeg) a ∧ x3 = oI (fst (fun k => decide (a ≤ k) && phsP (TV f0) (f0 (o + 1)) (f0 o 2).toNatClampNeg k) p), fun _ _ _ x4 => 100 - x4.toNatClampNeg, ⟨keep f0 f3 (thP_0 _ _ _) q2 q3 q4 q5 q6, 0, 0, by omega, by omega, rfl, rfl, q1 0 p rfl (by omega) p40 e39⟩, ?_⟩
  rintro f x2 x3 x4 ⟨h4, a, k, ap, ka, rfl, rfl, rfl⟩
  simp only [wpb_X5_howManyPhases_L12, pI_iff]
  have f39 : f 39 0 = nI p := by rw [h4.2.1 39 (by decide) (by decide) 0 (by decide), e39]
  have hs := shKeep ho h4.1
  have cz : ∀ n b, b ≤ n → (∀ k, k < n → (decide (b ≤ k) && phsP (TV f0) (f0 (o + 1)) (f0 o 2).toNatClampNeg k) = false) → cntI (phsP (TV f0) (f0 (o + 1)) (f0 o 2).toNatClampNeg) n = cntI (phsP (TV f0) (f0 (o + 1)) (f0 o 2).toNatClampNeg) b := fun n => by
    induction n with
    | zero => intro b hb _; rw [show b = 0 by omega]
    | succ n ih =>
      intro b hb hh
      by_cases e : b = n + 1
      · rw [e]
      · rw [cnt_s, ih b (by omega) fun k hk => hh k (by omega)]
        have := hh n (by omega)
        rw [decide_eq_true (show b ≤ n by omega), Bool.true_and] at this
        rw [this]
        show _ + (0 : Int32) = _
        grind
  have rule : ∀ r : Int32, r = cntI (phsP (TV f0) (f0 (o + 1)) (f0 o 2).toNatClampNeg) p → ∀ p' : Nat, p' ≤ 40 → f0 39 0 = nI p' → r = cntI (phsP (TV f0) (f0 (o + 1)) (f0 o 2).toNatClampNeg) p' := fun r hr p' h1 h2 => by
    rw [e39, nI_eq (by omega) (by omega)] at h2
    rw [← h2]; exact hr
  refine ⟨fun h => ?_, fun h => ⟨fun q => ?_, fun q => ⟨?_, fun r8 f9 qq => ?_⟩⟩⟩
  · have : nI 40 ≤ nI k := h
    rw [nI_leI (by decide) (by omega)] at this
    have : a = p := by omega
    subst this
    exact ⟨rule _ rfl, h4.1⟩
  · rw [oI_lt (by omega)] at q
    exact ⟨rule _ (cz p a ap (fst_n.mp q)).symm, h4.1⟩
  · rw [oI_lt (by omega)] at q
    cases e : fst (fun k => decide (a ≤ k) && phsP (TV f0) (f0 (o + 1)) (f0 o 2).toNatClampNeg k) p with
    | none => exact absurd e q
    | some m =>
      have := fst_lt e
      unfold Pre_X5_firstPhase
      rw [hs.1]
      exact ⟨s1, s2, m + 1, p, by rw [oI_s, nI_1], by omega, p40, f39⟩
  · rw [oI_lt (by omega)] at q
    cases e : fst (fun k => decide (a ≤ k) && phsP (TV f0) (f0 (o + 1)) (f0 o 2).toNatClampNeg k) p with
    | none => exact absurd e q
    | some m =>
      obtain ⟨q1, q2, q3, q4, q5, q6⟩ := qq
      obtain ⟨m1, m2, m3⟩ := fst_sm e
      have m4 := fst_n.mp m3
      have am : a ≤ m := by
        simp only [Bool.and_eq_true, decide_eq_true_eq] at m2
        exact m2.1
      have pm : phsP (TV f0) (f0 (o + 1)) (f0 o 2).toNatClampNeg m = true := by
        simp only [Bool.and_eq_true, decide_eq_true_eq] at m2
        exact m2.2
      have k40 : k < 40 := by
        have : ¬ nI 40 ≤ nI k := h
        rw [nI_leI (by decide) (by omega)] at this
        omega
      have h9 := q1 (m + 1) p (by rw [e, oI_s, nI_1]) (by omega) p40 f39
      refine ⟨⟨keep f f9 h4 q2 q3 q4 q5 q6, m + 1, k + 1, by omega, by omega, by rw [nI_1], ?_, ?_⟩, ?_⟩
      · rw [cnt_s, cz m a am m4, pm]; rfl
      · rw [h9]
        congr 2
        funext j
        rw [TVe f h4]
      · rw [nI_1, nI_clamp (by omega), nI_clamp (by omega)]; omega
theorem vc_X5_leastLag : vcS_X5_leastLag := by
  intro o f0 ho hp
  obtain ⟨s1, s2⟩ := hp
  simp only [wp_X5_leastLag, wp_X5_leastLag_L2]
  refine ⟨fun (f : Fn) (x3 : Int32) => (∃ k : Nat, k ≤ 10 ∧ x3 = nI k ∧ fst (lagP (TV f0) (f0 (o + 1)) (f0 o 2).toNatClampNeg) k = none) ∧ thP 37 6 f0 f, fun _ x3 => 100 - x3.toNatClampNeg, ⟨⟨0, by omega, rfl, rfl⟩, thP_0 _ _ _⟩, ?_⟩
  rintro f x3 ⟨⟨k, hk, rfl, h3⟩, h4⟩
  simp only [wpb_X5_leastLag_L2, pI_iff]
  refine ⟨fun h => ?_, fun h => ⟨?_, fun r3 f4 p => ?_⟩⟩
  · have : nI 9 < nI k := h
    rw [nI_ltI (by decide) (by omega)] at this
    have : k = 10 := by omega
    subst this
    exact ⟨by rw [h3]; rfl, h4.1⟩
  · have hs := shKeep ho (eqTu h4.1 37 6 (nI k) (by decide) (by decide))
    unfold Pre_X5_isAsTold
    rw [hs.1]
    exact ⟨s1, s2⟩
  · obtain ⟨p1, p2⟩ := p
    have hs := shKeep ho (eqTu h4.1 37 6 (nI k) (by decide) (by decide))
    rw [hs.1, hs.2, TVl h4] at p1
    have pe : lagP (TV f0) (f0 (o + 1)) (f0 o 2).toNatClampNeg k = asT (lagV (TV f0) (nI k)) (f0 (o + 1)) (f0 o 2).toNatClampNeg := rfl
    rw [← pe] at p1
    have k9 : k < 10 := by
      have : ¬ nI 9 < nI k := h
      rw [nI_ltI (by decide) (by omega)] at this
      omega
    rw [p1]
    refine ⟨fun h5 => ⟨⟨⟨k + 1, by omega, by rw [nI_1], ?_⟩, thP_u h4 p2 (by decide) (by decide)⟩, ?_⟩, fun h5 => ?_⟩
    · rw [fst_s _ _ h3, if_neg]
      rw [bI_0 h5]; simp
    · rw [nI_1, nI_clamp (by omega), nI_clamp (by omega)]; omega
    · have := fst_h h3 (bI_1 h5) k9
      exact ⟨by rw [this]; rfl, (thP_u h4 p2 (by decide) (by decide)).1⟩
set_option maxHeartbeats 200000 in
theorem vc_X2_next : vcS_X2_next := by
  unfold vcS_X2_next
  simp only [wp_X2_next, pI_iff, pV_iff, pL_iff, Val_X2_next, tn0, tn1, tn2, tn3, tn4, tn5, tn6, tn7, tn8, tn9, tn10, tn12, tn18, tn40, tn50, tn60, tn90, tn92, tn112, tn212, tnn1, ni0, ni1, ni2, ni3, ni4, ni5, ni6, ni7, er1, er2, er3, er4, er5, lg_cmp_lt, lg_cmp_le, lg_cmp_gt, lg_cmp_ge, lg_cmp_eq]
  intros
  (repeat' (first | with_reducible apply And.intro | with_reducible intro _)) <;> (try first | apply pR_some | apply pR_none) <;> first | grind [Val_X2_next, up2_ap, cpr_ap, vp1, vp2, vp3, vp4, vp5, vp6, vp20, vp40, vp50, vp60, vp160, vp264, tnc, nIX, nIc, tncA, tncS, tncM, l56, eqM_rfl, up2_row, InvF, InvF0, dF1, dF2, sw0, sw1, InvT]
set_option maxHeartbeats 200000 in
theorem vc_X2_addStep : vcS_X2_addStep := by
  unfold vcS_X2_addStep
  simp only [wp_X2_addStep, pI_iff, pV_iff, pL_iff, Post_X2_addStep, Pre_X2_addStep, tn0, tn1, tn2, tn3, tn4, tn5, tn6, tn7, tn8, tn9, tn10, tn12, tn18, tn40, tn50, tn60, tn90, tn92, tn112, tn212, tnn1, ni0, ni1, ni2, ni3, ni4, ni5, ni6, ni7, er1, er2, er3, er4, er5, lg_cmp_lt, lg_cmp_le, lg_cmp_gt, lg_cmp_ge, lg_cmp_eq]
  intros
  (repeat' (first | with_reducible apply And.intro | with_reducible intro _)) <;> (try first | apply pR_some | apply pR_none) <;> first | grind [up2_ap, cpr_ap, vp1, vp2, vp3, vp4, vp5, vp6, vp20, vp40, vp50, vp60, vp160, vp264, tnc, nIX, nIc, tncA, tncS, tncM, l56, eqM_rfl, up2_row, InvF, InvF0, dF1, dF2, sw0, sw1, InvT]
set_option maxHeartbeats 200000 in
theorem vc_X2_levelOf : vcS_X2_levelOf := by
  unfold vcS_X2_levelOf
  simp only [wp_X2_levelOf, pI_iff, pV_iff, pL_iff, Val_X2_levelOf, tn0, tn1, tn2, tn3, tn4, tn5, tn6, tn7, tn8, tn9, tn10, tn12, tn18, tn40, tn50, tn60, tn90, tn92, tn112, tn212, tnn1, ni0, ni1, ni2, ni3, ni4, ni5, ni6, ni7, er1, er2, er3, er4, er5, lg_cmp_lt, lg_cmp_le, lg_cmp_gt, lg_cmp_ge, lg_cmp_eq]
  intros
  (repeat' (first | with_reducible apply And.intro | with_reducible intro _)) <;> (try first | apply pR_some | apply pR_none) <;> first | grind [Val_X2_levelOf, lvI, up2_ap, cpr_ap, vp1, vp2, vp3, vp4, vp5, vp6, vp20, vp40, vp50, vp60, vp160, vp264, tnc, nIX, nIc, tncA, tncS, tncM, l56, eqM_rfl, up2_row, InvF, InvF0, dF1, dF2, sw0, sw1, InvT]
set_option maxHeartbeats 200000 in
theorem vc_X2_isDigit : vcS_X2_isDigit := by
  unfold vcS_X2_isDigit
  simp only [wp_X2_isDigit, pI_iff, pV_iff, pL_iff, Val_X2_isDigit, tn0, tn1, tn2, tn3, tn4, tn5, tn6, tn7, tn8, tn9, tn10, tn12, tn18, tn40, tn50, tn60, tn90, tn92, tn112, tn212, tnn1, ni0, ni1, ni2, ni3, ni4, ni5, ni6, ni7, er1, er2, er3, er4, er5, lg_cmp_lt, lg_cmp_le, lg_cmp_gt, lg_cmp_ge, lg_cmp_eq]
  intros
  (repeat' (first | with_reducible apply And.intro | with_reducible intro _)) <;> (try first | apply pR_some | apply pR_none) <;> first | grind [Val_X2_isDigit, dgI, bI, up2_ap, cpr_ap, vp1, vp2, vp3, vp4, vp5, vp6, vp20, vp40, vp50, vp60, vp160, vp264, tnc, nIX, nIc, tncA, tncS, tncM, l56, eqM_rfl, up2_row, InvF, InvF0, dF1, dF2, sw0, sw1, InvT]
theorem vc_X2_readNumber : vcS_X2_readNumber := by
  intro f hp
  obtain ⟨n, p, c, h1, h2, h3, h4, h5, h6, h7⟩ := hp
  have uq : ∀ n2 p2 c2 : Nat, n2 ≤ 50 → f 1 9 = nI n2 → p2 < n2 → c2 ≤ p2 → rdSt f p2 c2 false → n2 = n ∧ p2 = p ∧ c2 = c := fun n2 p2 c2 k1 k2 k3 k4 ⟨k5, k6, k7⟩ => by
    rw [h2, nI_eq (by omega) (by omega)] at k2
    rw [h5, nI_eq (by omega) (by omega)] at k5
    rw [h6, nI_eq (by omega) (by omega)] at k6
    omega
  simp only [wp_X2_readNumber, wp_X2_readNumber_L4]
  refine ⟨fun (g : Fn) (x1 x2 : Int32) => ∃ k : Nat, k ≤ 4 ∧ x2 = nI k ∧ numK (f 11) n p k = (k, x1) ∧ p + k ≤ n ∧ g = up2 f 42 3 (nI (p + k)), fun _ _ x2 => 10 - x2.toNatClampNeg, ⟨0, by omega, rfl, rfl, by omega, ?_⟩, ?_⟩
  · rw [show nI (p + 0) = f 42 3 from h5.symm, up2_self]
  rintro g x1 x2 ⟨k, k4, rfl, nk, pk, rfl⟩
  have e42 : up2 f 42 3 (nI (p + k)) 42 2 = nI c := (up2_off _ _ (by decide)).trans h6
  have nx : Val_X2_next (up2 f 42 3 (nI (p + k))) = nxI (f 11) n (p + k) := by
    have := rd_next (f := up2 f 42 3 (nI (p + k))) (n := n) (p := p + k) h1 (by rw [up2_row _ _ _ _ _ (by decide)]; exact h2) pk (up2_at _ _ _ _)
    rw [this, up2_row _ _ _ _ _ (by decide)]
  have out : numK (f 11) n p 4 = (k, x1) → wp_X2_readNumber_L48 (up2 f 42 3 (nI (p + k))) x1 (pV (Post_X2_readNumber f)) := by
    intro e4
    simp only [wp_X2_readNumber_L48, pV_iff]
    refine ⟨by unfold Pre_X2_addStep; rw [e42]; exact nI_pos (by omega), fun f3 s => ?_⟩
    intro n2 p2 c2 k1 k2 k3 k4 k5
    obtain ⟨rfl, rfl, rfl⟩ := uq n2 p2 c2 k1 k2 k3 k4 k5
    have l5 : nI c2 < 50 := nI_lt (b := 50) (by omega) (by omega)
    unfold Post_X2_addStep at s
    rw [e42, if_pos l5, nI_clamp (by omega), nI_1] at s
    rw [s, e4]
  have dgE : ∀ x, (Val_X2_isDigit (up2 f 42 3 (nI (p + k))) x = 0) = ¬ dgI x = true := fun x => bI0
  simp only [wpb_X2_readNumber_L4, nx, dgE]
  have l4 : (4 : Int32) ≤ nI k ↔ 4 ≤ k := nI_leI (a := 4) (by decide) (by omega)
  refine ⟨fun h => out ?_, fun h => ⟨fun nd => out ?_, fun nd => ?_⟩⟩
  · have : k = 4 := by have := l4.mp h; omega
    subst this; exact nk
  · rw [numK_z (by rw [nk]) nd 4 k4, nk]
  · have dg : dgI (nxI (f 11) n (p + k)) = true := Classical.not_not.mp nd
    have l := dg_in dg
    have kl : k < 4 := Nat.lt_of_not_le (fun q => h (l4.mpr q))
    refine ⟨⟨k + 1, by omega, by rw [nI_1], ?_, by omega, ?_⟩, ?_⟩
    · rw [numK_s, nk, if_pos ⟨rfl, dg⟩]
    · rw [up2_at, nI_1]
      funext a j
      rw [up2_ap, up2_ap, up2_ap]
      by_cases ha : a = 42
      · by_cases hj : j = 3
        · simp only [if_pos ha, if_pos hj, Nat.add_assoc]
        · simp only [if_pos ha, if_neg hj]
      · simp only [if_neg ha]
    · rw [nI_1, nI_clamp (by omega), nI_clamp (by omega)]; omega
theorem mu_rl {f : Fn} {lv op : Nat} (h1 : lv ≤ 5) (h2 : op ≤ 5) : mu_X2_readLevel f (nI lv) (nI op) = 8 * (5 - op) + 7 - lv := by
  unfold mu_X2_readLevel; rw [nI_clamp (by omega), nI_clamp (by omega)]
theorem mu_rp {f : Fn} {op : Nat} (h2 : op ≤ 5) : mu_X2_readPart f (nI op) = 8 * (5 - op) + 1 := by
  unfold mu_X2_readPart; rw [nI_clamp (by omega)]
theorem rl_uq {f f1 : Fn} {lv op : Nat} (h1 : lv ≤ 5) (h2 : op ≤ 5) (q : rdPost f f1 lv op) : Post_X2_readLevel f (nI lv) (nI op) f1 := fun lv2 op2 e1 e2 l1 l2 => by
  rw [nI_eq (by omega) (by omega)] at e1 e2
  subst e1 e2; exact q
theorem rp_uq {f f1 : Fn} {op : Nat} (h2 : op ≤ 5) (q : rdPost f f1 5 op) : Post_X2_readPart f (nI op) f1 := fun op2 e2 l2 => by
  rw [nI_eq (by omega) (by omega)] at e2
  subst e2; exact q
theorem vc_X2_readLevel : vcS_X2_readLevel := by
  intro f a1 a2 hp
  obtain ⟨hr, lv, op, rfl, rfl, l5, o5⟩ := hp
  obtain ⟨n, p, c, h⟩ := rd_of hr
  obtain ⟨h1, h2, h3, h4, h5, h6, h7⟩ := id h
  refine ⟨by rw [mu_rl l5 o5]; omega, ?_⟩
  rw [mu_rl l5 o5]
  have c4 : (4 : Int32) < nI lv ↔ 4 < lv := nI_ltI (a := 4) (by decide) (by omega)
  have c5 : nI op ≤ (5 : Int32) := nI_le (b := 5) o5 (by omega)
  simp only [wp_X2_readLevel]
  refine ⟨fun q => ?_, fun q => ⟨fun _ => ?_, fun z => absurd c5 z⟩⟩
  · have e : lv = 5 := by have := c4.mp q; omega
    subst e
    simp only [wp_X2_readLevel_L10]
    refine ⟨⟨hr, op, rfl, o5⟩, by rw [mu_rp o5]; omega, fun f4 s => ?_⟩
    rw [pV_iff]
    exact rl_uq l5 o5 (s op rfl o5)
  have l4 : lv ≤ 4 := by have := fun z => q (c4.mpr z); exact Nat.le_of_not_lt this
  rw [nI_1]
  refine ⟨⟨hr, lv + 1, op, rfl, rfl, by omega, o5⟩, by rw [mu_rl (by omega) o5]; omega, fun f9 s => ?_⟩
  have r0 := rd_in (s (lv + 1) op rfl rfl (by omega) o5) h
  have b0 := PS_bd (f 11) (lv + 1) op h3
  have main : ∀ cnt : Nat, cnt ≤ 50 → cnt = (if lv = 2 then 1 else 50) → ∀ C : Int32, C = nI cnt → wp_X2_readLevel_L35 (8 * (5 - op) + 7 - lv) f9 (nI lv) (nI op) C (pV (Post_X2_readLevel f (nI lv) (nI op))) := by
    intro cnt cl ce C hC
    subst hC
    have PE := PS_lo (f 11) n lv op p l4 o5
    rw [← ce] at PE
    simp only [wp_X2_readLevel_L35, wp_X2_readLevel_L39]
    refine ⟨fun (g : Fn) (x1 x2 x3 x4 : Int32) => x1 = nI lv ∧ x2 = nI op ∧ x3 = nI cnt ∧ ∃ (k : Nat) (r : PR), k ≤ cnt ∧ x4 = nI k ∧ rdRep f g c r ∧ bdP n p r ∧ PS (f 11) n lv op p = pLoop (PS (f 11) n (lv + 1) op) (f 11) n lv (cnt - k) r, fun _ _ _ _ x4 => 100 - x4.toNatClampNeg, ⟨rfl, rfl, rfl, 0, _, by omega, rfl, r0, b0, PE⟩, ?_⟩
    rintro g x1 x2 x3 x4 ⟨rfl, rfl, rfl, k, r, kc, rfl, rr, rb, pe⟩
    have fin : PS (f 11) n lv op p = r → pV (Post_X2_readLevel f (nI lv) (nI op)) none g := fun e => by
      rw [pV_iff]
      exact rl_uq l5 o5 (rd_mk l5 o5 h (by rw [e]; exact rr))
    simp only [wpb_X2_readLevel_L39]
    rw [nI_leI (by omega) (by omega)]
    have g11 : g 11 = f 11 := rr.2.2.2.1 11 (by decide) (by decide)
    have g19 : g 1 9 = nI n := by rw [rr.2.2.2.1 1 (by decide) (by decide)]; exact h2
    have nx : Val_X2_next g = nxI (f 11) n r.1 := by rw [rd_next h1 g19 rb.2.1 rr.1, g11]
    have lE : Val_X2_levelOf g (Val_X2_next g) = lvI (nxI (f 11) n r.1) := by rw [nx]; rfl
    rw [lE, nx]
    refine ⟨fun z => fin ?_, fun z => ⟨fun w => fin ?_, fun w => ⟨fun y => fin ?_, fun y => ?_⟩⟩⟩
    · rw [pe, show cnt - k = 0 by omega]; rfl
    · rw [pe, pLoop_z]
      intro t
      rw [rr.2.2.1, t.1] at w
      exact w rfl
    · rw [pe, pLoop_z]
      intro t
      exact y t.2
    · have ok : r.2.1 = false := by
        rw [rr.2.2.1] at w; exact bI_0 w
      have l := lv_in y l4
      obtain ⟨t1, t2, t3, t4⟩ := id rb
      have rA : rdAt g n r.1 (c + r.2.2.length) := ⟨h1, g19, t2, by omega, rr.1, rr.2.1, by rw [rr.2.2.1, ok]; rfl⟩
      have rU := rd_up rA l
      rw [nI_1]
      refine ⟨⟨rd_pre rU, lv + 1, op, rfl, rfl, by omega, o5⟩, by rw [mu_rl (by omega) o5]; omega, fun f17 s => ?_⟩
      have q := rd_in (s (lv + 1) op rfl rfl (by omega) o5) rU
      rw [up2_row _ _ _ _ _ (show ¬ (11 : Nat) = 42 by decide), g11] at q
      have bw := PS_bd (f 11) (lv + 1) op (show r.1 + 1 ≤ n from l)
      generalize hw : PS (f 11) n (lv + 1) op (r.1 + 1) = w1 at q bw
      have cat := rd_cat (q := r.1) (w := r.2.1) (xs := r.2.2) (q2 := w1.1) (w2 := w1.2.1) (ys := w1.2.2) rr (fun a x => up2_row _ _ _ _ _ x) q
      have len : c + (r.2.2 ++ w1.2.2).length < 50 := by
        rw [List.length_append]
        have := bw.2.2.1; have := bw.2.1
        omega
      refine ⟨rd_addP cat (by show c + (r.2.2 ++ w1.2.2).length < 1000; omega) _, fun f20 s2 => ⟨⟨trivial, trivial, trivial, k + 1, (w1.1, w1.2.1, r.2.2 ++ w1.2.2 ++ [-(nxI (f 11) n r.1)]), by omega, by rw [nI_1], rd_add cat len s2, ?_, ?_⟩, ?_⟩⟩
      · obtain ⟨u1, u2, u3, u4⟩ := bw
        refine ⟨by show p ≤ w1.1; omega, u2, ?_, fun _ => by show p < w1.1; omega⟩
        show p + (r.2.2 ++ w1.2.2 ++ [-(nxI (f 11) n r.1)]).length ≤ w1.1
        rw [List.length_append, List.length_append]; simp; omega
      · rw [pe, show cnt - k = cnt - (k + 1) + 1 by omega, pLoop_s ⟨ok, y⟩, hw]
      · rw [nI_1, nI_clamp (by omega), nI_clamp (by omega)]; omega
  refine ⟨fun z => main 50 (by omega) (by rw [if_neg (fun e => z (by rw [e]; rfl))]) 50 rfl, fun z => main 1 (by omega) ?_ 1 rfl⟩
  have : lv = 2 := by
    have : nI lv = nI 2 := z
    rwa [nI_eq (by omega) (by omega)] at this
  rw [if_pos this]
set_option maxHeartbeats 400000 in
theorem vc_X2_readPart : vcS_X2_readPart := by
  intro f a1 hp
  obtain ⟨hr, op, rfl, o5⟩ := hp
  obtain ⟨n, p, c0, h⟩ := rd_of hr
  obtain ⟨h1, h2, h3, h4, h5, h6, h7⟩ := id h
  refine ⟨by rw [mu_rp o5]; omega, ?_⟩
  rw [mu_rp o5]
  have c5 : (5 : Int32) ≤ nI op ↔ 5 ≤ op := nI_leI (a := 5) (by decide) (by omega)
  obtain ⟨c, hc⟩ : ∃ c, c = nxI (f 11) n p := ⟨_, rfl⟩
  have nx : Val_X2_next f = c := (rd_next h1 h2 h3 h5).trans hc.symm
  have P5 := PS_5 (f 11) n op p o5
  rw [← hc] at P5
  have dgE : (Val_X2_isDigit f c = 0) = ¬ dgI c = true := bI0
  have rE : rdRep f f c0 (p, false, []) := ⟨h5, h6, h7, fun _ _ _ => rfl, fun _ _ => rfl, fun j hj => absurd hj (Nat.not_lt_zero _)⟩
  have fin : ∀ g, rdRep f g c0 (PS (f 11) n 5 op p) → pV (Post_X2_readPart f (nI op)) none g := fun g q => by
    rw [pV_iff]; exact rp_uq o5 (rd_mk (by omega) o5 h q)
  have up : p < n → rdRep f (up2 f 42 3 (f 42 3 + 1)) c0 (p + 1, false, []) := fun l => by
    refine ⟨by rw [up2_at, h5, nI_1], (up2_off _ _ (by decide)).trans h6, (up2_off _ _ (by decide)).trans h7, fun a x y => up2_row _ _ _ _ _ x, fun j hj => by rw [up2_row _ _ _ _ _ (by decide)], fun j hj => absurd hj (Nat.not_lt_zero _)⟩
  have name : (c = 107 ∨ c = 118 ∨ c = 109) → wp_X2_readPart_L37 (8 * (5 - op) + 1) f c (pV (Post_X2_readPart f (nI op))) := fun cc => by
    have nd : ¬ dgI c = true := by rcases cc with e | e | e <;> rw [e] <;> decide
    have l : p < n := by rcases cc with e | e | e <;> rw [e] at hc <;> exact nx_in hc.symm (by decide)
    rw [if_neg nd, if_pos cc] at P5
    simp only [wp_X2_readPart_L37]
    refine ⟨rd_addP (up l) (by show c0 + 0 < 1000; omega) _, fun f4 s => fin _ ?_⟩
    rw [P5]
    exact rd_add (up l) (by show c0 + 0 < 50; omega) s
  have l93 : ¬ dgI c = true → ¬ (c = 107 ∨ c = 118 ∨ c = 109) → ¬ (c = 33 ∧ op < 5) → wp_X2_readPart_L93 (8 * (5 - op) + 1) f (nI op) c (pV (Post_X2_readPart f (nI op))) := by
    intro nd nn n33
    rw [if_neg nd, if_neg nn, if_neg n33] at P5
    have l171 : ¬ (c = 40 ∧ op < 5) → wp_X2_readPart_L171 (8 * (5 - op) + 1) f (pV (Post_X2_readPart f (nI op))) := fun n40 => by
      rw [if_neg n40] at P5
      simp only [wp_X2_readPart_L171]
      refine fin _ ?_
      rw [P5]
      exact ⟨(up2_off _ _ (by decide)).trans h5, (up2_off _ _ (by decide)).trans h6, up2_at _ _ _ _, fun a x y => up2_row _ _ _ _ _ x, fun j hj => by rw [up2_row _ _ _ _ _ (by decide)], fun j hj => absurd hj (Nat.not_lt_zero _)⟩
    simp only [wp_X2_readPart_L93]
    refine ⟨fun z => l171 (fun t => z t.1), fun e40 => ⟨fun z => l171 (fun t => by have := c5.mp z; omega), fun z => ?_⟩⟩
    have ol : op < 5 := Nat.lt_of_not_le (fun t => z (c5.mpr t))
    rw [if_pos ⟨e40, ol⟩] at P5
    have l : p < n := by rw [e40] at hc; exact nx_in hc.symm (by decide)
    have rU := rd_up h l
    rw [nI_1]
    refine ⟨⟨rd_pre rU, 0, op + 1, rfl, rfl, by omega, by omega⟩, by rw [show (0 : Int32) = nI 0 from rfl, mu_rl (by omega) (by omega)]; omega, fun f13 s => ?_⟩
    have q := rd_in (s 0 (op + 1) rfl rfl (by omega) (by omega)) rU
    rw [up2_row _ _ _ _ _ (show ¬ (11 : Nat) = 42 by decide)] at q
    have bw := PS_bd (f 11) 0 (op + 1) (show p + 1 ≤ n from l)
    generalize PS (f 11) n 0 (op + 1) (p + 1) = w at q bw P5
    have q' : rdRep f f13 c0 w := by
      obtain ⟨k1, k2, k3, k4, k5, k6⟩ := q
      exact ⟨k1, k2, k3, fun a x y => by rw [k4 a x y, up2_row _ _ _ _ _ x], fun j hj => by rw [k5 j hj, up2_row _ _ _ _ _ (by decide)], k6⟩
    obtain ⟨k1, k2, k3, k4, k5, k6⟩ := q'
    have g11 : f13 11 = f 11 := k4 11 (by decide) (by decide)
    have g19 : f13 1 9 = nI n := by rw [k4 1 (by decide) (by decide)]; exact h2
    have nx2 : Val_X2_next f13 = nxI (f 11) n w.1 := by rw [rd_next h1 g19 bw.2.1 k1, g11]
    have bad : ¬ (w.2.1 = false ∧ nxI (f 11) n w.1 = 41) → wp_X2_readPart_L139 (8 * (5 - op) + 1) f13 (pV (Post_X2_readPart f (nI op))) := fun no => by
      rw [if_neg no] at P5
      simp only [wp_X2_readPart_L139, wp_X2_readPart_L144, wp_X2_readPart_L164]
      refine ⟨Or.inr trivial, fun e => absurd e (by decide), fun _ => fin _ ?_⟩
      rw [P5]
      have z0 : ∀ x : Int32, x + 0 = x := fun x => by grind
      rw [z0]
      refine ⟨?_, ?_, ?_, fun a x y => by rw [up2_row _ _ _ _ _ x, up2_row _ _ _ _ _ x]; exact k4 a x y, fun j hj => by rw [up2_row _ _ _ _ _ (by decide), up2_row _ _ _ _ _ (by decide)]; exact k5 j hj, fun j hj => by rw [up2_row _ _ _ _ _ (by decide), up2_row _ _ _ _ _ (by decide)]; exact k6 j hj⟩
      · rw [up2_at]; exact k1
      · rw [up2_off _ _ (by decide), up2_off _ _ (by decide)]; exact k2
      · rw [up2_off _ _ (by decide), up2_at]; rfl
    refine ⟨fun z4 => bad (fun t => ?_), fun z4 => ⟨fun e41 => ?_, fun e41 => bad (fun t => ?_)⟩⟩
    · rw [k3, t.1] at z4; exact z4 rfl
    · have ok : w.2.1 = false := by rw [k3] at z4; exact bI_0 z4
      rw [nx2] at e41
      rw [if_pos ⟨ok, e41⟩] at P5
      simp only [wp_X2_readPart_L144, wp_X2_readPart_L164]
      refine ⟨Or.inl trivial, fun _ => fin _ ?_, fun e => absurd trivial e⟩
      rw [P5]
      refine ⟨?_, ?_, ?_, fun a x y => by rw [up2_row _ _ _ _ _ x, up2_row _ _ _ _ _ x]; exact k4 a x y, fun j hj => by rw [up2_row _ _ _ _ _ (by decide), up2_row _ _ _ _ _ (by decide)]; exact k5 j hj, fun j hj => by rw [up2_row _ _ _ _ _ (by decide), up2_row _ _ _ _ _ (by decide)]; exact k6 j hj⟩
      · rw [up2_at, k1, nI_1]
      · rw [up2_off _ _ (by decide), up2_off _ _ (by decide)]; exact k2
      · rw [up2_off _ _ (by decide), up2_at]; rfl
    · rw [nx2] at e41; exact e41 t.2
  simp only [wp_X2_readPart]
  rw [nx, dgE]
  refine ⟨fun nd => ⟨fun e => name (Or.inl e), fun a107 => ⟨fun e => name (Or.inr (Or.inl e)), fun a118 => ⟨fun a109 => ?_, fun e => name (Or.inr (Or.inr e))⟩⟩⟩, fun dn => ?_⟩
  · have nn : ¬ (c = 107 ∨ c = 118 ∨ c = 109) := fun t => by
      rcases t with e | e | e
      · exact a107 e
      · exact a118 e
      · exact a109 e
    refine ⟨fun n33 => l93 nd nn (fun t => n33 t.1), fun e33 => ⟨fun z => l93 nd nn (fun t => by have := c5.mp z; omega), fun z => ?_⟩⟩
    have ol : op < 5 := Nat.lt_of_not_le (fun t => z (c5.mpr t))
    rw [if_neg nd, if_neg nn, if_pos ⟨e33, ol⟩] at P5
    have l : p < n := by rw [e33] at hc; exact nx_in hc.symm (by decide)
    have rU := rd_up h l
    rw [nI_1]
    refine ⟨⟨rd_pre rU, op + 1, rfl, by omega⟩, by rw [mu_rp (by omega)]; omega, fun f22 s => ?_⟩
    have q := rd_in (s (op + 1) rfl (by omega)) rU
    rw [up2_row _ _ _ _ _ (show ¬ (11 : Nat) = 42 by decide)] at q
    have bw := PS_bd (f 11) 5 (op + 1) (show p + 1 ≤ n from l)
    generalize PS (f 11) n 5 (op + 1) (p + 1) = w at q bw P5
    have q' : rdRep f f22 c0 (w.1, w.2.1, w.2.2) := by
      obtain ⟨k1, k2, k3, k4, k5, k6⟩ := q
      exact ⟨k1, k2, k3, fun a x y => by rw [k4 a x y, up2_row _ _ _ _ _ x], fun j hj => by rw [k5 j hj, up2_row _ _ _ _ _ (by decide)], k6⟩
    have len : c0 + w.2.2.length < 50 := by have := bw.2.2.1; have := bw.2.1; omega
    refine ⟨rd_addP q' (by show c0 + w.2.2.length < 1000; omega) _, fun f25 s2 => fin _ ?_⟩
    rw [P5]
    have := rd_add q' len s2
    rw [e33] at this
    exact this
  · have dg : dgI c = true := Classical.not_not.mp dn
    have l : p < n := by rw [hc] at dg; exact dg_in dg
    rw [if_pos dg] at P5
    refine ⟨⟨n, p, c0, h1, h2, l, h4, h5, h6, h7⟩, fun f28 s => fin _ ?_⟩
    have e := s n p c0 h1 h2 l h4 ⟨h5, h6, h7⟩
    rw [P5, e]
    refine ⟨?_, up2_at _ _ _ _, ?_, fun a x y => ?_, fun j hj => ?_, fun j hj => ?_⟩
    · rw [up2_off _ _ (by decide), up2_row _ _ _ _ _ (by decide), up2_at]
    · rw [up2_off _ _ (by decide), up2_row _ _ _ _ _ (by decide), up2_off _ _ (by decide)]; exact h7
    · rw [up2_row _ _ _ _ _ x, up2_row _ _ _ _ _ y, up2_row _ _ _ _ _ x]
    · rw [up2_row _ _ _ _ _ (by decide), up2_off _ _ (by omega), up2_row _ _ _ _ _ (by decide)]
    · have : j = 0 := by simp at hj; omega
      subst this
      rw [up2_row _ _ _ _ _ (by decide), Nat.add_zero, up2_at]; rfl
theorem vc_X2_readTape : vcS_X2_readTape := by
  intro f hp
  obtain ⟨⟨n, n50, hn⟩, hby⟩ := hp
  simp only [wp_X2_readTape, wp_X2_readTape_L36]
  obtain ⟨g, hg⟩ : ∃ g, g = up2 (up2 (up2 f 42 2 0) 42 3 0) 42 4 0 := ⟨_, rfl⟩
  rw [← hg]
  have g1 : ∀ a, ¬ a = 42 → g a = f a := fun a x => by rw [hg, up2_row _ _ _ _ _ x, up2_row _ _ _ _ _ x, up2_row _ _ _ _ _ x]
  have gat : rdAt g n 0 0 := ⟨n50, by rw [g1 1 (by decide)]; exact hn, by omega, by omega, by rw [hg, up2_off _ _ (by decide), up2_at]; rfl, by rw [hg, up2_off _ _ (by decide), up2_off _ _ (by decide), up2_at]; rfl, by rw [hg, up2_at]⟩
  refine ⟨⟨rd_pre gat, 0, 0, rfl, rfl, by omega, by omega⟩, fun f2 s => ?_⟩
  have q := rd_in (s 0 0 rfl rfl (by omega) (by omega)) gat
  rw [g1 11 (by decide), ← pT_PS] at q
  have bw := PS_bd (f 11) 0 0 (Nat.zero_le n)
  rw [← pT_PS] at bw
  have uq : ∀ n2 : Nat, n2 ≤ 50 → f 1 9 = nI n2 → n2 = n := fun n2 h e => by rw [hn, nI_eq (by omega) (by omega)] at e; exact e.symm
  obtain ⟨k1, k2, k3, k4, k5, k6⟩ := q
  have fr : ∀ a, a ≠ 42 → a ≠ 43 → f2 a = f a := fun a x y => by rw [k4 a x y, g1 a x]
  have nx2 : Val_X2_next f2 = nxI (f 11) n (pT (f 11) n).1 := by rw [rd_next n50 (by rw [fr 1 (by decide) (by decide)]; exact hn) bw.2.1 k1, fr 11 (by decide) (by decide)]
  have bad : ¬ ((pT (f 11) n).2.1 = false ∧ (pT (f 11) n).1 = n) → pI (Post_X2_readTape f) (some (.int (f2 42 3))) f2 := fun no => by
    rw [pI_iff]
    intro n2 h2 e2
    have := uq n2 h2 e2
    subst this
    exact ⟨fr, by rw [if_neg no]; exact k1, bw.2.1, by have := bw.2.2.1; omega⟩
  refine ⟨fun z => bad (fun t => by rw [k3, t.1] at z; exact z rfl), fun z => ⟨fun e => ?_, fun e => bad (fun t => ?_)⟩⟩
  · have ok : (pT (f 11) n).2.1 = false := by rw [k3] at z; exact bI_0 z
    rw [pI_iff]
    intro n2 h2 e2
    have := uq n2 h2 e2
    subst this
    refine ⟨fr, ?_, bw.2.1, by have := bw.2.2.1; omega⟩
    by_cases en : (pT (f 11) n2).1 = n2
    · rw [if_pos ⟨ok, en⟩]
      exact ⟨rfl, by rw [k2, Nat.zero_add], fun j hj => by have := k6 j hj; rwa [Nat.zero_add] at this⟩
    · exfalso
      have l : (pT (f 11) n2).1 < n2 := by have := bw.2.1; omega
      rw [nx2] at e
      unfold nxI at e
      rw [if_pos l] at e
      have := hby _ (show (pT (f 11) n2).1 < 50 by omega)
      rw [e] at this
      exact absurd this (by decide)
  · rw [nx2] at e
    apply e
    unfold nxI
    rw [if_neg (by omega)]
set_option maxHeartbeats 200000 in
theorem vc_X6_bodyAt : vcS_X6_bodyAt := by
  unfold vcS_X6_bodyAt
  simp only [wp_X6_bodyAt, pI_iff, pV_iff, pL_iff, Val_X6_bodyAt, tn0, tn1, tn2, tn3, tn4, tn5, tn6, tn7, tn8, tn9, tn10, tn12, tn18, tn40, tn50, tn60, tn90, tn92, tn112, tn212, tnn1, ni0, ni1, ni2, ni3, ni4, ni5, ni6, ni7, er1, er2, er3, er4, er5, lg_cmp_lt, lg_cmp_le, lg_cmp_gt, lg_cmp_ge, lg_cmp_eq]
  intros
  (repeat' (first | with_reducible apply And.intro | with_reducible intro _)) <;> (try first | apply pR_some | apply pR_none) <;> first | grind [Val_X6_bodyAt, up2_ap, cpr_ap, vp1, vp2, vp3, vp4, vp5, vp6, vp20, vp40, vp50, vp60, vp160, vp264, tnc, nIX, nIc, tncA, tncS, tncM, l56, eqM_rfl, up2_row, InvF, InvF0, dF1, dF2, sw0, sw1, InvT]
theorem bodStep : ∀ a k, actOK a → kOK k → (BV (a * 7 + k).toNatClampNeg = 0 → 0 ≤ kAb k ∧ kOK (kAb k) ∧ bodI a (kAb k) = bodI a k ∧ klv (kAb k) < klv k) ∧ (¬ BV (a * 7 + k).toNatClampNeg = 0 → BV (a * 7 + k).toNatClampNeg = bodI a k) ∧ 0 ≤ k ∧ vp_in (a * 7 + k) 28 ∧ ¬ a * 7 + k < 0 ∧ ¬ 28 ≤ a * 7 + k ∧ klv k ≤ 2 := by
  intro a k ha hk
  rcases ha with ha | ha | ha | ha <;> rcases hk with hk | hk | hk | hk | hk | hk | hk <;> subst ha hk <;> exact ⟨by unfold kOK; decide, by decide, by decide, by unfold vp_in; decide, by decide, by decide, by decide⟩
theorem vc_X6_bodyFor : vcS_X6_bodyFor := by
  intro f0 a1 a2 hp
  simp only [wp_X6_bodyFor, wp_X6_bodyFor_L4]
  refine ⟨fun (f : Fn) (x0 x2 x3 : Int32) => f = f0 ∧ x0 = a1 ∧ kOK x2 ∧ bodI a1 x2 = bodI a1 a2 ∧ ∃ k : Nat, x3 = nI k ∧ k + klv x2 ≤ 2, fun _ _ _ x3 => 10 - x3.toNatClampNeg, ⟨rfl, rfl, hp.2, rfl, 0, rfl, by have := (bodStep a1 a2 hp.1 hp.2).2.2.2.2.2.2; omega⟩, ?_⟩
  rintro f x0 x2 x3 ⟨rfl, rfl, hk, hb, k, rfl, hl⟩
  obtain ⟨b1, b2, b3, b4, b5, b6, b7⟩ := bodStep x0 x2 hp.1 hk
  simp only [wpb_X6_bodyFor_L4, wp_X6_bodyFor_L52, pI_iff]
  refine ⟨fun h => ?_, fun h => ⟨fun h => absurd h (Int32.not_lt.mpr b3), fun h => ⟨fun h => absurd h b5, fun h => ⟨fun h => absurd h b6, fun h => ⟨b4, fun h => ?_, fun h => ⟨b4, ?_⟩⟩⟩⟩⟩⟩
  · have : nI 7 ≤ nI k := h
    rw [nI_leI (by decide) (by omega)] at this
    omega
  · obtain ⟨c1, c2, c3, c4⟩ := b1 h
    refine ⟨⟨trivial, trivial, c2, by rw [← hb]; exact c3, k + 1, by rw [nI_1], ?_⟩, ?_⟩
    · show k + 1 + klv (kAb x2) ≤ 2; omega
    · rw [nI_1, nI_clamp (by omega), nI_clamp (by omega)]; omega
  · exact ⟨by rw [b2 h]; exact hb, trivial⟩
set_option maxHeartbeats 200000 in
theorem vc_X6_note : vcS_X6_note := by
  unfold vcS_X6_note
  simp only [wp_X6_note, pI_iff, pV_iff, pL_iff, Post_X6_note, tn0, tn1, tn2, tn3, tn4, tn5, tn6, tn7, tn8, tn9, tn10, tn12, tn18, tn40, tn50, tn60, tn90, tn92, tn112, tn212, tnn1, ni0, ni1, ni2, ni3, ni4, ni5, ni6, ni7, er1, er2, er3, er4, er5, lg_cmp_lt, lg_cmp_le, lg_cmp_gt, lg_cmp_ge, lg_cmp_eq]
  intros
  (repeat' (first | with_reducible apply And.intro | with_reducible intro _)) <;> (try first | apply pR_some | apply pR_none) <;> first | grind [up2_ap, cpr_ap, vp1, vp2, vp3, vp4, vp5, vp6, vp20, vp40, vp50, vp60, vp160, vp264, tnc, nIX, nIc, tncA, tncS, tncM, l56, eqM_rfl, up2_row, InvF, InvF0, dF1, dF2, sw0, sw1, InvT]
set_option maxHeartbeats 1600000 in
theorem vc_X6_say : vcS_X6_say := by
  intro f a1 a2 a3 a4 hp
  obtain ⟨hK0, ha, hk, ⟨t, ht, h44⟩, q0, hq, hl⟩ := hp
  have A0 : actOK 0 := Or.inl rfl
  have A1 : actOK 1 := Or.inr (Or.inl rfl)
  have A2 : actOK 2 := Or.inr (Or.inr (Or.inl rfl))
  have A3 : actOK 3 := Or.inr (Or.inr (Or.inr rfl))
  have w0 : awt 0 = 0 := by decide
  have w1 : awt 1 = 1 := by decide
  have w2 : awt 2 = 0 := by decide
  have w3 : awt 3 = 2 := by decide
  have c0 : klv 0 = 0 := by decide
  have c1 : klv 1 = 1 := by decide
  have c2 : klv 2 = 1 := by decide
  have c3 : klv 3 = 1 := by decide
  have c4 : klv 4 = 2 := by decide
  have c5 : klv 5 = 2 := by decide
  have c6 : klv 6 = 2 := by decide
  have aw := awt2 ha
  have kw := klv2 hk
  have hq40 : a4 ≤ 40 := by rw [hq]; exact nI_le (b := 40) (by omega) (by omega)
  have hq1 : a4 + 1 = nI (q0 + 1) := by rw [hq, nI_1]
  obtain ⟨K, eK⟩ : ∃ K, K = f 46 0 := ⟨_, rfl⟩
  have Q : vpQ f K (f 44 2) (f 46 1) t := ⟨by rw [eK]; exact hK0, eK.symm, rfl, rfl, h44⟩
  have k2 := klv2 Q.1
  refine ⟨by show 2 * (3 * awt a1 + klv a2) < 18; omega, ?_⟩
  generalize f 44 2 = n at Q
  generalize f 46 1 = m at Q
  clear hK0 eK
  unfold wp_X6_say
  rcases ha with ha | ha | ha | ha <;> rcases hk with hk | hk | hk | hk | hk | hk | hk <;> subst ha hk
  · have hB : Val_X6_bodyFor f 0 0 = 10 := by unfold Val_X6_bodyFor; decide
    have vv : vlb 0 (klv 0) = 1 := by decide
    rw [vv] at ht
    rw [hB]
    have vb : vlb 0 (klv 0) = 1 := by decide
    refine ⟨fun _ => ⟨⟨A0, by unfold kOK; decide⟩, fun g0 p0 => ?_⟩, fun q => absurd hq40 q⟩
    obtain ⟨Q0, F0, T0⟩ := notQ Q (by omega) p0
    refine ⟨fun _ => ?_, fun q => absurd q (by decide), fun q => absurd q (by decide), fun q => absurd q (by decide), fun q => absurd q (by decide), fun q => absurd q (by decide), fun q => absurd q (by decide), fun q => absurd q (by decide), fun q => absurd q (by decide), fun q => absurd q (by decide), fun q => absurd q (by decide)⟩
    rw [Q0.2.2.1]
    exact mk6 Q (fun d hd => by
        obtain ⟨e, rfl⟩ : ∃ e, d = e + 1 := ⟨d - 1, by omega⟩
        rw [show e + 1 + 2 = e + 2 + 1 by omega, vo_00]
        skip
        exact ⟨rfl, T0⟩) F0
  · have hB : Val_X6_bodyFor f 0 1 = 20 := by unfold Val_X6_bodyFor; decide
    have vv : vlb 0 (klv 1) = 2 := by decide
    rw [vv] at ht
    rw [hB]
    have vb : vlb 0 (klv 1) = 2 := by decide
    refine ⟨fun _ => ⟨⟨A0, by unfold kOK; decide⟩, fun g0 p0 => ?_⟩, fun q => absurd hq40 q⟩
    obtain ⟨Q0, F0, T0⟩ := notQ Q (by omega) p0
    refine ⟨fun q => absurd q (by decide), fun q => absurd q (by decide), fun q => absurd q (by decide), fun q => absurd q (by decide), fun _ => ?_, fun q => absurd q (by decide), fun q => absurd q (by decide), fun q => absurd q (by decide), fun q => absurd q (by decide), fun q => absurd q (by decide), fun q => absurd q (by decide)⟩
    rw [show Val_X0_kindAbove f ((20 : Int32) / 10 - 1) = 0 by unfold Val_X0_kindAbove; decide]
    have b1 : vlb 0 (klv 0) = 1 := by decide
    have h1 : kOK 0 := by unfold kOK; decide
    refine ⟨ps6 Q0 A0 h1 (by omega) hq1 (by omega), by show 2 * (3 * awt 0 + klv 0) < 2 * (3 * awt 0 + klv 1); decide, fun r1 g1 p1 => ?_⟩
    obtain ⟨P1, F1, t1, Q1, B1⟩ := qs6 Q0 A0 h1 (by omega) p1
    exact mk6 Q (fun d hd => by
        obtain ⟨e, rfl⟩ : ∃ e, d = e + 1 := ⟨d - 1, by omega⟩
        rw [show e + 1 + 2 = e + 2 + 1 by omega, vo_01]
        have u1 := P1 e (by omega)
        exact ⟨by rw [u1.1], (trA_app T0 u1.2)⟩) (vpF_t F0 F1)
  · have hB : Val_X6_bodyFor f 0 2 = 10 := by unfold Val_X6_bodyFor; decide
    have vv : vlb 0 (klv 2) = 2 := by decide
    rw [vv] at ht
    rw [hB]
    have vb : vlb 0 (klv 0) = 1 := by decide
    refine ⟨fun _ => ⟨⟨A0, by unfold kOK; decide⟩, fun g0 p0 => ?_⟩, fun q => absurd hq40 q⟩
    obtain ⟨Q0, F0, T0⟩ := notQ Q (by omega) p0
    refine ⟨fun _ => ?_, fun q => absurd q (by decide), fun q => absurd q (by decide), fun q => absurd q (by decide), fun q => absurd q (by decide), fun q => absurd q (by decide), fun q => absurd q (by decide), fun q => absurd q (by decide), fun q => absurd q (by decide), fun q => absurd q (by decide), fun q => absurd q (by decide)⟩
    rw [Q0.2.2.1]
    exact mk6 Q (fun d hd => by
        obtain ⟨e, rfl⟩ : ∃ e, d = e + 2 := ⟨d - 2, by omega⟩
        rw [show e + 2 + 2 = e + 2 + 1 + 1 by omega, vo_02, vo_00]
        skip
        exact ⟨rfl, T0⟩) F0
  · have hB : Val_X6_bodyFor f 0 3 = 10 := by unfold Val_X6_bodyFor; decide
    have vv : vlb 0 (klv 3) = 2 := by decide
    rw [vv] at ht
    rw [hB]
    have vb : vlb 0 (klv 0) = 1 := by decide
    refine ⟨fun _ => ⟨⟨A0, by unfold kOK; decide⟩, fun g0 p0 => ?_⟩, fun q => absurd hq40 q⟩
    obtain ⟨Q0, F0, T0⟩ := notQ Q (by omega) p0
    refine ⟨fun _ => ?_, fun q => absurd q (by decide), fun q => absurd q (by decide), fun q => absurd q (by decide), fun q => absurd q (by decide), fun q => absurd q (by decide), fun q => absurd q (by decide), fun q => absurd q (by decide), fun q => absurd q (by decide), fun q => absurd q (by decide), fun q => absurd q (by decide)⟩
    rw [Q0.2.2.1]
    exact mk6 Q (fun d hd => by
        obtain ⟨e, rfl⟩ : ∃ e, d = e + 2 := ⟨d - 2, by omega⟩
        rw [show e + 2 + 2 = e + 2 + 1 + 1 by omega, vo_03, vo_00]
        skip
        exact ⟨rfl, T0⟩) F0
  · have hB : Val_X6_bodyFor f 0 4 = 20 := by unfold Val_X6_bodyFor; decide
    have vv : vlb 0 (klv 4) = 3 := by decide
    rw [vv] at ht
    rw [hB]
    have vb : vlb 0 (klv 1) = 2 := by decide
    refine ⟨fun _ => ⟨⟨A0, by unfold kOK; decide⟩, fun g0 p0 => ?_⟩, fun q => absurd hq40 q⟩
    obtain ⟨Q0, F0, T0⟩ := notQ Q (by omega) p0
    refine ⟨fun q => absurd q (by decide), fun q => absurd q (by decide), fun q => absurd q (by decide), fun q => absurd q (by decide), fun _ => ?_, fun q => absurd q (by decide), fun q => absurd q (by decide), fun q => absurd q (by decide), fun q => absurd q (by decide), fun q => absurd q (by decide), fun q => absurd q (by decide)⟩
    rw [show Val_X0_kindAbove f ((20 : Int32) / 10 - 1) = 0 by unfold Val_X0_kindAbove; decide]
    have b1 : vlb 0 (klv 0) = 1 := by decide
    have h1 : kOK 0 := by unfold kOK; decide
    refine ⟨ps6 Q0 A0 h1 (by omega) hq1 (by omega), by show 2 * (3 * awt 0 + klv 0) < 2 * (3 * awt 0 + klv 4); decide, fun r1 g1 p1 => ?_⟩
    obtain ⟨P1, F1, t1, Q1, B1⟩ := qs6 Q0 A0 h1 (by omega) p1
    exact mk6 Q (fun d hd => by
        obtain ⟨e, rfl⟩ : ∃ e, d = e + 2 := ⟨d - 2, by omega⟩
        rw [show e + 2 + 2 = e + 2 + 1 + 1 by omega, vo_04, vo_01]
        have u1 := P1 e (by omega)
        exact ⟨by rw [u1.1], (trA_app T0 u1.2)⟩) (vpF_t F0 F1)
  · have hB : Val_X6_bodyFor f 0 5 = 10 := by unfold Val_X6_bodyFor; decide
    have vv : vlb 0 (klv 5) = 3 := by decide
    rw [vv] at ht
    rw [hB]
    have vb : vlb 0 (klv 0) = 1 := by decide
    refine ⟨fun _ => ⟨⟨A0, by unfold kOK; decide⟩, fun g0 p0 => ?_⟩, fun q => absurd hq40 q⟩
    obtain ⟨Q0, F0, T0⟩ := notQ Q (by omega) p0
    refine ⟨fun _ => ?_, fun q => absurd q (by decide), fun q => absurd q (by decide), fun q => absurd q (by decide), fun q => absurd q (by decide), fun q => absurd q (by decide), fun q => absurd q (by decide), fun q => absurd q (by decide), fun q => absurd q (by decide), fun q => absurd q (by decide), fun q => absurd q (by decide)⟩
    rw [Q0.2.2.1]
    exact mk6 Q (fun d hd => by
        obtain ⟨e, rfl⟩ : ∃ e, d = e + 3 := ⟨d - 3, by omega⟩
        rw [show e + 3 + 2 = e + 2 + 1 + 1 + 1 by omega, vo_05, vo_02, vo_00]
        skip
        exact ⟨rfl, T0⟩) F0
  · have hB : Val_X6_bodyFor f 0 6 = 10 := by unfold Val_X6_bodyFor; decide
    have vv : vlb 0 (klv 6) = 3 := by decide
    rw [vv] at ht
    rw [hB]
    have vb : vlb 0 (klv 0) = 1 := by decide
    refine ⟨fun _ => ⟨⟨A0, by unfold kOK; decide⟩, fun g0 p0 => ?_⟩, fun q => absurd hq40 q⟩
    obtain ⟨Q0, F0, T0⟩ := notQ Q (by omega) p0
    refine ⟨fun _ => ?_, fun q => absurd q (by decide), fun q => absurd q (by decide), fun q => absurd q (by decide), fun q => absurd q (by decide), fun q => absurd q (by decide), fun q => absurd q (by decide), fun q => absurd q (by decide), fun q => absurd q (by decide), fun q => absurd q (by decide), fun q => absurd q (by decide)⟩
    rw [Q0.2.2.1]
    exact mk6 Q (fun d hd => by
        obtain ⟨e, rfl⟩ : ∃ e, d = e + 3 := ⟨d - 3, by omega⟩
        rw [show e + 3 + 2 = e + 2 + 1 + 1 + 1 by omega, vo_06, vo_03, vo_00]
        skip
        exact ⟨rfl, T0⟩) F0
  · have hB : Val_X6_bodyFor f 1 0 = 11 := by unfold Val_X6_bodyFor; decide
    have vv : vlb 1 (klv 0) = 4 := by decide
    rw [vv] at ht
    rw [hB]
    have vb : vlb 1 (klv 0) = 4 := by decide
    refine ⟨fun _ => ⟨⟨A1, by unfold kOK; decide⟩, fun g0 p0 => ?_⟩, fun q => absurd hq40 q⟩
    obtain ⟨Q0, F0, T0⟩ := notQ Q (by omega) p0
    refine ⟨fun q => absurd q (by decide), fun _ => ?_, fun q => absurd q (by decide), fun q => absurd q (by decide), fun q => absurd q (by decide), fun q => absurd q (by decide), fun q => absurd q (by decide), fun q => absurd q (by decide), fun q => absurd q (by decide), fun q => absurd q (by decide), fun q => absurd q (by decide)⟩
    have b1 : vlb 0 2 = 3 := by decide
    refine ⟨pw6 Q0 A0 (by omega) hq1 (by omega), by show 2 * (3 * awt 0 + 2) + 1 < 2 * (3 * awt 1 + klv 0); decide, fun r1 g1 p1 => ?_⟩
    obtain ⟨P1, F1, t1, Q1, B1⟩ := qw6 Q0 A0 (by omega) p1
    exact mk6 Q (fun d hd => by
        obtain ⟨e, rfl⟩ : ∃ e, d = e + 1 := ⟨d - 1, by omega⟩
        rw [show e + 1 + 2 = e + 2 + 1 by omega, vo_10]
        have u1 := P1 e (by omega)
        exact ⟨by rw [u1.1], (trA_app T0 u1.2)⟩) (vpF_t F0 F1)
  · have hB : Val_X6_bodyFor f 1 1 = 11 := by unfold Val_X6_bodyFor; decide
    have vv : vlb 1 (klv 1) = 8 := by decide
    rw [vv] at ht
    rw [hB]
    have vb : vlb 1 (klv 0) = 4 := by decide
    refine ⟨fun _ => ⟨⟨A1, by unfold kOK; decide⟩, fun g0 p0 => ?_⟩, fun q => absurd hq40 q⟩
    obtain ⟨Q0, F0, T0⟩ := notQ Q (by omega) p0
    refine ⟨fun q => absurd q (by decide), fun _ => ?_, fun q => absurd q (by decide), fun q => absurd q (by decide), fun q => absurd q (by decide), fun q => absurd q (by decide), fun q => absurd q (by decide), fun q => absurd q (by decide), fun q => absurd q (by decide), fun q => absurd q (by decide), fun q => absurd q (by decide)⟩
    have b1 : vlb 0 2 = 3 := by decide
    refine ⟨pw6 Q0 A0 (by omega) hq1 (by omega), by show 2 * (3 * awt 0 + 2) + 1 < 2 * (3 * awt 1 + klv 1); decide, fun r1 g1 p1 => ?_⟩
    obtain ⟨P1, F1, t1, Q1, B1⟩ := qw6 Q0 A0 (by omega) p1
    exact mk6 Q (fun d hd => by
        obtain ⟨e, rfl⟩ : ∃ e, d = e + 2 := ⟨d - 2, by omega⟩
        rw [show e + 2 + 2 = e + 2 + 1 + 1 by omega, vo_11, vo_10]
        have u1 := P1 e (by omega)
        exact ⟨by rw [u1.1], (trA_app T0 u1.2)⟩) (vpF_t F0 F1)
  · have hB : Val_X6_bodyFor f 1 2 = 30 := by unfold Val_X6_bodyFor; decide
    have vv : vlb 1 (klv 2) = 8 := by decide
    rw [vv] at ht
    rw [hB]
    have vb : vlb 1 (klv 2) = 8 := by decide
    refine ⟨fun _ => ⟨⟨A1, by unfold kOK; decide⟩, fun g0 p0 => ?_⟩, fun q => absurd hq40 q⟩
    obtain ⟨Q0, F0, T0⟩ := notQ Q (by omega) p0
    refine ⟨fun q => absurd q (by decide), fun q => absurd q (by decide), fun q => absurd q (by decide), fun q => absurd q (by decide), fun q => absurd q (by decide), fun _ => ?_, fun q => absurd q (by decide), fun q => absurd q (by decide), fun q => absurd q (by decide), fun q => absurd q (by decide), fun q => absurd q (by decide)⟩
    rw [show Val_X0_kindAbove f ((30 : Int32) / 10 - 1) = 0 by unfold Val_X0_kindAbove; decide]
    have b1 : vlb 1 (klv 0) = 4 := by decide
    have h1 : kOK 0 := by unfold kOK; decide
    refine ⟨ps6 Q0 A1 h1 (by omega) hq1 (by omega), by show 2 * (3 * awt 1 + klv 0) < 2 * (3 * awt 1 + klv 2); decide, fun r1 g1 p1 => ?_⟩
    obtain ⟨P1, F1, t1, Q1, B1⟩ := qs6 Q0 A1 h1 (by omega) p1
    have b2 : vlb 2 2 = 3 := by decide
    refine ⟨pw6 Q1 A2 (by omega) hq1 (by omega), by show 2 * (3 * awt 2 + 2) + 1 < 2 * (3 * awt 1 + klv 2); decide, fun r2 g2 p2 => ?_⟩
    obtain ⟨P2, F2, t2, Q2, B2⟩ := qw6 Q1 A2 (by omega) p2
    exact mk6 Q (fun d hd => by
        obtain ⟨e, rfl⟩ : ∃ e, d = e + 1 := ⟨d - 1, by omega⟩
        rw [show e + 1 + 2 = e + 2 + 1 by omega, vo_12]
        have u1 := P1 e (by omega); have u2 := P2 e (by omega)
        exact ⟨by rw [u1.1]; rw [u2.1], (trA_app T0 (trA_app u1.2 u2.2))⟩) (vpF_t F0 (vpF_t F1 F2))
  · have hB : Val_X6_bodyFor f 1 3 = 11 := by unfold Val_X6_bodyFor; decide
    have vv : vlb 1 (klv 3) = 8 := by decide
    rw [vv] at ht
    rw [hB]
    have vb : vlb 1 (klv 0) = 4 := by decide
    refine ⟨fun _ => ⟨⟨A1, by unfold kOK; decide⟩, fun g0 p0 => ?_⟩, fun q => absurd hq40 q⟩
    obtain ⟨Q0, F0, T0⟩ := notQ Q (by omega) p0
    refine ⟨fun q => absurd q (by decide), fun _ => ?_, fun q => absurd q (by decide), fun q => absurd q (by decide), fun q => absurd q (by decide), fun q => absurd q (by decide), fun q => absurd q (by decide), fun q => absurd q (by decide), fun q => absurd q (by decide), fun q => absurd q (by decide), fun q => absurd q (by decide)⟩
    have b1 : vlb 0 2 = 3 := by decide
    refine ⟨pw6 Q0 A0 (by omega) hq1 (by omega), by show 2 * (3 * awt 0 + 2) + 1 < 2 * (3 * awt 1 + klv 3); decide, fun r1 g1 p1 => ?_⟩
    obtain ⟨P1, F1, t1, Q1, B1⟩ := qw6 Q0 A0 (by omega) p1
    exact mk6 Q (fun d hd => by
        obtain ⟨e, rfl⟩ : ∃ e, d = e + 2 := ⟨d - 2, by omega⟩
        rw [show e + 2 + 2 = e + 2 + 1 + 1 by omega, vo_13, vo_10]
        have u1 := P1 e (by omega)
        exact ⟨by rw [u1.1], (trA_app T0 u1.2)⟩) (vpF_t F0 F1)
  · have hB : Val_X6_bodyFor f 1 4 = 11 := by unfold Val_X6_bodyFor; decide
    have vv : vlb 1 (klv 4) = 9 := by decide
    rw [vv] at ht
    rw [hB]
    have vb : vlb 1 (klv 0) = 4 := by decide
    refine ⟨fun _ => ⟨⟨A1, by unfold kOK; decide⟩, fun g0 p0 => ?_⟩, fun q => absurd hq40 q⟩
    obtain ⟨Q0, F0, T0⟩ := notQ Q (by omega) p0
    refine ⟨fun q => absurd q (by decide), fun _ => ?_, fun q => absurd q (by decide), fun q => absurd q (by decide), fun q => absurd q (by decide), fun q => absurd q (by decide), fun q => absurd q (by decide), fun q => absurd q (by decide), fun q => absurd q (by decide), fun q => absurd q (by decide), fun q => absurd q (by decide)⟩
    have b1 : vlb 0 2 = 3 := by decide
    refine ⟨pw6 Q0 A0 (by omega) hq1 (by omega), by show 2 * (3 * awt 0 + 2) + 1 < 2 * (3 * awt 1 + klv 4); decide, fun r1 g1 p1 => ?_⟩
    obtain ⟨P1, F1, t1, Q1, B1⟩ := qw6 Q0 A0 (by omega) p1
    exact mk6 Q (fun d hd => by
        obtain ⟨e, rfl⟩ : ∃ e, d = e + 3 := ⟨d - 3, by omega⟩
        rw [show e + 3 + 2 = e + 2 + 1 + 1 + 1 by omega, vo_14, vo_11, vo_10]
        have u1 := P1 e (by omega)
        exact ⟨by rw [u1.1], (trA_app T0 u1.2)⟩) (vpF_t F0 F1)
  · have hB : Val_X6_bodyFor f 1 5 = 60 := by unfold Val_X6_bodyFor; decide
    have vv : vlb 1 (klv 5) = 9 := by decide
    rw [vv] at ht
    rw [hB]
    have vb : vlb 1 (klv 5) = 9 := by decide
    refine ⟨fun _ => ⟨⟨A1, by unfold kOK; decide⟩, fun g0 p0 => ?_⟩, fun q => absurd hq40 q⟩
    obtain ⟨Q0, F0, T0⟩ := notQ Q (by omega) p0
    refine ⟨fun q => absurd q (by decide), fun q => absurd q (by decide), fun q => absurd q (by decide), fun q => absurd q (by decide), fun q => absurd q (by decide), fun q => absurd q (by decide), fun q => absurd q (by decide), fun q => absurd q (by decide), fun _ => ?_, fun q => absurd q (by decide), fun q => absurd q (by decide)⟩
    rw [show Val_X0_kindAbove f ((60 : Int32) / 10 - 1) = 2 by unfold Val_X0_kindAbove; decide]
    have b1 : vlb 1 (klv 2) = 8 := by decide
    have h1 : kOK 2 := by unfold kOK; decide
    refine ⟨ps6 Q0 A1 h1 (by omega) hq1 (by omega), by show 2 * (3 * awt 1 + klv 2) < 2 * (3 * awt 1 + klv 5); decide, fun r1 g1 p1 => ?_⟩
    obtain ⟨P1, F1, t1, Q1, B1⟩ := qs6 Q0 A1 h1 (by omega) p1
    exact mk6 Q (fun d hd => by
        obtain ⟨e, rfl⟩ : ∃ e, d = e + 1 := ⟨d - 1, by omega⟩
        rw [show e + 1 + 2 = e + 2 + 1 by omega, vo_15]
        have u1 := P1 e (by omega)
        exact ⟨by rw [u1.1], (trA_app T0 u1.2)⟩) (vpF_t F0 F1)
  · have hB : Val_X6_bodyFor f 1 6 = 11 := by unfold Val_X6_bodyFor; decide
    have vv : vlb 1 (klv 6) = 9 := by decide
    rw [vv] at ht
    rw [hB]
    have vb : vlb 1 (klv 0) = 4 := by decide
    refine ⟨fun _ => ⟨⟨A1, by unfold kOK; decide⟩, fun g0 p0 => ?_⟩, fun q => absurd hq40 q⟩
    obtain ⟨Q0, F0, T0⟩ := notQ Q (by omega) p0
    refine ⟨fun q => absurd q (by decide), fun _ => ?_, fun q => absurd q (by decide), fun q => absurd q (by decide), fun q => absurd q (by decide), fun q => absurd q (by decide), fun q => absurd q (by decide), fun q => absurd q (by decide), fun q => absurd q (by decide), fun q => absurd q (by decide), fun q => absurd q (by decide)⟩
    have b1 : vlb 0 2 = 3 := by decide
    refine ⟨pw6 Q0 A0 (by omega) hq1 (by omega), by show 2 * (3 * awt 0 + 2) + 1 < 2 * (3 * awt 1 + klv 6); decide, fun r1 g1 p1 => ?_⟩
    obtain ⟨P1, F1, t1, Q1, B1⟩ := qw6 Q0 A0 (by omega) p1
    exact mk6 Q (fun d hd => by
        obtain ⟨e, rfl⟩ : ∃ e, d = e + 3 := ⟨d - 3, by omega⟩
        rw [show e + 3 + 2 = e + 2 + 1 + 1 + 1 by omega, vo_16, vo_13, vo_10]
        have u1 := P1 e (by omega)
        exact ⟨by rw [u1.1], (trA_app T0 u1.2)⟩) (vpF_t F0 F1)
  · have hB : Val_X6_bodyFor f 2 0 = 12 := by unfold Val_X6_bodyFor; decide
    have vv : vlb 2 (klv 0) = 1 := by decide
    rw [vv] at ht
    rw [hB]
    have vb : vlb 2 (klv 0) = 1 := by decide
    refine ⟨fun _ => ⟨⟨A2, by unfold kOK; decide⟩, fun g0 p0 => ?_⟩, fun q => absurd hq40 q⟩
    obtain ⟨Q0, F0, T0⟩ := notQ Q (by omega) p0
    refine ⟨fun q => absurd q (by decide), fun q => absurd q (by decide), fun _ => ?_, fun q => absurd q (by decide), fun q => absurd q (by decide), fun q => absurd q (by decide), fun q => absurd q (by decide), fun q => absurd q (by decide), fun q => absurd q (by decide), fun q => absurd q (by decide), fun q => absurd q (by decide)⟩
    rw [Q0.2.2.2.1]
    exact mk6 Q (fun d hd => by
        obtain ⟨e, rfl⟩ : ∃ e, d = e + 1 := ⟨d - 1, by omega⟩
        rw [show e + 1 + 2 = e + 2 + 1 by omega, vo_20]
        skip
        exact ⟨rfl, T0⟩) F0
  · have hB : Val_X6_bodyFor f 2 1 = 12 := by unfold Val_X6_bodyFor; decide
    have vv : vlb 2 (klv 1) = 2 := by decide
    rw [vv] at ht
    rw [hB]
    have vb : vlb 2 (klv 0) = 1 := by decide
    refine ⟨fun _ => ⟨⟨A2, by unfold kOK; decide⟩, fun g0 p0 => ?_⟩, fun q => absurd hq40 q⟩
    obtain ⟨Q0, F0, T0⟩ := notQ Q (by omega) p0
    refine ⟨fun q => absurd q (by decide), fun q => absurd q (by decide), fun _ => ?_, fun q => absurd q (by decide), fun q => absurd q (by decide), fun q => absurd q (by decide), fun q => absurd q (by decide), fun q => absurd q (by decide), fun q => absurd q (by decide), fun q => absurd q (by decide), fun q => absurd q (by decide)⟩
    rw [Q0.2.2.2.1]
    exact mk6 Q (fun d hd => by
        obtain ⟨e, rfl⟩ : ∃ e, d = e + 2 := ⟨d - 2, by omega⟩
        rw [show e + 2 + 2 = e + 2 + 1 + 1 by omega, vo_21, vo_20]
        skip
        exact ⟨rfl, T0⟩) F0
  · have hB : Val_X6_bodyFor f 2 2 = 12 := by unfold Val_X6_bodyFor; decide
    have vv : vlb 2 (klv 2) = 2 := by decide
    rw [vv] at ht
    rw [hB]
    have vb : vlb 2 (klv 0) = 1 := by decide
    refine ⟨fun _ => ⟨⟨A2, by unfold kOK; decide⟩, fun g0 p0 => ?_⟩, fun q => absurd hq40 q⟩
    obtain ⟨Q0, F0, T0⟩ := notQ Q (by omega) p0
    refine ⟨fun q => absurd q (by decide), fun q => absurd q (by decide), fun _ => ?_, fun q => absurd q (by decide), fun q => absurd q (by decide), fun q => absurd q (by decide), fun q => absurd q (by decide), fun q => absurd q (by decide), fun q => absurd q (by decide), fun q => absurd q (by decide), fun q => absurd q (by decide)⟩
    rw [Q0.2.2.2.1]
    exact mk6 Q (fun d hd => by
        obtain ⟨e, rfl⟩ : ∃ e, d = e + 2 := ⟨d - 2, by omega⟩
        rw [show e + 2 + 2 = e + 2 + 1 + 1 by omega, vo_22, vo_20]
        skip
        exact ⟨rfl, T0⟩) F0
  · have hB : Val_X6_bodyFor f 2 3 = 40 := by unfold Val_X6_bodyFor; decide
    have vv : vlb 2 (klv 3) = 2 := by decide
    rw [vv] at ht
    rw [hB]
    have vb : vlb 2 (klv 3) = 2 := by decide
    refine ⟨fun _ => ⟨⟨A2, by unfold kOK; decide⟩, fun g0 p0 => ?_⟩, fun q => absurd hq40 q⟩
    obtain ⟨Q0, F0, T0⟩ := notQ Q (by omega) p0
    refine ⟨fun q => absurd q (by decide), fun q => absurd q (by decide), fun q => absurd q (by decide), fun q => absurd q (by decide), fun q => absurd q (by decide), fun q => absurd q (by decide), fun _ => ?_, fun q => absurd q (by decide), fun q => absurd q (by decide), fun q => absurd q (by decide), fun q => absurd q (by decide)⟩
    rw [show Val_X0_kindAbove f ((40 : Int32) / 10 - 1) = 0 by unfold Val_X0_kindAbove; decide]
    have b1 : vlb 2 (klv 0) = 1 := by decide
    have h1 : kOK 0 := by unfold kOK; decide
    refine ⟨ps6 Q0 A2 h1 (by omega) hq1 (by omega), by show 2 * (3 * awt 2 + klv 0) < 2 * (3 * awt 2 + klv 3); decide, fun r1 g1 p1 => ?_⟩
    obtain ⟨P1, F1, t1, Q1, B1⟩ := qs6 Q0 A2 h1 (by omega) p1
    exact mk6 Q (fun d hd => by
        obtain ⟨e, rfl⟩ : ∃ e, d = e + 1 := ⟨d - 1, by omega⟩
        rw [show e + 1 + 2 = e + 2 + 1 by omega, vo_23]
        have u1 := P1 e (by omega)
        exact ⟨by rw [u1.1], (trA_app T0 u1.2)⟩) (vpF_t F0 F1)
  · have hB : Val_X6_bodyFor f 2 4 = 12 := by unfold Val_X6_bodyFor; decide
    have vv : vlb 2 (klv 4) = 3 := by decide
    rw [vv] at ht
    rw [hB]
    have vb : vlb 2 (klv 0) = 1 := by decide
    refine ⟨fun _ => ⟨⟨A2, by unfold kOK; decide⟩, fun g0 p0 => ?_⟩, fun q => absurd hq40 q⟩
    obtain ⟨Q0, F0, T0⟩ := notQ Q (by omega) p0
    refine ⟨fun q => absurd q (by decide), fun q => absurd q (by decide), fun _ => ?_, fun q => absurd q (by decide), fun q => absurd q (by decide), fun q => absurd q (by decide), fun q => absurd q (by decide), fun q => absurd q (by decide), fun q => absurd q (by decide), fun q => absurd q (by decide), fun q => absurd q (by decide)⟩
    rw [Q0.2.2.2.1]
    exact mk6 Q (fun d hd => by
        obtain ⟨e, rfl⟩ : ∃ e, d = e + 3 := ⟨d - 3, by omega⟩
        rw [show e + 3 + 2 = e + 2 + 1 + 1 + 1 by omega, vo_24, vo_21, vo_20]
        skip
        exact ⟨rfl, T0⟩) F0
  · have hB : Val_X6_bodyFor f 2 5 = 12 := by unfold Val_X6_bodyFor; decide
    have vv : vlb 2 (klv 5) = 3 := by decide
    rw [vv] at ht
    rw [hB]
    have vb : vlb 2 (klv 0) = 1 := by decide
    refine ⟨fun _ => ⟨⟨A2, by unfold kOK; decide⟩, fun g0 p0 => ?_⟩, fun q => absurd hq40 q⟩
    obtain ⟨Q0, F0, T0⟩ := notQ Q (by omega) p0
    refine ⟨fun q => absurd q (by decide), fun q => absurd q (by decide), fun _ => ?_, fun q => absurd q (by decide), fun q => absurd q (by decide), fun q => absurd q (by decide), fun q => absurd q (by decide), fun q => absurd q (by decide), fun q => absurd q (by decide), fun q => absurd q (by decide), fun q => absurd q (by decide)⟩
    rw [Q0.2.2.2.1]
    exact mk6 Q (fun d hd => by
        obtain ⟨e, rfl⟩ : ∃ e, d = e + 3 := ⟨d - 3, by omega⟩
        rw [show e + 3 + 2 = e + 2 + 1 + 1 + 1 by omega, vo_25, vo_22, vo_20]
        skip
        exact ⟨rfl, T0⟩) F0
  · have hB : Val_X6_bodyFor f 2 6 = 70 := by unfold Val_X6_bodyFor; decide
    have vv : vlb 2 (klv 6) = 3 := by decide
    rw [vv] at ht
    rw [hB]
    have vb : vlb 2 (klv 6) = 3 := by decide
    refine ⟨fun _ => ⟨⟨A2, by unfold kOK; decide⟩, fun g0 p0 => ?_⟩, fun q => absurd hq40 q⟩
    obtain ⟨Q0, F0, T0⟩ := notQ Q (by omega) p0
    refine ⟨fun q => absurd q (by decide), fun q => absurd q (by decide), fun q => absurd q (by decide), fun q => absurd q (by decide), fun q => absurd q (by decide), fun q => absurd q (by decide), fun q => absurd q (by decide), fun q => absurd q (by decide), fun q => absurd q (by decide), fun _ => ?_, fun q => absurd q (by decide)⟩
    rw [show Val_X0_kindAbove f ((70 : Int32) / 10 - 1) = 3 by unfold Val_X0_kindAbove; decide]
    have b1 : vlb 2 (klv 3) = 2 := by decide
    have h1 : kOK 3 := by unfold kOK; decide
    refine ⟨ps6 Q0 A2 h1 (by omega) hq1 (by omega), by show 2 * (3 * awt 2 + klv 3) < 2 * (3 * awt 2 + klv 6); decide, fun r1 g1 p1 => ?_⟩
    obtain ⟨P1, F1, t1, Q1, B1⟩ := qs6 Q0 A2 h1 (by omega) p1
    rw [Q1.2.2.1]
    exact mk6 Q (fun d hd => by
        obtain ⟨e, rfl⟩ : ∃ e, d = e + 1 := ⟨d - 1, by omega⟩
        rw [show e + 1 + 2 = e + 2 + 1 by omega, vo_26]
        have u1 := P1 e (by omega)
        exact ⟨by rw [u1.1], (trA_app T0 u1.2)⟩) (vpF_t F0 F1)
  · have hB : Val_X6_bodyFor f 3 0 = 13 := by unfold Val_X6_bodyFor; decide
    have vv : vlb 3 (klv 0) = 13 := by decide
    rw [vv] at ht
    rw [hB]
    have vb : vlb 3 (klv 0) = 13 := by decide
    refine ⟨fun _ => ⟨⟨A3, by unfold kOK; decide⟩, fun g0 p0 => ?_⟩, fun q => absurd hq40 q⟩
    obtain ⟨Q0, F0, T0⟩ := notQ Q (by omega) p0
    refine ⟨fun q => absurd q (by decide), fun q => absurd q (by decide), fun q => absurd q (by decide), fun _ => ?_, fun q => absurd q (by decide), fun q => absurd q (by decide), fun q => absurd q (by decide), fun q => absurd q (by decide), fun q => absurd q (by decide), fun q => absurd q (by decide), fun q => absurd q (by decide)⟩
    have b1 : vlb 1 2 = 9 := by decide
    refine ⟨pw6 Q0 A1 (by omega) hq1 (by omega), by show 2 * (3 * awt 1 + 2) + 1 < 2 * (3 * awt 3 + klv 0); decide, fun r1 g1 p1 => ?_⟩
    obtain ⟨P1, F1, t1, Q1, B1⟩ := qw6 Q0 A1 (by omega) p1
    have b2 : vlb 2 2 = 3 := by decide
    refine ⟨pw6 Q1 A2 (by omega) hq1 (by omega), by show 2 * (3 * awt 2 + 2) + 1 < 2 * (3 * awt 3 + klv 0); decide, fun r2 g2 p2 => ?_⟩
    obtain ⟨P2, F2, t2, Q2, B2⟩ := qw6 Q1 A2 (by omega) p2
    exact mk6 Q (fun d hd => by
        obtain ⟨e, rfl⟩ : ∃ e, d = e + 1 := ⟨d - 1, by omega⟩
        rw [show e + 1 + 2 = e + 2 + 1 by omega, vo_30]
        have u1 := P1 e (by omega); have u2 := P2 e (by omega)
        exact ⟨by rw [u1.1]; rw [u2.1], (trA_app T0 (trA_app u1.2 u2.2))⟩) (vpF_t F0 (vpF_t F1 F2))
  · have hB : Val_X6_bodyFor f 3 1 = 13 := by unfold Val_X6_bodyFor; decide
    have vv : vlb 3 (klv 1) = 13 := by decide
    rw [vv] at ht
    rw [hB]
    have vb : vlb 3 (klv 0) = 13 := by decide
    refine ⟨fun _ => ⟨⟨A3, by unfold kOK; decide⟩, fun g0 p0 => ?_⟩, fun q => absurd hq40 q⟩
    obtain ⟨Q0, F0, T0⟩ := notQ Q (by omega) p0
    refine ⟨fun q => absurd q (by decide), fun q => absurd q (by decide), fun q => absurd q (by decide), fun _ => ?_, fun q => absurd q (by decide), fun q => absurd q (by decide), fun q => absurd q (by decide), fun q => absurd q (by decide), fun q => absurd q (by decide), fun q => absurd q (by decide), fun q => absurd q (by decide)⟩
    have b1 : vlb 1 2 = 9 := by decide
    refine ⟨pw6 Q0 A1 (by omega) hq1 (by omega), by show 2 * (3 * awt 1 + 2) + 1 < 2 * (3 * awt 3 + klv 1); decide, fun r1 g1 p1 => ?_⟩
    obtain ⟨P1, F1, t1, Q1, B1⟩ := qw6 Q0 A1 (by omega) p1
    have b2 : vlb 2 2 = 3 := by decide
    refine ⟨pw6 Q1 A2 (by omega) hq1 (by omega), by show 2 * (3 * awt 2 + 2) + 1 < 2 * (3 * awt 3 + klv 1); decide, fun r2 g2 p2 => ?_⟩
    obtain ⟨P2, F2, t2, Q2, B2⟩ := qw6 Q1 A2 (by omega) p2
    exact mk6 Q (fun d hd => by
        obtain ⟨e, rfl⟩ : ∃ e, d = e + 2 := ⟨d - 2, by omega⟩
        rw [show e + 2 + 2 = e + 2 + 1 + 1 by omega, vo_31, vo_30]
        have u1 := P1 e (by omega); have u2 := P2 e (by omega)
        exact ⟨by rw [u1.1]; rw [u2.1], (trA_app T0 (trA_app u1.2 u2.2))⟩) (vpF_t F0 (vpF_t F1 F2))
  · have hB : Val_X6_bodyFor f 3 2 = 13 := by unfold Val_X6_bodyFor; decide
    have vv : vlb 3 (klv 2) = 13 := by decide
    rw [vv] at ht
    rw [hB]
    have vb : vlb 3 (klv 0) = 13 := by decide
    refine ⟨fun _ => ⟨⟨A3, by unfold kOK; decide⟩, fun g0 p0 => ?_⟩, fun q => absurd hq40 q⟩
    obtain ⟨Q0, F0, T0⟩ := notQ Q (by omega) p0
    refine ⟨fun q => absurd q (by decide), fun q => absurd q (by decide), fun q => absurd q (by decide), fun _ => ?_, fun q => absurd q (by decide), fun q => absurd q (by decide), fun q => absurd q (by decide), fun q => absurd q (by decide), fun q => absurd q (by decide), fun q => absurd q (by decide), fun q => absurd q (by decide)⟩
    have b1 : vlb 1 2 = 9 := by decide
    refine ⟨pw6 Q0 A1 (by omega) hq1 (by omega), by show 2 * (3 * awt 1 + 2) + 1 < 2 * (3 * awt 3 + klv 2); decide, fun r1 g1 p1 => ?_⟩
    obtain ⟨P1, F1, t1, Q1, B1⟩ := qw6 Q0 A1 (by omega) p1
    have b2 : vlb 2 2 = 3 := by decide
    refine ⟨pw6 Q1 A2 (by omega) hq1 (by omega), by show 2 * (3 * awt 2 + 2) + 1 < 2 * (3 * awt 3 + klv 2); decide, fun r2 g2 p2 => ?_⟩
    obtain ⟨P2, F2, t2, Q2, B2⟩ := qw6 Q1 A2 (by omega) p2
    exact mk6 Q (fun d hd => by
        obtain ⟨e, rfl⟩ : ∃ e, d = e + 2 := ⟨d - 2, by omega⟩
        rw [show e + 2 + 2 = e + 2 + 1 + 1 by omega, vo_32, vo_30]
        have u1 := P1 e (by omega); have u2 := P2 e (by omega)
        exact ⟨by rw [u1.1]; rw [u2.1], (trA_app T0 (trA_app u1.2 u2.2))⟩) (vpF_t F0 (vpF_t F1 F2))
  · have hB : Val_X6_bodyFor f 3 3 = 13 := by unfold Val_X6_bodyFor; decide
    have vv : vlb 3 (klv 3) = 13 := by decide
    rw [vv] at ht
    rw [hB]
    have vb : vlb 3 (klv 0) = 13 := by decide
    refine ⟨fun _ => ⟨⟨A3, by unfold kOK; decide⟩, fun g0 p0 => ?_⟩, fun q => absurd hq40 q⟩
    obtain ⟨Q0, F0, T0⟩ := notQ Q (by omega) p0
    refine ⟨fun q => absurd q (by decide), fun q => absurd q (by decide), fun q => absurd q (by decide), fun _ => ?_, fun q => absurd q (by decide), fun q => absurd q (by decide), fun q => absurd q (by decide), fun q => absurd q (by decide), fun q => absurd q (by decide), fun q => absurd q (by decide), fun q => absurd q (by decide)⟩
    have b1 : vlb 1 2 = 9 := by decide
    refine ⟨pw6 Q0 A1 (by omega) hq1 (by omega), by show 2 * (3 * awt 1 + 2) + 1 < 2 * (3 * awt 3 + klv 3); decide, fun r1 g1 p1 => ?_⟩
    obtain ⟨P1, F1, t1, Q1, B1⟩ := qw6 Q0 A1 (by omega) p1
    have b2 : vlb 2 2 = 3 := by decide
    refine ⟨pw6 Q1 A2 (by omega) hq1 (by omega), by show 2 * (3 * awt 2 + 2) + 1 < 2 * (3 * awt 3 + klv 3); decide, fun r2 g2 p2 => ?_⟩
    obtain ⟨P2, F2, t2, Q2, B2⟩ := qw6 Q1 A2 (by omega) p2
    exact mk6 Q (fun d hd => by
        obtain ⟨e, rfl⟩ : ∃ e, d = e + 2 := ⟨d - 2, by omega⟩
        rw [show e + 2 + 2 = e + 2 + 1 + 1 by omega, vo_33, vo_30]
        have u1 := P1 e (by omega); have u2 := P2 e (by omega)
        exact ⟨by rw [u1.1]; rw [u2.1], (trA_app T0 (trA_app u1.2 u2.2))⟩) (vpF_t F0 (vpF_t F1 F2))
  · have hB : Val_X6_bodyFor f 3 4 = 50 := by unfold Val_X6_bodyFor; decide
    have vv : vlb 3 (klv 4) = 23 := by decide
    rw [vv] at ht
    rw [hB]
    have vb : vlb 3 (klv 4) = 23 := by decide
    refine ⟨fun _ => ⟨⟨A3, by unfold kOK; decide⟩, fun g0 p0 => ?_⟩, fun q => absurd hq40 q⟩
    obtain ⟨Q0, F0, T0⟩ := notQ Q (by omega) p0
    refine ⟨fun q => absurd q (by decide), fun q => absurd q (by decide), fun q => absurd q (by decide), fun q => absurd q (by decide), fun q => absurd q (by decide), fun q => absurd q (by decide), fun q => absurd q (by decide), fun _ => ?_, fun q => absurd q (by decide), fun q => absurd q (by decide), fun q => absurd q (by decide)⟩
    rw [show Val_X0_kindAbove f ((50 : Int32) / 10 - 1) = 1 by unfold Val_X0_kindAbove; decide]
    have b1 : vlb 3 (klv 1) = 13 := by decide
    have h1 : kOK 1 := by unfold kOK; decide
    refine ⟨ps6 Q0 A3 h1 (by omega) hq1 (by omega), by show 2 * (3 * awt 3 + klv 1) < 2 * (3 * awt 3 + klv 4); decide, fun r1 g1 p1 => ?_⟩
    obtain ⟨P1, F1, t1, Q1, B1⟩ := qs6 Q0 A3 h1 (by omega) p1
    have b2 : vlb 0 2 = 3 := by decide
    refine ⟨pw6 Q1 A0 (by omega) hq1 (by omega), by show 2 * (3 * awt 0 + 2) + 1 < 2 * (3 * awt 3 + klv 4); decide, fun r2 g2 p2 => ?_⟩
    obtain ⟨P2, F2, t2, Q2, B2⟩ := qw6 Q1 A0 (by omega) p2
    exact mk6 Q (fun d hd => by
        obtain ⟨e, rfl⟩ : ∃ e, d = e + 1 := ⟨d - 1, by omega⟩
        rw [show e + 1 + 2 = e + 2 + 1 by omega, vo_34]
        have u1 := P1 e (by omega); have u2 := P2 e (by omega)
        exact ⟨by rw [u1.1]; rw [u2.1], (trA_app T0 (trA_app u1.2 u2.2))⟩) (vpF_t F0 (vpF_t F1 F2))
  · have hB : Val_X6_bodyFor f 3 5 = 13 := by unfold Val_X6_bodyFor; decide
    have vv : vlb 3 (klv 5) = 23 := by decide
    rw [vv] at ht
    rw [hB]
    have vb : vlb 3 (klv 0) = 13 := by decide
    refine ⟨fun _ => ⟨⟨A3, by unfold kOK; decide⟩, fun g0 p0 => ?_⟩, fun q => absurd hq40 q⟩
    obtain ⟨Q0, F0, T0⟩ := notQ Q (by omega) p0
    refine ⟨fun q => absurd q (by decide), fun q => absurd q (by decide), fun q => absurd q (by decide), fun _ => ?_, fun q => absurd q (by decide), fun q => absurd q (by decide), fun q => absurd q (by decide), fun q => absurd q (by decide), fun q => absurd q (by decide), fun q => absurd q (by decide), fun q => absurd q (by decide)⟩
    have b1 : vlb 1 2 = 9 := by decide
    refine ⟨pw6 Q0 A1 (by omega) hq1 (by omega), by show 2 * (3 * awt 1 + 2) + 1 < 2 * (3 * awt 3 + klv 5); decide, fun r1 g1 p1 => ?_⟩
    obtain ⟨P1, F1, t1, Q1, B1⟩ := qw6 Q0 A1 (by omega) p1
    have b2 : vlb 2 2 = 3 := by decide
    refine ⟨pw6 Q1 A2 (by omega) hq1 (by omega), by show 2 * (3 * awt 2 + 2) + 1 < 2 * (3 * awt 3 + klv 5); decide, fun r2 g2 p2 => ?_⟩
    obtain ⟨P2, F2, t2, Q2, B2⟩ := qw6 Q1 A2 (by omega) p2
    exact mk6 Q (fun d hd => by
        obtain ⟨e, rfl⟩ : ∃ e, d = e + 3 := ⟨d - 3, by omega⟩
        rw [show e + 3 + 2 = e + 2 + 1 + 1 + 1 by omega, vo_35, vo_32, vo_30]
        have u1 := P1 e (by omega); have u2 := P2 e (by omega)
        exact ⟨by rw [u1.1]; rw [u2.1], (trA_app T0 (trA_app u1.2 u2.2))⟩) (vpF_t F0 (vpF_t F1 F2))
  · have hB : Val_X6_bodyFor f 3 6 = 71 := by unfold Val_X6_bodyFor; decide
    have vv : vlb 3 (klv 6) = 23 := by decide
    rw [vv] at ht
    rw [hB]
    have vb : vlb 3 (klv 6) = 23 := by decide
    refine ⟨fun _ => ⟨⟨A3, by unfold kOK; decide⟩, fun g0 p0 => ?_⟩, fun q => absurd hq40 q⟩
    obtain ⟨Q0, F0, T0⟩ := notQ Q (by omega) p0
    refine ⟨fun q => absurd q (by decide), fun q => absurd q (by decide), fun q => absurd q (by decide), fun q => absurd q (by decide), fun q => absurd q (by decide), fun q => absurd q (by decide), fun q => absurd q (by decide), fun q => absurd q (by decide), fun q => absurd q (by decide), fun q => absurd q (by decide), fun _ => ?_⟩
    have b1 : vlb 1 2 = 9 := by decide
    refine ⟨pw6 Q0 A1 (by omega) hq1 (by omega), by show 2 * (3 * awt 1 + 2) + 1 < 2 * (3 * awt 3 + klv 6); decide, fun r1 g1 p1 => ?_⟩
    obtain ⟨P1, F1, t1, Q1, B1⟩ := qw6 Q0 A1 (by omega) p1
    rw [show Val_X0_kindAbove f ((71 : Int32) / 10 - 1) = 3 by unfold Val_X0_kindAbove; decide]
    have b2 : vlb 3 (klv 3) = 13 := by decide
    have h2 : kOK 3 := by unfold kOK; decide
    refine ⟨ps6 Q1 A3 h2 (by omega) hq1 (by omega), by show 2 * (3 * awt 3 + klv 3) < 2 * (3 * awt 3 + klv 6); decide, fun r2 g2 p2 => ?_⟩
    obtain ⟨P2, F2, t2, Q2, B2⟩ := qs6 Q1 A3 h2 (by omega) p2
    exact mk6 Q (fun d hd => by
        obtain ⟨e, rfl⟩ : ∃ e, d = e + 1 := ⟨d - 1, by omega⟩
        rw [show e + 1 + 2 = e + 2 + 1 by omega, vo_36]
        have u1 := P1 e (by omega); have u2 := P2 e (by omega)
        exact ⟨by rw [u1.1]; rw [u2.1], (trA_app T0 (trA_app u1.2 u2.2))⟩) (vpF_t F0 (vpF_t F1 F2))
theorem vc_X6_own : vcS_X6_own := by
  intro f a1 a2 a3 hp
  obtain ⟨hK, ha, ⟨t, ht, h44⟩, q0, hq, hl⟩ := hp
  have aw := awt2 ha
  have k2 := klv2 hK
  have vm := vlbM (a := a1) k2 (Nat.le_refl 2)
  refine ⟨by show 2 * (3 * awt a1 + 2) + 1 < 18; omega, ?_⟩
  simp only [wp_X6_own, pI_iff]
  exact ⟨⟨hK, ha, hK, ⟨t, by omega, h44⟩, q0, hq, by omega⟩, by show 2 * (3 * awt a1 + klv (f 46 0)) < 2 * (3 * awt a1 + 2) + 1; omega, fun r f1 p => p⟩
theorem vlb23 {a : Int32} {l : Nat} (h : l ≤ 2) : 0 + vlb a l ≤ 40 := by
  have := vlbM (a := a) h (Nat.le_refl 2)
  have : vlb a 2 ≤ 23 := by
    unfold vlb
    split
    · omega
    · split
      · decide
      · decide
  omega
theorem vc_X6_speak : vcS_X6_speak := by
  intro o f a1 a3 a4 ho hp
  obtain ⟨hK, ha, h44, h45, h46⟩ := hp
  simp only [wp_X6_speak, pI_iff]
  intro f1 p
  unfold Post_X0_copy at p
  have fo : ∀ a, ¬ a = 44 → up2 (up2 f 44 1 0) 44 2 a1 a = f a := fun a x => by rw [up2_row _ _ _ _ _ x, up2_row _ _ _ _ _ x]
  have e46 : ∀ j, j < 4 → f1 46 j = f o j := fun j hj => by rw [p, cpr_ap, if_pos rfl, if_pos hj, fo o h44]
  have r44 : ∀ j, f1 44 j = up2 (up2 f 44 1 0) 44 2 a1 44 j := fun j => by rw [p, cpr_row _ _ _ _ _ (by decide)]
  have Q : vpQ f1 (f o 0) a1 (f o 1) 0 := ⟨hK, e46 0 (by decide), by rw [r44, up2_at], e46 1 (by decide), by rw [r44, up2_off _ _ (by decide), up2_at]; rfl⟩
  have aw := awt2 ha
  have k2 := klv2 hK
  rw [e46 0 (by decide)]
  refine ⟨ps6 (q0 := 0) Q ha hK (vlb23 k2) rfl (by omega), fun r4 f5 q => ?_⟩
  obtain ⟨P, F, -⟩ := qs6 Q ha hK (vlb23 k2) q
  obtain ⟨u1, u2⟩ := P 10 (by omega)
  have len := vo_len (n := a1) (m := f o 1) hK (10 + 2) a3 (f o 0) a4 ha hK
  obtain ⟨t1, t2, t3, t4⟩ := u2 0 Q.2.2.2.2 (by have := vlb23 (a := a3) k2; omega)
  refine ⟨u1, by rw [t1, Nat.zero_add], fun j hj => by rw [← t3 j hj, Nat.zero_add], fun a x y z => ?_⟩
  rw [F.1 a x y, p, cpr_row _ _ _ _ _ z, fo a x]
theorem VCt_l2 : VC_l2 := ⟨vc_X7_swingOf, vc_X7_lawOf, vc_X7_flyerOf, vc_X7_addByte, vc_X7_addWaiting, vc_X7_draw, vc_X7_copyA, vc_X7_copyB, vc_X5_start, vc_X5_fly, vc_X5_off, vc_X5_isHeld, vc_X5_isCaught, vc_X5_howManyCaught, vc_X5_firstCaught, vc_X5_casesCaught, vc_X5_surestWait, vc_X5_leastPumps, vc_X5_leastSteps, vc_X5_gatherFalls, vc_X5_harmTogether, vc_X5_leastHarmPlace, vc_X5_isAsTold, vc_X5_firstPhase, vc_X5_howManyPhases, vc_X5_leastLag, vc_X2_next, vc_X2_addStep, vc_X2_levelOf, vc_X2_isDigit, vc_X2_readNumber, vc_X2_readLevel, vc_X2_readPart, vc_X2_readTape, vc_X6_bodyAt, vc_X6_bodyFor, vc_X6_note, vc_X6_say, vc_X6_own, vc_X6_speak, trivial⟩
