/-! facts that a call of grind takes by name -/
theorem startPpF {f f1 g : Fn} {a : Int32} {k : Nat} (h : Cpl f g) (e : Val_X7_flyerOf f a = some k) (p : Post_X5_start k f f1) (hi : InvM g) : (∀ n, Pre_X5_leastPumps f1 n) ∧ True := ⟨fun _ => startPp h hi e p, trivial⟩
theorem startPsF {f f1 g : Fn} {a : Int32} {k : Nat} (h : Cpl f g) (e : Val_X7_flyerOf f a = some k) (p : Post_X5_start k f f1) (hi : InvM g) : (∀ n, Pre_X5_leastSteps f1 n) ∧ True := ⟨fun _ => startPs h hi e p, trivial⟩
theorem swVsF {f g : Fn} (h : Cpl f g) : (∀ (s : Nat → Int32) (t : Int32), s = f 2 → swV s t = swV (sw3 (g 1) 0) t) ∧ True := ⟨fun _ _ e => swVs h e, trivial⟩
theorem swVtF {f g : Fn} (h : Cpl f g) : (∀ (s : Nat → Int32) (t : Int32), s = f 3 → swV s t = swV (sw3 (g 1) 1) t) ∧ True := ⟨fun _ _ e => swVt h e, trivial⟩
theorem toldF {f g : Fn} (h : Cpl f g) : (∀ x : Int32, 1 ≤ x → x ≤ 5 → f 56 x.toNatClampNeg = g 3 x.toNatClampNeg) ∧ True := ⟨fun _ => told2 h, trivial⟩
theorem tracF {f g : Fn} (h : Cpl f g) : (∀ x : Int32, 0 ≤ x → x < g 0 20 → x < 40 → f 45 x.toNatClampNeg = g 6 x.toNatClampNeg) ∧ True := ⟨fun _ => trac2 h, trivial⟩
set_option maxHeartbeats 200000 in
theorem vc_X8_error : vcS_X8_error := by
  unfold vcS_X8_error
  simp only [wp_X8_error_L19, wp_X8_error, pI_iff, pV_iff, pL_iff, Post_X8_error, tn0, tn1, tn2, tn3, tn4, tn5, tn6, tn7, tn8, tn9, tn10, tn12, tn18, tn40, tn50, tn60, tn90, tn92, tn112, tn212, tnn1, ni0, ni1, ni2, ni3, ni4, ni5, ni6, ni7, lg_cmp_lt, lg_cmp_le, lg_cmp_gt, lg_cmp_ge, lg_cmp_eq]
  intros
  (repeat' (first | with_reducible apply And.intro | with_reducible intro _)) <;> (try first | apply pR_some | apply pR_none) <;> first | grind [Val_X8_within, wthI, up2_ap, vp1, vp2, vp3, vp4, vp5, vp6, vp20, vp40, vp50, vp60, tnc, tncA, tncS, tncM, eqM_rfl, up2_row, InvF, InvF0, dF2, sw0, sw1, InvT, → flyerS, → flyerN, → startV, → err1, → err2, → err3, → err4, → err5, → sheetS, → sheetN, → swingS, → swingN, → lawS, → lawN, → CplEqT, → CplTFr, → CplW, → CplSw, → orNf]
set_option maxHeartbeats 200000 in
theorem vc_X8_orNone : vcS_X8_orNone := by
  unfold vcS_X8_orNone
  simp only [wp_X8_orNone, pI_iff, pV_iff, pL_iff, Post_X8_orNone, tn0, tn1, tn2, tn3, tn4, tn5, tn6, tn7, tn8, tn9, tn10, tn12, tn18, tn40, tn50, tn60, tn90, tn92, tn112, tn212, tnn1, ni0, ni1, ni2, ni3, ni4, ni5, ni6, ni7, lg_cmp_lt, lg_cmp_le, lg_cmp_gt, lg_cmp_ge, lg_cmp_eq]
  intros
  (repeat' (first | with_reducible apply And.intro | with_reducible intro _)) <;> (try first | apply pR_some | apply pR_none) <;> first | grind [up2_ap, vp1, vp2, vp3, vp4, vp5, vp6, vp20, vp40, vp50, vp60, tnc, tncA, tncS, tncM, eqM_rfl, up2_row, InvF, InvF0, dF2, sw0, sw1, InvT, → flyerS, → flyerN, → startV, → err1, → err2, → err3, → err4, → err5, → sheetS, → sheetN, → swingS, → swingN, → lawS, → lawN, → CplEqT, → CplTFr, → CplW, → CplSw, → orNf]
set_option maxHeartbeats 200000 in
theorem vc_X8_sheetOf : vcS_X8_sheetOf := by
  unfold vcS_X8_sheetOf
  simp only [wp_X8_sheetOf, pI_iff, pV_iff, pL_iff, Val_X8_sheetOf, tn0, tn1, tn2, tn3, tn4, tn5, tn6, tn7, tn8, tn9, tn10, tn12, tn18, tn40, tn50, tn60, tn90, tn92, tn112, tn212, tnn1, ni0, ni1, ni2, ni3, ni4, ni5, ni6, ni7, lg_cmp_lt, lg_cmp_le, lg_cmp_gt, lg_cmp_ge, lg_cmp_eq]
  intros
  (repeat' (first | with_reducible apply And.intro | with_reducible intro _)) <;> (try first | apply pR_some | apply pR_none) <;> first | grind [Val_X8_within, wthI, up2_ap, vp1, vp2, vp3, vp4, vp5, vp6, vp20, vp40, vp50, vp60, tnc, tncA, tncS, tncM, eqM_rfl, up2_row, InvF, InvF0, dF2, sw0, sw1, InvT, → flyerS, → flyerN, → startV, → err1, → err2, → err3, → err4, → err5, → sheetS, → sheetN, → swingS, → swingN, → lawS, → lawN, → CplEqT, → CplTFr, → CplW, → CplSw, → orNf, → flIs, → swIs, → lawIs, → shIs, ← CplUp, ← CplFlV, → CplFl, → swVC, → givesC]
set_option maxHeartbeats 200000 in
theorem vc_X8_isSpan : vcS_X8_isSpan := by
  unfold vcS_X8_isSpan
  simp only [wp_X8_isSpan, pI_iff, pV_iff, pL_iff, Val_X8_isSpan, tn0, tn1, tn2, tn3, tn4, tn5, tn6, tn7, tn8, tn9, tn10, tn12, tn18, tn40, tn50, tn60, tn90, tn92, tn112, tn212, tnn1, ni0, ni1, ni2, ni3, ni4, ni5, ni6, ni7, lg_cmp_lt, lg_cmp_le, lg_cmp_gt, lg_cmp_ge, lg_cmp_eq]
  intros
  (repeat' (first | with_reducible apply And.intro | with_reducible intro _)) <;> (try first | apply pR_some | apply pR_none) <;> first | grind [Val_X8_isSpan, wthI, Val_X8_within, up2_ap, vp1, vp2, vp3, vp4, vp5, vp6, vp20, vp40, vp50, vp60, tnc, tncA, tncS, tncM, eqM_rfl, up2_row, InvF, InvF0, dF2, sw0, sw1, InvT, → flyerS, → flyerN, → startV, → err1, → err2, → err3, → err4, → err5, → sheetS, → sheetN, → swingS, → swingN, → lawS, → lawN, → CplEqT, → CplTFr, → CplW, → CplSw, → orNf]
set_option maxHeartbeats 200000 in
theorem vc_X8_isKindAndNumber : vcS_X8_isKindAndNumber := by
  unfold vcS_X8_isKindAndNumber
  simp only [wp_X8_isKindAndNumber, pI_iff, pV_iff, pL_iff, Val_X8_isKindAndNumber, tn0, tn1, tn2, tn3, tn4, tn5, tn6, tn7, tn8, tn9, tn10, tn12, tn18, tn40, tn50, tn60, tn90, tn92, tn112, tn212, tnn1, ni0, ni1, ni2, ni3, ni4, ni5, ni6, ni7, lg_cmp_lt, lg_cmp_le, lg_cmp_gt, lg_cmp_ge, lg_cmp_eq]
  intros
  (repeat' (first | with_reducible apply And.intro | with_reducible intro _)) <;> (try first | apply pR_some | apply pR_none) <;> first | grind [Val_X8_isKindAndNumber, wthI, Val_X8_within, up2_ap, vp1, vp2, vp3, vp4, vp5, vp6, vp20, vp40, vp50, vp60, tnc, tncA, tncS, tncM, eqM_rfl, up2_row, InvF, InvF0, dF2, sw0, sw1, InvT, → flyerS, → flyerN, → startV, → err1, → err2, → err3, → err4, → err5, → sheetS, → sheetN, → swingS, → swingN, → lawS, → lawN, → CplEqT, → CplTFr, → CplW, → CplSw, → orNf, → flIs, → swIs, → lawIs, → shIs, ← CplUp, ← CplFlV, → CplFl, → swVC, → givesC]
theorem vc_X8_partOf : vcS_X8_partOf := by
  intro f a1 a2 a3 hp
  obtain ⟨h0, h1⟩ := hp
  obtain ⟨n, n1, rfl⟩ := nI_of2 (M := 1000) (n := 1000) (by decide) (by have := h0; grind) (Int32.not_lt.mp h1)
  simp only [wp_X8_partOf, wp_X8_partOf_L11]
  refine ⟨fun (g : Fn) (x0 x1 x2 x3 x4 x5 : Int32) => g = f ∧ x0 = a1 ∧ x1 = nI n ∧ x2 = a3 ∧ ∃ k : Nat, k ≤ n ∧ x5 = nI k ∧ gcdI (n - k) x3 x4 = gcdI n (absI a1) (nI n), fun _ _ _ _ _ _ x5 => 2000 - x5.toNatClampNeg, ⟨rfl, rfl, rfl, rfl, 0, by omega, rfl, rfl⟩, ?_⟩
  rintro g x0 x1 x2 x3 x4 x5 ⟨rfl, rfl, rfl, rfl, k, hk, rfl, hg⟩
  have out : x3 = gcdI n (absI x0) (nI n) → wp_X8_partOf_L41 g x0 (nI n) x2 x3 (pI (fun r9 f9 => r9 = Val_X8_partOf g x0 (nI n) x2 ∧ f9 = g)) := fun e => by
    have V : Val_X8_partOf g x0 (nI n) x2 = if x2 = 0 then x0 / maxI 1 x3 else nI n / maxI 1 x3 := by
      unfold Val_X8_partOf
      rw [show ix (nI n) = n from nI_clamp (by omega), ← e]
    have nz : ¬ Val_J9_max_7cf53 g 1 x3 = 0 := by
      show ¬ maxI 1 x3 = 0
      unfold maxI
      by_cases q : 1 < x3
      · rw [if_pos q]; grind
      · rw [if_neg q]; decide
    simp only [wp_X8_partOf_L41, pI_iff]
    rw [V]
    exact ⟨fun z => ⟨nz, by rw [if_neg z]; rfl, trivial⟩, fun z => ⟨nz, by rw [if_pos z]; rfl, trivial⟩⟩
  simp only [wpb_X8_partOf_L11]
  rw [nI_leI (by omega) (by omega)]
  refine ⟨fun h => out ?_, fun h => ⟨fun h2 => out ?_, fun h2 => ⟨h2, ⟨trivial, trivial, trivial, trivial, k + 1, by omega, by rw [nI_1], ?_⟩, ?_⟩⟩⟩
  · rw [show n - k = 0 by omega] at hg; exact hg
  · rw [h2, gcdI_0] at hg; exact hg
  · rw [show n - k = n - (k + 1) + 1 by omega, gcdI_s, if_neg h2] at hg
    exact hg
  · rw [nI_1, nI_clamp (by omega), nI_clamp (by omega)]; omega
theorem eqTU {a b : Fn} (h : eqT a b) (k j : Nat) (v : Int32) : eqT (up2 a k j v) (up2 b k j v) := fun x h1 h2 h3 h4 h5 h6 h7 => by
  have e := h x h1 h2 h3 h4 h5 h6 h7
  by_cases q : x = k
  · subst q; rw [up2_same, up2_same, e]
  · rw [up2_row _ _ _ _ _ q, up2_row _ _ _ _ _ q, e]
theorem vc_X8_goToldAt : vcS_X8_goToldAt := by
  intro o f a2 ho hp
  obtain ⟨i, i6, rfl⟩ := hp
  simp only [wp_X8_goToldAt, pI_iff]
  intro f1 st r3 f4 p
  unfold Post_X5_start at st
  obtain ⟨p1, p2, p3, p4⟩ := p
  have tv : TV f1 = VW f (5 + i) := by rw [st]; exact TVs f i i6
  rw [tv] at p1 p4
  have e14 : eqT f f4 := fun x h1 h2 h3 h4 h5 h6 h7 => by
    rw [p2.1 x h1 h2 h3, st, up2_row _ _ _ _ _ h3]
    unfold startF
    rw [cpr_row _ _ _ _ _ h6, cpr_row _ _ _ _ _ h5, cpr_row _ _ _ _ _ h4]
  have e1 : f4 1 = f 1 := e14 1 (by decide) (by decide) (by decide) (by decide) (by decide) (by decide) (by decide)
  have eo : f4 (5 + i) = f (5 + i) := e14 (5 + i) (by omega) (by omega) (by omega) (by omega) (by omega) (by omega) (by omega)
  have no : ¬ (1 : Nat) = 5 + i := by omega
  have hE : Val_X0_harm (5 + i) f4 (Val_J9_abs_0f7a4 f4 (f4 37 8 - f4 1 4)) = harmI (f (5 + i) 0) (f (5 + i) 3) (absI (vPl (VW f (5 + i)) (vT (VW f (5 + i)) a2) - f 1 4)) := by
    unfold Val_X0_harm
    rw [eo, e1, p4]; rfl
  have m3 : Val_J9_min_7cf53 f4 99 (f4 (5 + i) 3 + 1) = minI 99 (f (5 + i) 3 + 1) := by rw [eo]; rfl
  have r13 : ∀ v, up2 f4 (5 + i) 3 v 1 = f 1 := fun v => by rw [up2_row _ _ _ _ _ no, e1]
  rw [hE, m3]
  unfold Post_X8_goToldAt
  refine ⟨fun z => ?_, fun z => ?_⟩
  · have nc : ¬ vCt (VW f (5 + i)) a2 = true := by rw [p1] at z; rw [bI_0 z]; decide
    dsimp only
    rw [if_neg nc]
    refine ⟨rfl, ?_⟩
    have a13 : Val_J9_min_7cf53 (up2 f4 (5 + i) 3 (minI 99 (f (5 + i) 3 + 1))) 9999 (up2 f4 (5 + i) 3 (minI 99 (f (5 + i) 3 + 1)) 1 13 + 1) = minI 9999 (f 1 13 + 1) := by rw [r13]; rfl
    rw [a13]
    have a14 : ∀ F x, Val_J9_min_7cf53 F 99999 (up2 f4 (5 + i) 3 (minI 99 (f (5 + i) 3 + 1)) 1 14 + x) = minI 99999 (f 1 14 + x) := fun F x => by rw [r13]; rfl
    rw [a14]
    exact eqTU (eqTU (eqTU e14 _ _ _) _ _ _) _ _ _
  · have cc : vCt (VW f (5 + i)) a2 = true := by rw [p1] at z; exact bI_1 z
    dsimp only
    rw [if_pos cc]
    refine ⟨rfl, ?_⟩
    have a12 : Val_J9_min_7cf53 (up2 f4 (5 + i) 3 (minI 99 (f (5 + i) 3 + 1))) 9999 (up2 f4 (5 + i) 3 (minI 99 (f (5 + i) 3 + 1)) 1 12 + 1) = minI 9999 (f 1 12 + 1) := by rw [r13]; rfl
    rw [a12]
    exact eqTU (eqTU e14 _ _ _) _ _ _
theorem vc_X8_oneEvening : vcS_X8_oneEvening := by
  intro f0 hp
  obtain ⟨g0, hc0, hi0, ht0⟩ := hp
  obtain ⟨n, n1, n2, n3⟩ := n6 hi0
  have num : ∀ g, Cpl f0 g → g 1 0 = nI n := fun g hc => by
    have a := (CplW hc).2.2.2.2.1
    have b := (CplW hc0).2.2.2.2.1
    rw [← a, b, n2]
  simp only [wp_X8_oneEvening, wp_X8_oneEvening_L2]
  refine ⟨fun (f : Fn) (x1 : Int32) => ∃ i : Nat, i ≤ n ∧ x1 = nI i ∧ ∀ g, Cpl f0 g → InvM g → Cpl f (eveN g i), fun _ x1 => 100 - x1.toNatClampNeg, ⟨0, by omega, rfl, fun g hc _ => hc⟩, ?_⟩
  rintro f x1 ⟨i, hin, rfl, hI⟩
  have hcN := hI g0 hc0 hi0
  obtain ⟨ki, k0, k1⟩ := eveNK hi0 i (by omega)
  have c7 : f 1 7 = nI n := by rw [(CplW hcN).2.2.2.2.1, k0, n2]
  simp only [wpb_X8_oneEvening_L2, wp_X8_oneEvening_L52]
  refine ⟨fun h => ?_, fun h r2 f3 p => ?_⟩
  · rw [c7, nI_leI (by omega) (by omega)] at h
    have e : i = n := by omega
    subst e
    rw [pV_iff]
    intro g hc hi ht
    have cN := hI g hc hi
    have e5 : f 1 5 = eveN g i 1 1 := (CplW cN).2.2.2.1
    have ixn : ix (g 1 0) = i := by rw [num g hc]; exact nI_clamp (by omega)
    unfold eve1
    rw [ixn, e5]
    exact CplUp cN 5 1 _ (by decide)
  · obtain ⟨p1, p2⟩ := p
    have step : ∀ g, Cpl f0 g → InvM g → Cpl f3 (up2 (eveN g i) 1 8 (zNx (eveN g i 1 8))) ∧ r2 = zDr (zNx (eveN g i 1 8)) := fun g hc hi => by
      have cN := hI g hc hi
      have e15 : f 1 15 = eveN g i 1 8 := (CplW cN).2.2.2.2.2.2.2.2.2.1
      rw [p1, p2, e15]
      exact ⟨CplUp cN 15 8 _ (by decide), rfl⟩
    obtain ⟨s1, s2⟩ := step g0 hc0 hi0
    have si := InvSeed ki (zNx (eveN g0 i 1 8))
    have h3 : ¬ f3 1 7 ≤ nI i := by
      rw [p1, up2_off _ _ (by decide)]; exact h
    obtain ⟨i6, fs, -⟩ := flySome s1 si h3 (by omega)
    have mm : 100 - (nI i + 1).toNatClampNeg < 100 - (nI i).toNatClampNeg := by
      rw [nI_1, nI_clamp (by omega), nI_clamp (by omega)]; omega
    have il : i + 1 ≤ n := by
      rw [c7, nI_leI (by omega) (by omega)] at h; omega
    refine ⟨fun e => (by rw [fs] at e; cases e), fun k5 e => ?_⟩
    have k5e : k5 = 5 + i := by rw [fs] at e; cases e; rfl
    subst k5e
    refine ⟨flIs e, ⟨i, i6, rfl⟩, fun r9 f10 q => ⟨⟨i + 1, il, by rw [nI_1], fun g hc hi => ?_⟩, mm⟩⟩
    obtain ⟨t1, t2⟩ := step g hc hi
    obtain ⟨ni, nn0, nn1⟩ := eveNK hi i (by omega)
    have sg := InvSeed ni (zNx (eveN g i 1 8))
    obtain ⟨-, -, q3⟩ := flySome t1 sg h3 (by omega)
    have e5 : f3 1 5 = eveN g i 1 1 := by
      have := (CplW t1).2.2.2.1
      rw [this, up2_off _ _ (by decide)]
    have et : f3 1 5 + (r2 - r2 / 12 * 12) = eveN g i 1 1 + remI (zDr (zNx (eveN g i 1 8))) 12 := by rw [e5, t2]; rfl
    rw [et] at q
    exact (goC t1 sg q3 i6 q).2
theorem vc_X8_swing : vcS_X8_swing := by
  intro f a1 a2 a3 hp
  obtain ⟨g0, hc0, hi0⟩ := hp
  have bad : (∀ g, Cpl f g → InvM g → RE_swing g a1 a2 a3 = er g 1) → wp_X8_swing_L25 f (pI (Post_X8_swing f a1 a2 a3)) := fun h => by
    simp only [wp_X8_swing_L25, pI_iff]
    intro r f4 p g hc hi
    rw [h g hc hi]
    exact err1 hc p
  simp only [wp_X8_swing]
  refine ⟨fun e => bad fun g hc hi => ?_, fun k1 e => ⟨swIs e, ?_⟩⟩
  · unfold RE_swing; rw [if_neg (fun q => swingN e q.1.1)]
  obtain ⟨c1, ck⟩ := swingS e
  obtain ⟨s, s2, sa, sk⟩ : ∃ s : Nat, s < 2 ∧ a1 = nI s ∧ k1 = 2 + s := by
    rcases ck with ⟨x, y⟩ | ⟨x, y⟩
    · exact ⟨0, by omega, x, y⟩
    · exact ⟨1, by omega, x, y⟩
  subst sa sk
  have ixs : ix (nI s) = s := nI_clamp (by omega)
  have sl : ∀ g, Cpl f g → ∀ j, j < 3 → f (2 + s) j = g 1 (12 + 3 * s + j) := fun g hc j hj => by
    obtain ⟨⟨p, q, -⟩, -⟩ := hc
    match s, s2 with
    | 0, _ => exact p j hj
    | 1, _ => exact q j hj
  have sO : ∀ g, InvM g → swOK (g 1) s := fun g hi => by
    match s, s2 with
    | 0, _ => exact (dF1 hi.1).1
    | 1, _ => exact (dF1 hi.1).2.1
  have tk : (Val_X4_takes (2 + s) f a2 a3 = 0) = ¬ ((a2 = 0 ∧ inP a3 4 40) ∨ (a2 = 1 ∧ inP a3 1 60) ∨ (a2 = 2 ∧ inP a3 0 (f (2 + s) 0 - 1))) := by
    unfold Val_X4_takes wthI
    by_cases z0 : a2 = 0
    · rw [if_pos z0, if10]; subst z0; simp
    · rw [if_neg z0]
      by_cases z1 : a2 = 1
      · rw [if_pos z1, if10]; subst z1; simp
      · rw [if_neg z1]
        by_cases z2 : a2 = 2
        · rw [if_pos z2, if10]; subst z2; simp
        · rw [if_neg z2]; simp [z0, z1, z2]
  have cE : ∀ g, Cpl f g → (((inP (nI s) 0 1 ∧ inP a2 0 2) ∧ ((a2 = 0 ∧ inP a3 4 40) ∨ (a2 = 1 ∧ inP a3 1 60) ∨ (a2 = 2 ∧ inP a3 0 (g 1 (12 + 3 * ix (nI s)) - 1)))) ↔ ((a2 = 0 ∧ inP a3 4 40) ∨ (a2 = 1 ∧ inP a3 1 60) ∨ (a2 = 2 ∧ inP a3 0 (f (2 + s) 0 - 1)))) := fun g hc => by
    rw [ixs, show g 1 (12 + 3 * s) = f (2 + s) 0 from (sl g hc 0 (by decide)).symm]
    refine ⟨fun h => h.2, fun h => ⟨⟨c1, ?_⟩, h⟩⟩
    rcases h with h | h | h <;> rw [h.1] <;> exact ⟨by decide, by decide⟩
  refine ⟨fun t r8 f9 p => ?_, fun t => bad fun g hc hi => ?_⟩
  rotate_left
  · rw [tk] at t
    unfold RE_swing
    rw [if_neg (fun q => t ((cE g hc).mp q))]
  rw [tk] at t
  have t' := Classical.not_not.mp t
  rw [pI_iff]; intro g hc hi
  have l0 := sl g hc 0 (by decide)
  have l1 := sl g hc 1 (by decide)
  have l2 := sl g hc 2 (by decide)
  have sw := swF (sO g hi)
  have rem1 : ∀ x p : Int32, 0 ≤ x → x < p → 0 < p → remI x p = x := fun x p h1 h2 h3 => by
    obtain ⟨a, ha, rfl⟩ := nI_of (Int32.not_lt.mpr h1)
    obtain ⟨b, hb, rfl⟩ := nI_of (x := p) (by intro z; exact absurd (Int32.lt_trans h3 z) (by decide))
    have hb0 : 0 < b := by
      have : nI 0 < nI b := h3
      rwa [nI_ltI (by omega) (by omega)] at this
    rw [nI_ltI (by omega) (by omega)] at h2
    rw [remN (by omega) (by omega) hb0, Nat.mod_eq_of_lt h2]
  have R := show RE_swing g (nI s) a2 a3 = (g 1 (12 + 3 * s + ix a2), up2 (up2 g 1 (12 + 3 * s + ix a2) a3) 1 (12 + 3 * s + 2) (remI (up2 g 1 (12 + 3 * s + ix a2) a3 1 (12 + 3 * s + 2)) (up2 g 1 (12 + 3 * s + ix a2) a3 1 (12 + 3 * s)))) by
    unfold RE_swing; rw [if_pos ((cE g hc).mpr t'), ixs]
  unfold Post_X4_change swCh at p
  have pp : 0 < g 1 (12 + 3 * s) := by have := sw.1.1; grind
  rcases t' with ⟨z, v⟩ | ⟨z, v⟩ | ⟨z, v⟩
  · subst z
    rw [if_pos rfl] at p
    obtain ⟨pr, pf⟩ := Prod.mk.inj p
    have m4 : maxI 4 a3 = a3 := by
      unfold maxI
      have := v.1
      by_cases q : 4 < a3
      · rw [if_pos q]
      · rw [if_neg q]; grind
    rw [m4] at pf
    have i0 : ix 0 = 0 := rfl
    rw [R, i0, pr, pf, l0]
    refine ⟨rfl, ?_⟩
    have e2 : up2 g 1 (12 + 3 * s + 0) a3 1 (12 + 3 * s + 2) = f (2 + s) 2 := by rw [up2_off _ _ (by omega), l2]
    have e0 : up2 g 1 (12 + 3 * s + 0) a3 1 (12 + 3 * s) = a3 := up2_at _ _ _ _
    dsimp only
    rw [e2, e0]
    exact CplSwU (CplSwU hc s 0 a3 s2 (by decide)) s 2 _ s2 (by decide)
  · subst z
    rw [if_neg (by decide), if_pos rfl] at p
    obtain ⟨pr, pf⟩ := Prod.mk.inj p
    have i1 : ix 1 = 1 := rfl
    rw [R, i1, pr, pf, l1]
    refine ⟨rfl, ?_⟩
    have e2 : up2 g 1 (12 + 3 * s + 1) a3 1 (12 + 3 * s + 2) = g 1 (12 + 3 * s + 2) := up2_off _ _ (by omega)
    have e0 : up2 g 1 (12 + 3 * s + 1) a3 1 (12 + 3 * s) = g 1 (12 + 3 * s) := up2_off _ _ (by omega)
    have rm := rem1 (g 1 (12 + 3 * s + 2)) (g 1 (12 + 3 * s)) sw.2.2.1 sw.2.2.2 pp
    dsimp only
    have self : up2 (up2 g 1 (12 + 3 * s + 1) a3) 1 (12 + 3 * s + 2) (up2 g 1 (12 + 3 * s + 1) a3 1 (12 + 3 * s + 2)) = up2 g 1 (12 + 3 * s + 1) a3 := up2_self _ _ _
    rw [e0, e2, rm]
    rw [e2] at self
    rw [self]
    exact CplSwU hc s 1 a3 s2 (by decide)
  · subst z
    rw [if_neg (by decide), if_neg (by decide)] at p
    obtain ⟨pr, pf⟩ := Prod.mk.inj p
    have i1 : ix 2 = 2 := rfl
    rw [R, i1, pr, pf, l2]
    refine ⟨rfl, ?_⟩
    have e2 : up2 g 1 (12 + 3 * s + 2) a3 1 (12 + 3 * s + 2) = a3 := up2_at _ _ _ _
    have e0 : up2 g 1 (12 + 3 * s + 2) a3 1 (12 + 3 * s) = g 1 (12 + 3 * s) := up2_off _ _ (by omega)
    rw [l0] at v
    have vv : a3 < g 1 (12 + 3 * s + 0) := by have := v.2; grind
    have rm := rem1 a3 (g 1 (12 + 3 * s)) v.1 vv pp
    dsimp only
    have self : up2 (up2 g 1 (12 + 3 * s + 2) a3) 1 (12 + 3 * s + 2) (up2 g 1 (12 + 3 * s + 2) a3 1 (12 + 3 * s + 2)) = up2 g 1 (12 + 3 * s + 2) a3 := up2_self _ _ _
    rw [e0, e2, rm]
    rw [e2] at self
    rw [self]
    exact CplSwU hc s 2 a3 s2 (by decide)
set_option maxHeartbeats 200000 in
theorem vc_X8_bar : vcS_X8_bar := by
  unfold vcS_X8_bar
  simp only [wp_X8_bar_L24, wp_X8_bar, pI_iff, pV_iff, pL_iff, Post_X8_bar, Pre_X8_bar, tn0, tn1, tn2, tn3, tn4, tn5, tn6, tn7, tn8, tn9, tn10, tn12, tn18, tn40, tn50, tn60, tn90, tn92, tn112, tn212, tnn1, ni0, ni1, ni2, ni3, ni4, ni5, ni6, ni7, lg_cmp_lt, lg_cmp_le, lg_cmp_gt, lg_cmp_ge, lg_cmp_eq, RE_bar]
  intros
  (try rcases ‹cplPre _› with ⟨g0, hc0, hi0⟩)
  (repeat' (first | with_reducible apply And.intro | with_reducible intro _)) <;> (try first | apply pR_some | apply pR_none) <;> first | grind [→ swVsF, → swVtF, txb, pT, lawHi, lawLo, fl4, tri, fmodI, remI, absI, Val_X8_within, wthI, Val_X4_placeAt, up2_ap, vp1, vp2, vp3, vp4, vp5, vp6, vp20, vp40, vp50, vp60, tnc, tncA, tncS, tncM, eqM_rfl, up2_row, InvF, InvF0, dF2, sw0, sw1, InvT, → flyerS, → flyerN, → startV, → err1, → err2, → err3, → err4, → err5, → sheetS, → sheetN, → swingS, → swingN, → lawS, → lawN, → CplEqT, → CplTFr, → CplW, → CplSw, → orNf, → flIs, → swIs, → lawIs, → shIs, ← CplUp, ← CplFlV, → CplFl, → swVC, → givesC, → flyK]
set_option maxHeartbeats 200000 in
theorem vc_X8_set : vcS_X8_set := by
  unfold vcS_X8_set
  simp only [wp_X8_set_L104, wp_X8_set_L68, wp_X8_set_L34, wp_X8_set, pI_iff, pV_iff, pL_iff, Post_X8_set, Pre_X8_set, tn0, tn1, tn2, tn3, tn4, tn5, tn6, tn7, tn8, tn9, tn10, tn12, tn18, tn40, tn50, tn60, tn90, tn92, tn112, tn212, tnn1, ni0, ni1, ni2, ni3, ni4, ni5, ni6, ni7, lg_cmp_lt, lg_cmp_le, lg_cmp_gt, lg_cmp_ge, lg_cmp_eq, RE_set]
  intros
  (repeat' (first | with_reducible apply And.intro | with_reducible intro _)) <;> (try first | apply pR_some | apply pR_none) <;> first | grind [txb, pT, lawHi, lawLo, fl4, Val_X8_within, wthI, up2_ap, vp1, vp2, vp3, vp4, vp5, vp6, vp20, vp40, vp50, vp60, tnc, tncA, tncS, tncM, eqM_rfl, up2_row, InvF, InvF0, dF2, sw0, sw1, InvT, → flyerS, → flyerN, → startV, → err1, → err2, → err3, → err4, → err5, → sheetS, → sheetN, → swingS, → swingN, → lawS, → lawN, → CplEqT, → CplTFr, → CplW, → CplSw, → orNf, → flIs, → swIs, → lawIs, → shIs, ← CplUp, ← CplFlV, → CplFl]
theorem vc_X8_flyer : vcS_X8_flyer := by
  intro f a1 hp
  obtain ⟨g0, hc0, hi0⟩ := hp
  have W : Val_X8_isKindAndNumber f a1 = if inP a1 0 69 then 1 else 0 := rfl
  obtain ⟨n, n1, n2, n3⟩ := n6 hi0
  have f7 : f 1 7 = nI n := by rw [(CplW hc0).2.2.2.2.1, n2]
  have gn : ∀ g, Cpl f g → g 1 0 = nI n := fun g hc => by rw [← f7, (CplW hc).2.2.2.2.1]
  simp only [wp_X8_flyer, wp_X8_flyer_L70]
  refine ⟨fun w => ⟨fun h6 => ?_, fun h6 r f4 p => ?_⟩, fun w r f4 p => ?_⟩
  rotate_left
  · have c : inP a1 0 69 := Classical.byContradiction fun hn => w (by rw [W, if_neg hn])
    rw [pI_iff]; intro g hc hi
    have e6 : g 1 0 = 6 := by
      rw [gn g hc]
      have : ¬ nI n < nI 6 := by rw [← f7]; exact h6
      rw [nI_ltI (by omega) (by decide)] at this
      rw [show n = 6 by omega]; rfl
    have R : RE_flyer g a1 = er g 4 := by unfold RE_flyer; rw [if_pos c, if_pos e6]
    rw [R]; exact err4 hc p
  · rw [pI_iff]; intro g hc hi
    have R : RE_flyer g a1 = er g 1 := by unfold RE_flyer; rw [if_neg (fun c => by rw [W, if_pos c] at w; cases w)]
    rw [R]; exact err1 hc p
  have c : inP a1 0 69 := Classical.byContradiction fun hn => w (by rw [W, if_neg hn])
  have nl : n < 6 := by
    have : nI n < nI 6 := by rw [← f7]; exact h6
    rwa [nI_ltI (by omega) (by decide)] at this
  have e1 : f 1 7 + 1 - 1 = nI n := by rw [f7]; grind
  have fs : Val_X7_flyerOf (up2 f 1 7 (f 1 7 + 1)) (f 1 7 + 1 - 1) = some (5 + n) := by
    unfold Val_X7_flyerOf
    rw [e1, up2_at, f7, nI_1, if_pos ⟨Int32.not_lt.mp (nI_pos (by omega)), nI_lt (by omega) (by omega), nI_lt (b := 6) nl (by omega)⟩, nI_clamp (by omega)]
  refine ⟨fun e => (by rw [fs] at e; cases e), fun k3 e => ?_⟩
  have k3e : k3 = 5 + n := by rw [fs] at e; cases e; rfl
  subst k3e
  refine ⟨flIs e, fun f6 p => ?_⟩
  rw [pI_iff]; intro g hc hi
  have R : RE_flyer g a1 = (g 1 0, up2 (up2 (up2 (up2 (up2 g 1 0 (g 1 0 + 1)) 1 (fl4 n) (a1 / 10)) 1 (fl4 n + 1) (remI a1 10)) 1 (fl4 n + 2) 1) 1 (fl4 n + 3) 0) := by
    unfold RE_flyer
    rw [if_pos c, if_neg (fun z => by
      rw [gn g hc] at z
      have : nI n = nI 6 := z
      rw [nI_eq (by omega) (by omega)] at this
      omega), gn g hc, show ix (nI n) = n from nI_clamp (by omega)]
  rw [R]
  have c0 := CplUp hc 7 0 (g 1 0 + 1) (by decide)
  have c1 := CplFlU c0 n 0 (a1 / 10) nl (by decide)
  have c2 := CplFlU c1 n 1 (remI a1 10) nl (by decide)
  have c3 := CplFlU c2 n 2 1 nl (by decide)
  have c4 := CplFlU c3 n 3 0 nl (by decide)
  have e7 : f 1 7 = g 1 0 := (CplW hc).2.2.2.2.1
  unfold Post_X0_begin flT at p
  rw [p, e7]
  refine ⟨?_, c4⟩
  have o : ¬ (1 : Nat) = 5 + n := by omega
  rw [up2_row _ _ _ _ _ o, up2_row _ _ _ _ _ o, up2_row _ _ _ _ _ o, up2_row _ _ _ _ _ o, up2_at]
  grind
set_option maxHeartbeats 200000 in
theorem vc_X8_ofFlyer : vcS_X8_ofFlyer := by
  unfold vcS_X8_ofFlyer
  simp only [wp_X8_ofFlyer_L23, wp_X8_ofFlyer, pI_iff, pV_iff, pL_iff, Post_X8_ofFlyer, Pre_X8_ofFlyer, tn0, tn1, tn2, tn3, tn4, tn5, tn6, tn7, tn8, tn9, tn10, tn12, tn18, tn40, tn50, tn60, tn90, tn92, tn112, tn212, tnn1, ni0, ni1, ni2, ni3, ni4, ni5, ni6, ni7, lg_cmp_lt, lg_cmp_le, lg_cmp_gt, lg_cmp_ge, lg_cmp_eq, RE_ofFlyer]
  intros
  (repeat' (first | with_reducible apply And.intro | with_reducible intro _)) <;> (try first | apply pR_some | apply pR_none) <;> first | grind [txb, pT, lawHi, lawLo, fl4, maxI, lagM, remI, Val_X8_within, wthI, Val_X0_harm, Val_X0_holds, Val_X0_lag, up2_ap, vp1, vp2, vp3, vp4, vp5, vp6, vp20, vp40, vp50, vp60, tnc, tncA, tncS, tncM, eqM_rfl, up2_row, InvF, InvF0, dF2, sw0, sw1, InvT, → flyerS, → flyerN, → startV, → err1, → err2, → err3, → err4, → err5, → sheetS, → sheetN, → swingS, → swingN, → lawS, → lawN, → CplEqT, → CplTFr, → CplW, → CplSw, → orNf, → flIs, → swIs, → lawIs, → shIs, ← CplUp, ← CplFlV, → CplFl, → swVC, → givesC]
set_option maxHeartbeats 200000 in
theorem vc_X8_become : vcS_X8_become := by
  unfold vcS_X8_become
  simp only [wp_X8_become_L20, wp_X8_become, pI_iff, pV_iff, pL_iff, Post_X8_become, Pre_X8_become, tn0, tn1, tn2, tn3, tn4, tn5, tn6, tn7, tn8, tn9, tn10, tn12, tn18, tn40, tn50, tn60, tn90, tn92, tn112, tn212, tnn1, ni0, ni1, ni2, ni3, ni4, ni5, ni6, ni7, lg_cmp_lt, lg_cmp_le, lg_cmp_gt, lg_cmp_ge, lg_cmp_eq, RE_become]
  intros
  (repeat' (first | with_reducible apply And.intro | with_reducible intro _)) <;> (try first | apply pR_some | apply pR_none) <;> first | grind [txb, pT, lawHi, lawLo, fl4, remI, Val_X8_isKindAndNumber, wthI, Post_X0_take, flT, up2_ap, vp1, vp2, vp3, vp4, vp5, vp6, vp20, vp40, vp50, vp60, tnc, tncA, tncS, tncM, eqM_rfl, up2_row, InvF, InvF0, dF2, sw0, sw1, InvT, → flyerS, → flyerN, → startV, → err1, → err2, → err3, → err4, → err5, → sheetS, → sheetN, → swingS, → swingN, → lawS, → lawN, → CplEqT, → CplTFr, → CplW, → CplSw, → orNf, → flIs, → swIs, → lawIs, → shIs, ← CplUp, ← CplFlV, → CplFl, → swVC, → givesC]
theorem isOfE {k a : Int32} (hk : 0 ≤ k ∧ k ≤ 6) (ha : 0 ≤ a) : (isOfI k a = 0) = ¬ (a = 0 ∨ a = k ∨ a = abvI k) := by
  have h : k = 0 ∨ k = 1 ∨ k = 2 ∨ k = 3 ∨ k = 4 ∨ k = 5 ∨ k = 6 := by have := hk.1; have := hk.2; grind
  unfold isOfI
  rw [if10, eq_iff_iff]
  apply not_congr
  rcases h with h | h | h | h | h | h | h <;> subst h
  · rw [show kAb 0 = -1 by decide, show kAb (-1) = -1 by decide, show abvI 0 = 0 by decide]; grind
  · rw [show kAb 1 = 0 by decide, show kAb 0 = -1 by decide, show abvI 1 = 0 by decide]; grind
  · rw [show kAb 2 = 0 by decide, show kAb 0 = -1 by decide, show abvI 2 = 0 by decide]; grind
  · rw [show kAb 3 = 0 by decide, show kAb 0 = -1 by decide, show abvI 3 = 0 by decide]; grind
  · rw [show kAb 4 = 1 by decide, show kAb 1 = 0 by decide, show abvI 4 = 1 by decide]; grind
  · rw [show kAb 5 = 2 by decide, show kAb 2 = 0 by decide, show abvI 5 = 2 by decide]; grind
  · rw [show kAb 6 = 3 by decide, show kAb 3 = 0 by decide, show abvI 6 = 3 by decide]; grind
theorem vc_X8_as : vcS_X8_as := by
  intro f a1 a2 hp
  obtain ⟨g0, hc0, hi0⟩ := hp
  have W : ∀ a lo hi, Val_X8_within f a lo hi = if inP a lo hi then 1 else 0 := fun _ _ _ => rfl
  have bad : (∀ g, Cpl f g → InvM g → RE_as g a1 a2 = er g 1) → wp_X8_as_L23 f (pI (Post_X8_as f a1 a2)) := fun h => by
    simp only [wp_X8_as_L23, pI_iff]
    intro r f4 p g hc hi
    rw [h g hc hi]
    exact err1 hc p
  simp only [wp_X8_as]
  refine ⟨fun e => bad fun g hc hi => ?_, fun k1 e => ⟨fun w => ?_, fun w => bad fun g hc hi => ?_⟩⟩
  · unfold RE_as; rw [if_neg (fun q => flyerN hc hi e q.1)]
  rotate_left
  · rw [W] at w; unfold RE_as; rw [if_neg (fun q => by rw [if_pos q.2] at w; cases w)]
  have c2 : inP a2 0 6 := Classical.byContradiction fun hn => w (by rw [W, if_neg hn])
  have key : ∀ g, Cpl f g → InvM g → RE_as g a1 a2 = (if Val_X0_isOf k1 f a2 = 0 then er g 5 else (f k1 1, g)) := fun g hc hi => by
    obtain ⟨s1, s2, s3, s4⟩ := flyerS hc hi e
    have cf := CplFl hc _ s2
    rw [← s3] at cf
    have fb := fl3B hi.1 s1
    have e0 : g 1 (fl4 (ix a1)) = f k1 0 := cf.1.symm
    have e1 : g 1 (fl4 (ix a1) + 1) = f k1 1 := cf.2.1.symm
    have fb0 : 0 ≤ f k1 0 ∧ f k1 0 ≤ 6 := by rw [← e0]; exact fb.2.2.1
    unfold RE_as
    rw [if_pos ⟨s1, c2⟩, e0, e1]
    have := isOfE fb0 c2.1
    by_cases q : a2 = 0 ∨ a2 = f k1 0 ∨ a2 = abvI (f k1 0)
    · rw [if_pos q, if_neg (fun z => by
        have z2 : isOfI (f k1 0) a2 = 0 := z
        rw [this] at z2; exact z2 q)]
    · rw [if_neg q, if_pos (by show isOfI (f k1 0) a2 = 0; rw [this]; exact q)]
  refine ⟨flIs e, flyK hc0 hi0 e, fun z => ?_, fun z r f4 p => ?_⟩
  · rw [pI_iff]; intro g hc hi
    rw [key g hc hi, if_neg z]; exact ⟨rfl, hc⟩
  · rw [pI_iff]; intro g hc hi
    rw [key g hc hi, if_pos z]; exact err5 hc p
set_option maxHeartbeats 200000 in
theorem vc_X8_turn : vcS_X8_turn := by
  unfold vcS_X8_turn
  simp only [wp_X8_turn_L22, wp_X8_turn, pI_iff, pV_iff, pL_iff, Post_X8_turn, Pre_X8_turn, tn0, tn1, tn2, tn3, tn4, tn5, tn6, tn7, tn8, tn9, tn10, tn12, tn18, tn40, tn50, tn60, tn90, tn92, tn112, tn212, tnn1, ni0, ni1, ni2, ni3, ni4, ni5, ni6, ni7, lg_cmp_lt, lg_cmp_le, lg_cmp_gt, lg_cmp_ge, lg_cmp_eq, RE_turn]
  intros
  (repeat' (first | with_reducible apply And.intro | with_reducible intro _)) <;> (try first | apply pR_some | apply pR_none) <;> first | grind [txb, pT, lawHi, lawLo, fl4, Val_X8_within, wthI, up2_ap, vp1, vp2, vp3, vp4, vp5, vp6, vp20, vp40, vp50, vp60, tnc, tncA, tncS, tncM, eqM_rfl, up2_row, InvF, InvF0, dF2, sw0, sw1, InvT, → flyerS, → flyerN, → startV, → err1, → err2, → err3, → err4, → err5, → sheetS, → sheetN, → swingS, → swingN, → lawS, → lawN, → CplEqT, → CplTFr, → CplW, → CplSw, → orNf, → flIs, → swIs, → lawIs, → shIs, ← CplUp, ← CplFlV, → CplFl]
theorem shl8 (k : Nat) (hk : k < 8) (w : Int64) : ((w.toUInt64 >>> (((8 : Int32) * nI k).toInt64.toUInt64 &&& Int64.toUInt64 63)).toInt64).toInt32 &&& (255 : Int32) = byteM w k := by
  have e : ((8 : Int32) * nI k).toInt64 = lN (8 * k) := by
    rw [show (8 : Int32) * nI k = nI (8 * k) from nImul 8 k]; exact nI_l (by omega)
  unfold byteM
  rw [e]
  apply Int32.toBitVec_inj.mp
  have z : ∀ i, i < 32 → 8 ≤ i → (255#32).getLsbD i = false := by decide
  have key : ∀ s i : Nat, s ≤ 56 → i < 32 → ((BitVec.signExtend 32 (w.toBitVec >>> s)).getLsbD i && (255#32).getLsbD i) = ((BitVec.signExtend 32 (w.toBitVec.sshiftRight s)).getLsbD i && (255#32).getLsbD i) := fun s i hs hi => by
    by_cases q : i < 8
    · have e1 : (BitVec.signExtend 32 (w.toBitVec >>> s)).getLsbD i = w.toBitVec.getLsbD (s + i) := by
        rw [BitVec.getLsbD_signExtend, if_pos (by omega), BitVec.getLsbD_ushiftRight, decide_eq_true hi, Bool.true_and]
      have e2 : (BitVec.signExtend 32 (w.toBitVec.sshiftRight s)).getLsbD i = w.toBitVec.getLsbD (s + i) := by
        rw [BitVec.getLsbD_signExtend, if_pos (by omega), BitVec.getLsbD_sshiftRight, if_pos (by omega), decide_eq_true hi, Bool.true_and, decide_eq_false (by omega)]; rfl
      rw [e1, e2]
    · rw [z i hi (by omega), Bool.and_false, Bool.and_false]
  match k, hk with
  | 0, _ =>
    apply BitVec.eq_of_getLsbD_eq
    intro i hi
    simp [lN]
  | 1, _ | 2, _ | 3, _ | 4, _ | 5, _ | 6, _ | 7, _ =>
    apply BitVec.eq_of_getLsbD_eq
    intro i hi
    simp [lN]
    exact key _ i (by omega) hi
theorem vc_X8_feed : vcS_X8_feed := by
  intro f0 a1 a2 hp
  obtain ⟨g0, hc0, hi0⟩ := hp
  have W : Val_X8_within f0 a2 1 8 = if inP a2 1 8 then 1 else 0 := rfl
  obtain ⟨m, m50, hm⟩ : ∃ n : Nat, n ≤ 50 ∧ g0 1 9 = nI n := by
    obtain ⟨-, -, -, -, -, -, -, -, -, h, -⟩ := hi0.1; exact h
  have f9 : f0 1 9 = nI m := by rw [(CplW hc0).2.2.2.2.2.1, hm]
  have gm : ∀ g, Cpl f0 g → g 1 9 = nI m := fun g hc => by rw [← f9, (CplW hc).2.2.2.2.2.1]
  simp only [wp_X8_feed]
  refine ⟨fun w => ⟨fun h2 => ?_, fun h2 r f p => ?_⟩, fun w r f p => ?_⟩
  rotate_left
  · have c : inP a2 1 8 := Classical.byContradiction fun hn => w (by rw [W, if_neg hn])
    rw [pI_iff]; intro g hc hi
    have R : RE_feed g a1 a2 = er g 4 := by
      unfold RE_feed
      rw [if_pos c, if_pos]
      rw [gm g hc, ← f9]
      have := c.1; have := c.2
      have b0 : 0 ≤ f0 1 9 := by rw [f9]; exact Int32.not_lt.mp (nI_pos (by omega))
      have b5 : f0 1 9 ≤ 50 := by rw [f9]; exact nI_le (b := 50) m50 (by omega)
      generalize f0 1 9 = x at h2 b0 b5
      grind
    rw [R]; exact err4 hc p
  · rw [pI_iff]; intro g hc hi
    have R : RE_feed g a1 a2 = er g 1 := by unfold RE_feed; rw [if_neg (fun c => by rw [W, if_pos c] at w; cases w)]
    rw [R]; exact err1 hc p
  have c : inP a2 1 8 := Classical.byContradiction fun hn => w (by rw [W, if_neg hn])
  obtain ⟨n, n8, rfl⟩ := nI_of2 (M := 8) (n := 8) (by decide) (by have := c.1; grind) c.2
  have mn : m + n ≤ 50 := by
    have e : (50 : Int32) - nI n = nI (50 - n) := by
      have : nI (50 - n) + nI n = 50 := by rw [nI_add, show 50 - n + n = 50 by omega]; rfl
      rw [← this]; grind
    rw [f9, e, nI_leI (by omega) (by omega)] at h2
    omega
  have R : ∀ g, Cpl f0 g → RE_feed g a1 (nI n) = (nI (m + n), fun a => if a = 1 then (fun j => if j = 9 then nI (m + n) else if 212 + m ≤ j ∧ j < 212 + m + n then byteM a1 (j - (212 + m)) else g 1 j) else g a) := fun g hc => by
    unfold RE_feed
    rw [if_pos c, gm g hc, nI_add, if_neg (by show ¬ nI 50 < nI (m + n); rw [nI_ltI (by decide) (by omega)]; omega), show ix (nI m) = m from nI_clamp (by omega), show ix (nI n) = n from nI_clamp (by omega)]
  simp only [wp_X8_feed_L39]
  refine ⟨fun (f : Fn) (x1 : Int64) (x3 x4 : Int32) => x1 = a1 ∧ x3 = nI n ∧ ∃ k : Nat, k ≤ n ∧ x4 = nI k ∧ (∀ a, ¬ a = 1 → ¬ a = 11 → f a = f0 a) ∧ (∀ j, ¬ j = 9 → f 1 j = f0 1 j) ∧ f 1 9 = nI (m + k) ∧ ∀ j, f 11 j = if m ≤ j ∧ j < m + k then byteM a1 (j - m) else f0 11 j, fun _ _ _ x4 => 100 - x4.toNatClampNeg, ⟨rfl, rfl, 0, by omega, rfl, fun _ _ _ => rfl, fun _ _ => rfl, f9, fun j => by rw [if_neg (by omega)]⟩, ?_⟩
  rintro f x1 x3 x4 ⟨rfl, rfl, k, hk, rfl, h1, h2', h3, h4⟩
  simp only [wpb_X8_feed_L39]
  rw [nI_leI (by omega) (by omega)]
  refine ⟨fun h => ?_, fun h f4 p => ?_⟩
  · have : k = n := by omega
    subst this
    rw [pI_iff]; intro g hc hi
    rw [R g hc]
    refine ⟨h3, CplByt hc hi h1 h2' (fun a ha => by dsimp only; rw [if_neg ha]) (fun j x y => ?_) ?_ (fun j hj => ?_)⟩
    · show (if j = 9 then _ else if 212 + m ≤ j ∧ j < 212 + m + k then _ else g 1 j) = g 1 j
      rw [if_neg y, if_neg (by omega)]
    · rw [h3]; rfl
    · show _ = (if 212 + j = 9 then _ else if 212 + m ≤ 212 + j ∧ 212 + j < 212 + m + k then byteM x1 (212 + j - (212 + m)) else g 1 (212 + j))
      rw [if_neg (by omega), h4]
      have b : f0 11 j = g 1 (212 + j) := by
        obtain ⟨⟨-, -, -, -, -, -, -, -, -, -, -, -, -, -, q, -⟩, -⟩ := hc
        exact q j hj
      by_cases z : m ≤ j ∧ j < m + k
      · rw [if_pos z, if_pos (by omega), show 212 + j - (212 + m) = j - m by omega]
      · rw [if_neg z, if_neg (by omega)]; exact b
  · unfold Post_X7_addByte at p
    have l5 : 0 ≤ f 1 9 ∧ f 1 9 < 50 := by
      rw [h3]; exact ⟨Int32.not_lt.mp (nI_pos (by omega)), nI_lt (b := 50) (by omega) (by omega)⟩
    rw [if_pos l5, h3, nI_clamp (by omega), nI_1, shl8 k (by omega)] at p
    subst p
    refine ⟨⟨trivial, trivial, k + 1, by omega, by rw [nI_1], fun a x y => ?_, fun j x => ?_, ?_, fun j => ?_⟩, ?_⟩
    · rw [up2_row _ _ _ _ _ x, up2_row _ _ _ _ _ y]; exact h1 a x y
    · rw [up2_off _ _ x, up2_row _ _ _ _ _ (by decide)]; exact h2' j x
    · rw [up2_at]; congr 1
    · rw [up2_row _ _ _ _ _ (by decide), up2_ap, if_pos rfl, h4]
      by_cases z : j = m + k
      · rw [if_pos z, if_pos (by omega), z, show m + k - m = k by omega]
      · rw [if_neg z]
        by_cases z2 : m ≤ j ∧ j < m + k
        · rw [if_pos z2, if_pos (by omega)]
        · rw [if_neg z2, if_neg (by omega)]
    · rw [nI_1, nI_clamp (by omega), nI_clamp (by omega)]; omega
set_option maxHeartbeats 400000 in
theorem vc_X8_text : vcS_X8_text := by
  intro f a1 hp
  obtain ⟨g0, hc0, hi0⟩ := hp
  obtain ⟨m, m50, hm⟩ : ∃ n : Nat, n ≤ 50 ∧ g0 1 9 = nI n := by
    obtain ⟨-, -, -, -, -, -, -, -, -, h, -⟩ := hi0.1; exact h
  have f9 : f 1 9 = nI m := by rw [(CplW hc0).2.2.2.2.2.1, hm]
  have gm : ∀ g, Cpl f g → g 1 9 = nI m := fun g hc => by rw [← f9, (CplW hc).2.2.2.2.2.1]
  have by' : ∀ g, Cpl f g → ∀ j, j < 50 → f 11 j = g 1 (212 + j) := fun g hc j hj => by
    obtain ⟨⟨-, -, -, -, -, -, -, -, -, -, -, -, -, -, q, -⟩, -⟩ := hc
    exact q j hj
  simp only [wp_X8_text, pI_iff]
  refine ⟨fun e r f4 p g hc hi => ?_, fun k1 e => ⟨⟨⟨m, m50, f9⟩, fun j hj => ?_⟩, fun r7 f8 p => ?_⟩⟩
  · have R : RE_text g a1 = er g 1 := by unfold RE_text; rw [if_neg (lawN e)]
    rw [R]; exact err1 hc p
  · rw [by' g0 hc0 j hj]
    obtain ⟨-, -, -, -, -, -, -, -, -, -, -, -, -, -, h⟩ := hi0.1
    exact (h j hj).1
  obtain ⟨p1, p2, p3, p4⟩ := p m m50 f9
  obtain ⟨c1, ck⟩ := lawS e
  obtain ⟨u, u2, ua, uk⟩ : ∃ u : Nat, u < 2 ∧ a1 = nI u ∧ k1 = 12 + 3 * u := by
    rcases ck with ⟨x, y⟩ | ⟨x, y⟩
    · exact ⟨0, by omega, x, y⟩
    · exact ⟨1, by omega, x, y⟩
  subst ua uk
  have ixu : ix (nI u) = u := nI_clamp (by omega)
  have ixm : ix (nI m) = m := nI_clamp (by omega)
  obtain ⟨w, hw⟩ : ∃ w, w = pT (f 11) m := ⟨_, rfl⟩
  have wb := PS_bd (f 11) 0 0 (Nat.zero_le m)
  rw [← pT_PS, ← hw] at wb
  rw [← hw] at p2 p3 p4
  have wg : ∀ g, Cpl f g → pT (fun j => g 1 (212 + j)) m = w := fun g hc => by
    rw [hw]; exact (pT_c fun j hj => by rw [by' g hc j (by omega)]).symm
  have R : ∀ g, Cpl f g → RE_text g (nI u) = if w.2.1 = false ∧ w.1 = m then (1, fun a => if a = 1 then (fun j => if j = 9 then 0 else if j = 90 + u then nI m else if 112 + 50 * u ≤ j ∧ j < 112 + 50 * u + m then g 1 (212 + (j - (112 + 50 * u))) else g 1 j) else g a) else (-10 - nI w.1, up2 g 1 9 0) := fun g hc => by
    unfold RE_text; rw [if_pos c1, gm g hc, ixm, ixu, wg g hc]
  have C8 : ∀ g, Cpl f g → Cpl (up2 f8 1 9 0) (up2 g 1 9 0) := fun g hc =>
    CplUp (CplFr hc fun a _ _ _ _ h => p1 a (by omega) (by omega)) 9 9 0 (by decide)
  refine ⟨fun h7 => ⟨lawIs e, fun f12 q g hc hi => ?_⟩, fun h7 g hc hi => ?_⟩
  rotate_left
  · have no : ¬ (w.2.1 = false ∧ w.1 = m) := fun z => by
      rw [if_pos z] at p2; rw [p2.1] at h7; exact h7 (by decide)
    rw [if_neg no] at p2
    rw [R g hc, if_neg no, p2]
    exact ⟨rfl, C8 g hc⟩
  have ok : w.2.1 = false ∧ w.1 = m := Classical.byContradiction fun z => by
    rw [if_neg z] at p2
    rw [p2] at h7
    exact nI_pos (by omega) h7
  rw [if_pos ok] at p2
  obtain ⟨-, p5, p6⟩ := p2
  rw [R g hc, if_pos ok]
  refine ⟨rfl, ?_⟩
  have len : w.2.2.length ≤ 50 := by omega
  have m0 : 0 < m := by have := wb.2.2.2 ok.1; omega
  have mn : minI (f8 42 2) 50 = nI w.2.2.length := by
    rw [p5]
    unfold minI
    rw [if_neg (by show ¬ nI 50 < nI w.2.2.length; rw [nI_ltI (by decide) (by omega)]; omega)]
  unfold Post_X1_take at q
  rw [mn, nI_clamp (by omega)] at q
  have q1 : ∀ a, ¬ a = 12 + 3 * u → ¬ a = 12 + 3 * u + 1 → f12 a = up2 f8 1 9 0 a := fun a x y => by
    rw [q]; show (if a = 12 + 3 * u then _ else if a = 12 + 3 * u + 1 then _ else up2 f8 1 9 0 a) = _
    rw [if_neg x, if_neg y]
  have f8k : ∀ a, ¬ a = 42 → ¬ a = 43 → ¬ a = 1 → up2 f8 1 9 0 a = f a := fun a x y z => by rw [up2_row _ _ _ _ _ z]; exact p1 a x y
  have q2 : f12 (12 + 3 * u) = upd (f (12 + 3 * u)) 5 (nI w.2.2.length) := by
    rw [q]; show (if 12 + 3 * u = 12 + 3 * u then upd (up2 f8 1 9 0 (12 + 3 * u)) 5 (nI w.2.2.length) else _) = _
    rw [if_pos rfl, f8k _ (by omega) (by omega) (by omega)]
  have q3 : ∀ j, f12 (12 + 3 * u + 1) j = if j < w.2.2.length then w.2.2.getD j 0 else f (12 + 3 * u + 1) j := fun j => by
    rw [q]; show (if 12 + 3 * u + 1 = 12 + 3 * u then _ else if 12 + 3 * u + 1 = 12 + 3 * u + 1 then (fun j => if j < w.2.2.length then up2 f8 1 9 0 43 j else up2 f8 1 9 0 (12 + 3 * u + 1) j) else up2 f8 1 9 0 (12 + 3 * u + 1) : Nat → Int32) j = _
    rw [if_neg (by omega), if_pos rfl]
    by_cases z : j < w.2.2.length
    · rw [if_pos z, if_pos z, up2_row _ _ _ _ _ (by decide), p6 j z]
    · rw [if_neg z, if_neg z, f8k _ (by omega) (by omega) (by omega)]
  obtain ⟨d1, hd⟩ : ∃ d1 : Nat → Int32, d1 = fun j => if j = 9 then 0 else if j = 90 + u then nI m else if 112 + 50 * u ≤ j ∧ j < 112 + 50 * u + m then g 1 (212 + (j - (112 + 50 * u))) else g 1 j := ⟨_, rfl⟩
  rw [← hd]
  have dE : ∀ j, ¬ j = 9 → ¬ j = 90 + u → ¬ (112 + 50 * u ≤ j ∧ j < 112 + 50 * u + m) → d1 j = g 1 j := fun j x y z => by
    rw [hd]; dsimp only; rw [if_neg x, if_neg y, if_neg z]
  have d9 : d1 9 = 0 := by rw [hd]; rfl
  have d90 : d1 (90 + u) = nI m := by rw [hd]; dsimp only; rw [if_neg (by omega), if_pos rfl]
  have dT : ∀ j, j < m → d1 (112 + 50 * u + j) = g 1 (212 + j) := fun j hj => by
    rw [hd]; dsimp only
    rw [if_neg (by omega), if_neg (by omega), if_pos (by omega), show 112 + 50 * u + j - (112 + 50 * u) = j by omega]
  have tx := txI hi.1
  have newL : ∀ h, (h = f (12 + 3 * u)) → LawR h (f (12 + 3 * u + 1)) (g 1) u → LawR (f12 (12 + 3 * u)) (f12 (12 + 3 * u + 1)) d1 u := fun h hh hl => by
    obtain ⟨b0, b1, b2, -⟩ := hl
    rw [hh] at b0 b1 b2
    refine ⟨by rw [q2, updN _ _ _ (by decide)]; exact b0, by rw [q2, updN _ _ _ (by decide)]; exact b1, by rw [q2, updN _ _ _ (by decide)]; exact b2, Or.inr ⟨by rw [d90]; exact nI_lt (a := 0) m0 (by omega), w.2.2, ?_, len, by rw [q2, updE], fun j hj => by rw [q3, if_pos hj]⟩⟩
    rw [d90, ixm, ← wg g hc]
    exact congrArg (fun z : PR => z.2.2) (pT_c fun j hj => (dT j hj).symm)
  have oldL : ∀ v, v < 2 → ¬ v = u → LawR (f (12 + 3 * v)) (f (12 + 3 * v + 1)) (g 1) v → LawR (f12 (12 + 3 * v)) (f12 (12 + 3 * v + 1)) d1 v := fun v hv hne hl => by
    rw [q1 _ (by omega) (by omega), q1 _ (by omega) (by omega), f8k _ (by omega) (by omega) (by omega), f8k _ (by omega) (by omega) (by omega)]
    refine LawRc hl ?_ (dE _ (by omega) (by omega) (by omega)) (fun j hj => dE _ (by omega) (by omega) (by omega))
    match v, hv with
    | 0, _ => exact tx.1
    | 1, _ => exact tx.2
  have law : ∀ v, v < 2 → LawR (f (12 + 3 * v)) (f (12 + 3 * v + 1)) (g 1) v → LawR (f12 (12 + 3 * v)) (f12 (12 + 3 * v + 1)) d1 v := fun v hv hl => by
    by_cases z : v = u
    · subst z; exact newL _ rfl hl
    · exact oldL v hv z hl
  have rr : ∀ a, ¬ a = 1 → ¬ (12 ≤ a ∧ a < 17) → ¬ a = 42 → ¬ a = 43 → f12 a = f a := fun a x y z t => by
    rw [q1 a (by omega) (by omega)]; exact f8k a z t x
  have r1 : ∀ j, ¬ j = 9 → f12 1 j = f 1 j := fun j x => by
    rw [q1 1 (by omega) (by omega), up2_off _ _ x, p1 1 (by decide) (by decide)]
  have r19 : f12 1 9 = 0 := by rw [q1 1 (by omega) (by omega), up2_at]
  have CF : Cpl (fun a => if a = 14 ∨ a = 17 ∨ a = 42 ∨ a = 43 then f a else f12 a) (fun a => if a = 1 then d1 else g a) := by
    have rw1 : ∀ a, ¬ a = 14 → ¬ a = 17 → ¬ a = 42 → ¬ a = 43 → (fun a => if a = 14 ∨ a = 17 ∨ a = 42 ∨ a = 43 then f a else f12 a : Fn) a = f12 a := fun a x y z t => if_neg (by omega)
    refine CplRow hc ?_ (fun a ha => ?_) (fun a ha => if_neg ha)
    · obtain ⟨⟨b1, b2, b3, b4, b5, b6, b7, b8, b9, b10, b11, b12, b13, b14, b15, b16, b17, b18⟩, -⟩ := hc
      show WRel _ 1 ((fun a => if a = 1 then d1 else g a : Fn) 1)
      have e1 : (fun a => if a = 1 then d1 else g a : Fn) 1 = d1 := if_pos rfl
      rw [e1]
      unfold WRel
      rw [rw1 1 (by omega) (by omega) (by omega) (by omega), rw1 (1 + 1) (by omega) (by omega) (by omega) (by omega), rw1 (1 + 2) (by omega) (by omega) (by omega) (by omega), rw1 (1 + 10) (by omega) (by omega) (by omega) (by omega), rw1 (1 + 17) (by omega) (by omega) (by omega) (by omega), rw1 (1 + 11) (by omega) (by omega) (by omega) (by omega), rw1 (1 + 12) (by omega) (by omega) (by omega) (by omega), rw1 (1 + 14) (by omega) (by omega) (by omega) (by omega), rw1 (1 + 15) (by omega) (by omega) (by omega) (by omega)]
      rw [r1 2 (by omega), r1 3 (by omega), r1 4 (by omega), r1 5 (by omega), r1 7 (by omega), r19, r1 12 (by omega), r1 13 (by omega), r1 14 (by omega), r1 15 (by omega), r1 17 (by omega), d9, dE 5 (by omega) (by omega) (by omega), dE 6 (by omega) (by omega) (by omega), dE 7 (by omega) (by omega) (by omega), dE 1 (by omega) (by omega) (by omega), dE 0 (by omega) (by omega) (by omega), dE 2 (by omega) (by omega) (by omega), dE 3 (by omega) (by omega) (by omega), dE 4 (by omega) (by omega) (by omega), dE 8 (by omega) (by omega) (by omega), dE 10 (by omega) (by omega) (by omega)]
      rw [rr (1 + 1) (by omega) (by omega) (by omega) (by omega), rr (1 + 2) (by omega) (by omega) (by omega) (by omega), rr (1 + 10) (by omega) (by omega) (by omega) (by omega), rr (1 + 17) (by omega) (by omega) (by omega) (by omega)]
      exact ⟨fun j hj => by rw [dE _ (by omega) (by omega) (by omega)]; exact b1 j hj, fun j hj => by rw [dE _ (by omega) (by omega) (by omega)]; exact b2 j hj, b3, b4, b5, b6, b7, rfl, b9, b10, b11, b12, b13, fun i j hi hj => by rw [rw1 _ (by omega) (by omega) (by omega) (by omega), rr _ (by omega) (by omega) (by omega) (by omega), dE _ (by unfold fl4; omega) (by unfold fl4; omega) (by unfold fl4; omega)]; exact b14 i j hi hj, fun j hj => by rw [dE _ (by omega) (by omega) (by omega)]; exact b15 j hj, fun j hj => by rw [dE _ (by omega) (by omega) (by omega)]; exact b16 j hj, law 0 (by omega) b17, law 1 (by omega) b18⟩
    · by_cases z : a = 42 ∨ a = 43
      · show (if _ then f a else f12 a) = f a
        rw [if_pos (by omega)]
      · show (if a = 14 ∨ a = 17 ∨ a = 42 ∨ a = 43 then f a else f12 a) = f a
        rw [if_neg (by omega)]
        exact rr a (by omega) (by omega) (by omega) (by omega)
  refine CplFr CF fun a x y z t h => ?_
  show f12 a = if a = 14 ∨ a = 17 ∨ a = 42 ∨ a = 43 then f a else f12 a
  rw [if_neg (by omega)]
set_option maxHeartbeats 200000 in
theorem vc_X8_law : vcS_X8_law := by
  unfold vcS_X8_law
  simp only [wp_X8_law, pI_iff, pV_iff, pL_iff, Post_X8_law, Pre_X8_law, tn0, tn1, tn2, tn3, tn4, tn5, tn6, tn7, tn8, tn9, tn10, tn12, tn18, tn40, tn50, tn60, tn90, tn92, tn112, tn212, tnn1, ni0, ni1, ni2, ni3, ni4, ni5, ni6, ni7, lg_cmp_lt, lg_cmp_le, lg_cmp_gt, lg_cmp_ge, lg_cmp_eq, RE_law]
  intros
  (repeat' (first | with_reducible apply And.intro | with_reducible intro _)) <;> (try first | apply pR_some | apply pR_none) <;> first | grind [txb, pT, lawHi, lawLo, fl4, rpn, rpS, joinI, remI, isPartI, heldI, rowL, minI, maxI, up2_ap, vp1, vp2, vp3, vp4, vp5, vp6, vp20, vp40, vp50, vp60, tnc, tncA, tncS, tncM, eqM_rfl, up2_row, InvF, InvF0, dF2, sw0, sw1, InvT, → flyerS, → flyerN, → startV, → err1, → err2, → err3, → err4, → err5, → sheetS, → sheetN, → swingS, → swingN, → lawS, → lawN, → CplEqT, → CplTFr, → CplW, → CplSw, → orNf, → flIs, → swIs, → lawIs, → shIs, ← CplUp, ← CplFlV, → CplFl, → swVC, → givesC]
theorem vc_X8_go : vcS_X8_go := by
  intro f a1 hp
  obtain ⟨g0, hc0, hi0⟩ := hp
  simp only [wp_X8_go, pI_iff]
  refine ⟨fun e r f4 p g hc hi => ?_, fun k1 e => ?_⟩
  · have R : RE_go g a1 = er g 1 := by unfold RE_go; rw [if_neg (flyerN hc hi e)]
    rw [R]; exact err1 hc p
  · obtain ⟨s1, s2, s3, s4⟩ := flyerS hc0 hi0 e
    refine ⟨flIs e, ⟨_, s2, s3⟩, fun r8 f9 p g hc hi => ?_⟩
    obtain ⟨s1, s2, s3, s4⟩ := flyerS hc hi e
    have R : RE_go g a1 = RE_goes g (ix a1) (g 1 1) := by unfold RE_go; rw [if_pos s1]
    have t5 : f 1 5 = g 1 1 := (CplW hc).2.2.2.1
    rw [R]
    rw [s3, t5] at p
    exact goC hc hi (by rw [nItn s1.1]; exact s1) s2 p
set_option maxHeartbeats 200000 in
theorem vc_X8_ticks : vcS_X8_ticks := by
  unfold vcS_X8_ticks
  simp only [wp_X8_ticks, pI_iff, pV_iff, pL_iff, Post_X8_ticks, Pre_X8_ticks, tn0, tn1, tn2, tn3, tn4, tn5, tn6, tn7, tn8, tn9, tn10, tn12, tn18, tn40, tn50, tn60, tn90, tn92, tn112, tn212, tnn1, ni0, ni1, ni2, ni3, ni4, ni5, ni6, ni7, lg_cmp_lt, lg_cmp_le, lg_cmp_gt, lg_cmp_ge, lg_cmp_eq, RE_ticks]
  intros
  (repeat' (first | with_reducible apply And.intro | with_reducible intro _)) <;> (try first | apply pR_some | apply pR_none) <;> first | grind [txb, pT, lawHi, lawLo, fl4, Val_X8_within, wthI, up2_ap, vp1, vp2, vp3, vp4, vp5, vp6, vp20, vp40, vp50, vp60, tnc, tncA, tncS, tncM, eqM_rfl, up2_row, InvF, InvF0, dF2, sw0, sw1, InvT, → flyerS, → flyerN, → startV, → err1, → err2, → err3, → err4, → err5, → sheetS, → sheetN, → swingS, → swingN, → lawS, → lawN, → CplEqT, → CplTFr, → CplW, → CplSw, → orNf, → flIs, → swIs, → lawIs, → shIs, ← CplUp, ← CplFlV, → CplFl]
theorem vc_X8_evenings : vcS_X8_evenings := by
  intro f0 a1 hp
  obtain ⟨g0, hc0, hi0⟩ := hp
  have W : ∀ a lo hi, Val_X8_within f0 a lo hi = if inP a lo hi then 1 else 0 := fun _ _ _ => rfl
  obtain ⟨t, t1, t2⟩ := t9 hi0
  have f5 : f0 1 5 = nI t := by rw [(CplW hc0).2.2.2.1, t2]
  have gt : ∀ g, Cpl f0 g → g 1 1 = nI t := fun g hc => by rw [← f5, (CplW hc).2.2.2.1]
  simp only [wp_X8_evenings]
  refine ⟨fun w => ⟨fun h2 => ?_, fun h2 r f p => ?_⟩, fun w r f p => ?_⟩
  rotate_left
  · have c : inP a1 1 40 := Classical.byContradiction fun hn => w (by rw [W, if_neg hn])
    rw [pI_iff]; intro g hc hi
    have R : RE_evenings g a1 = er g 3 := by
      unfold RE_evenings
      rw [if_pos c, if_pos]
      rw [gt g hc, ← f5, show (12 : Int32) * a1 = a1 * 12 by grind]
      exact Int32.not_le.mp h2
    rw [R]; exact err3 hc p
  · rw [pI_iff]; intro g hc hi
    have R : RE_evenings g a1 = er g 1 := by
      unfold RE_evenings
      rw [if_neg (fun c => by rw [W, if_pos c] at w; cases w)]
    rw [R]; exact err1 hc p
  have c : inP a1 1 40 := Classical.byContradiction fun hn => w (by rw [W, if_neg hn])
  obtain ⟨m, m1, rfl⟩ := nI_of2 (M := 40) (n := 40) (by decide) (by have := c.1; grind) c.2
  have tm : t + 12 * m ≤ 9999 := by
    have e : f0 1 5 + nI m * 12 = nI (t + 12 * m) := by
      rw [f5]
      have : nI m * 12 = nI (12 * m) := by rw [← nImul]; show nI m * 12 = 12 * nI m; grind
      rw [this, nI_add]
    rw [e] at h2
    have : nI (t + 12 * m) ≤ nI 9999 := h2
    rw [nI_leI (by omega) (by decide)] at this
    exact this
  have R : ∀ g, Cpl f0 g → RE_evenings g (nI m) = (eveK g m 1 2, eveK g m) := fun g hc => by
    unfold RE_evenings
    rw [if_pos c, if_neg, show ix (nI m) = m from nI_clamp (by omega)]
    rw [gt g hc, ← f5, show (12 : Int32) * nI m = nI m * 12 by grind]
    exact Int32.not_lt.mpr h2
  simp only [wp_X8_evenings_L42]
  refine ⟨fun (f : Fn) (x1 x2 : Int32) => x1 = nI m ∧ ∃ k : Nat, k ≤ m ∧ x2 = nI k ∧ ∀ g, Cpl f0 g → InvM g → Cpl f (eveK g k), fun _ _ x2 => 100 - x2.toNatClampNeg, ⟨rfl, 0, by omega, rfl, fun g hc _ => hc⟩, ?_⟩
  rintro f x1 x2 ⟨rfl, k, hk, rfl, hI⟩
  simp only [wpb_X8_evenings_L42]
  rw [nI_leI (by omega) (by omega)]
  refine ⟨fun h3 => ?_, fun h3 => ?_⟩
  · have : k = m := by omega
    subst this
    rw [pI_iff]; intro g hc hi
    have cK := hI g hc hi
    rw [R g hc]
    exact ⟨(CplW cK).2.2.2.2.2.2.1, cK⟩
  · have le : ∀ g, Cpl f0 g → InvM g → InvM (eveK g k) ∧ eveK g k 1 1 ≤ 9987 := fun g hc hi => by
      obtain ⟨a, b, c'⟩ := eveKK hi (gt g hc) k (by omega)
      exact ⟨a, by rw [c']; exact nI_le (b := 9987) (by omega) (by omega)⟩
    refine ⟨⟨_, hI g0 hc0 hi0, (le g0 hc0 hi0).1, (le g0 hc0 hi0).2⟩, fun f5 p => ⟨⟨trivial, k + 1, by omega, by rw [nI_1], fun g hc hi => p _ (hI g hc hi) (le g hc hi).1 (le g hc hi).2⟩, ?_⟩⟩
    rw [nI_1, nI_clamp (by omega), nI_clamp (by omega)]; omega
theorem vc_X8_rest : vcS_X8_rest := by
  intro f0 hp
  obtain ⟨g0, hc0, hi0⟩ := hp
  obtain ⟨n, n1, n2, n3⟩ := n6 hi0
  have num : ∀ g, Cpl f0 g → g 1 0 = nI n := fun g hc => by
    have a := (CplW hc).2.2.2.2.1
    have b := (CplW hc0).2.2.2.2.1
    rw [← a, b, n2]
  simp only [wp_X8_rest, wp_X8_rest_L4]
  refine ⟨fun (f : Fn) (x1 x2 : Int32) => ∃ k : Nat, k ≤ n ∧ x2 = nI k ∧ ∀ g, Cpl f0 g → InvM g → Cpl f (rstN g k).2 ∧ x1 = (rstN g k).1, fun _ _ x2 => 100 - x2.toNatClampNeg, ⟨0, by omega, rfl, fun g hc _ => ⟨hc, rfl⟩⟩, ?_⟩
  rintro f x1 x2 ⟨k, hk, rfl, hI⟩
  obtain ⟨c0, x0⟩ := hI g0 hc0 hi0
  obtain ⟨ki, k0⟩ := rstK hi0 k (by omega)
  have c7 : f 1 7 = nI n := by rw [(CplW c0).2.2.2.2.1, k0, n2]
  simp only [wpb_X8_rest_L4, wp_X8_rest_L40]
  refine ⟨fun h => ?_, fun h => ?_⟩
  · rw [c7, nI_leI (by omega) (by omega)] at h
    have e : k = n := by omega
    subst e
    rw [pI_iff]; intro g hc hi
    obtain ⟨a, b⟩ := hI g hc hi
    have ixn : ix (g 1 0) = k := by rw [num g hc]; exact nI_clamp (by omega)
    unfold RE_rest
    rw [ixn]; exact ⟨b, a⟩
  · obtain ⟨i6, fs, -⟩ := flySome c0 ki h (by omega)
    have il : k + 1 ≤ n := by
      rw [c7, nI_leI (by omega) (by omega)] at h; omega
    have mm : 100 - (nI k + 1).toNatClampNeg < 100 - (nI k).toNatClampNeg := by
      rw [nI_1, nI_clamp (by omega), nI_clamp (by omega)]; omega
    refine ⟨fun e => (by rw [fs] at e; cases e), fun k5 e => ?_⟩
    have k5e : k5 = 5 + k := by rw [fs] at e; cases e; rfl
    subst k5e
    refine ⟨flIs e, ⟨k + 1, il, by rw [nI_1], fun g hc hi => ?_⟩, mm⟩
    obtain ⟨a, b⟩ := hI g hc hi
    refine ⟨CplFlU a k 3 0 i6 (by decide), ?_⟩
    rw [b, (CplFl a k i6).2.2.2]; rfl
theorem vc_X8_then : vcS_X8_then := by
  intro f a1 a2 a3 hp
  obtain ⟨g0, hc0, hi0⟩ := hp
  have W : ∀ a lo hi, Val_X8_within f a lo hi = if inP a lo hi then 1 else 0 := fun _ _ _ => rfl
  have bad : (∀ g, Cpl f g → InvM g → RE_then g a1 a2 a3 = er g 1) → wp_X8_then_L34 f (pI (Post_X8_then f a1 a2 a3)) := fun h => by
    simp only [wp_X8_then_L34, pI_iff]
    intro r f4 p g hc hi
    rw [h g hc hi]
    exact err1 hc p
  simp only [wp_X8_then]
  refine ⟨fun e => bad fun g hc hi => ?_, fun k1 e => ⟨fun w => bad fun g hc hi => ?_, fun w2 => ⟨fun w3 => ?_, fun w => bad fun g hc hi => ?_⟩⟩⟩
  · unfold RE_then; rw [if_neg (fun q => flyerN hc hi e q.1)]
  · rw [W] at w; unfold RE_then; rw [if_neg (fun q => by rw [if_pos q.2.1] at w; cases w)]
  rotate_left
  · rw [W] at w; unfold RE_then; rw [if_neg (fun q => by rw [if_pos q.2.2] at w; cases w)]
  have c2 : inP a2 0 60 := Classical.byContradiction fun hn => w2 (by rw [W, if_neg hn])
  have c3 : inP a3 0 4 := Classical.byContradiction fun hn => w3 (by rw [W, if_neg hn])
  refine ⟨flIs e, fun f9 st r11 f12 p => ?_⟩
  obtain ⟨p1, p2, p3, p4⟩ := p
  have off := offTV p2 p3 p4
  have key : ∀ g, Cpl f g → InvM g → Cpl f12 g ∧ (RE_then g a1 a2 a3).2 = g ∧ (RE_then g a1 a2 a3).1 = (if a3 = 0 then Val_X5_off f12 0 else if a3 = 1 then r11 else if a3 = 2 then f12 37 7 else if a3 = 3 then f12 37 8 else Val_X0_harm k1 f12 (Val_J9_abs_0f7a4 f12 (f12 37 8 - f12 1 4))) := fun g hc hi => by
    obtain ⟨s1, s2, s3, s4⟩ := flyerS hc hi e
    obtain ⟨v1, v2⟩ := startV hc hi e st
    have c12 := CplTFr v1 p2
    have cf := CplFl c12 _ s2
    rw [← s3] at cf
    have t5 : f9 1 5 = g 1 1 := (CplW v1).2.2.2.1
    have t4 : f12 1 4 = g 1 7 := (CplW c12).2.2.1
    have R : RE_then g a1 a2 a3 = ((if a3 = 0 then vOff (VM (g 1) (ix a1)) (vT (VM (g 1) (ix a1)) (g 1 1 + a2)) 0 else if a3 = 1 then bI (vCt (VM (g 1) (ix a1)) (g 1 1 + a2)) else if a3 = 2 then vC (VM (g 1) (ix a1)) (vT (VM (g 1) (ix a1)) (g 1 1 + a2))
      else if a3 = 3 then vPl (VM (g 1) (ix a1)) (vT (VM (g 1) (ix a1)) (g 1 1 + a2)) else hmM (g 1) (ix a1) (absI (vPl (VM (g 1) (ix a1)) (vT (VM (g 1) (ix a1)) (g 1 1 + a2)) - g 1 7))), g) := by unfold RE_then; rw [if_pos ⟨s1, c2, c3⟩]
    have v2' : TV f9 = VM (g 1) (ix a1) := v2
    refine ⟨c12, by rw [R], ?_⟩
    rw [R, off, p1, p3, p4, v2', t5, t4]
    have hE : Val_X0_harm k1 f12 (Val_J9_abs_0f7a4 f12 (vPl (VM (g 1) (ix a1)) (vT (VM (g 1) (ix a1)) (g 1 1 + a2)) - g 1 7)) = hmM (g 1) (ix a1) (absI (vPl (VM (g 1) (ix a1)) (vT (VM (g 1) (ix a1)) (g 1 1 + a2)) - g 1 7)) := by
      unfold Val_X0_harm hmM
      rw [cf.1, cf.2.2.2]; rfl
    rw [hE]
  have fin : ∀ v : Int32, v = (if a3 = 0 then Val_X5_off f12 0 else if a3 = 1 then r11 else if a3 = 2 then f12 37 7 else if a3 = 3 then f12 37 8 else Val_X0_harm k1 f12 (Val_J9_abs_0f7a4 f12 (f12 37 8 - f12 1 4))) → pI (Post_X8_then f a1 a2 a3) (some (.int v)) f12 := fun v hv => by
    rw [pI_iff]; intro g hc hi
    obtain ⟨k1, k2, k3⟩ := key g hc hi
    rw [k2, k3]; exact ⟨hv, k1⟩
  refine ⟨fun z => fin _ (by rw [if_pos z]), fun z => ⟨fun z2 => fin _ ?_, fun z2 => fin _ ?_⟩, fun z => fin _ ?_, fun z => fin _ ?_, fun z => fin _ ?_⟩
  · rw [z, if_neg (by decide), if_pos rfl, z2]
  · rw [z, if_neg (by decide), if_pos rfl, p1]
    rw [p1] at z2
    rw [bI_1 z2]; rfl
  · rw [z, if_neg (by decide), if_neg (by decide), if_pos rfl]
  · rw [z, if_neg (by decide), if_neg (by decide), if_neg (by decide), if_pos rfl]
  · rw [if_neg z.1, if_neg z.2.1, if_neg z.2.2.1, if_neg z.2.2.2]
set_option maxHeartbeats 200000 in
theorem vc_X8_can : vcS_X8_can := by
  unfold vcS_X8_can
  simp only [wp_X8_can_L31, wp_X8_can, pI_iff, pV_iff, pL_iff, Post_X8_can, Pre_X8_can, tn0, tn1, tn2, tn3, tn4, tn5, tn6, tn7, tn8, tn9, tn10, tn12, tn18, tn40, tn50, tn60, tn90, tn92, tn112, tn212, tnn1, ni0, ni1, ni2, ni3, ni4, ni5, ni6, ni7, lg_cmp_lt, lg_cmp_le, lg_cmp_gt, lg_cmp_ge, lg_cmp_eq, RE_can]
  intros
  (repeat' (first | with_reducible apply And.intro | with_reducible intro _)) <;> (try first | apply pR_some | apply pR_none) <;> first | grind [txb, pT, lawHi, lawLo, fl4, rpn, rpS, joinI, remI, isPartI, heldI, lagM, quin, flq, quad, tri, vW, vY, vV, vP, vN, fmodI, absI, vL, vF, maxI, Val_X8_within, wthI, Post_X5_howManyCaught, rowL, minI, qd4, tr3, Post_X5_firstCaught, Val_X8_isSpan, up2_ap, vp1, vp2, vp3, vp4, vp5, vp6, vp20, vp40, vp50, vp60, tnc, tncA, tncS, tncM, eqM_rfl, up2_row, InvF, InvF0, dF2, sw0, sw1, InvT, → flyerS, → flyerN, → startV, → err1, → err2, → err3, → err4, → err5, → sheetS, → sheetN, → swingS, → swingN, → lawS, → lawN, → CplEqT, → CplTFr, → CplW, → CplSw, → orNf, → flIs, → swIs, → lawIs, → shIs, ← CplUp, ← CplFlV, → CplFl]
set_option maxHeartbeats 200000 in
theorem vc_X8_surest : vcS_X8_surest := by
  unfold vcS_X8_surest
  simp only [wp_X8_surest_L20, wp_X8_surest, pI_iff, pV_iff, pL_iff, Post_X8_surest, Pre_X8_surest, tn0, tn1, tn2, tn3, tn4, tn5, tn6, tn7, tn8, tn9, tn10, tn12, tn18, tn40, tn50, tn60, tn90, tn92, tn112, tn212, tnn1, ni0, ni1, ni2, ni3, ni4, ni5, ni6, ni7, lg_cmp_lt, lg_cmp_le, lg_cmp_gt, lg_cmp_ge, lg_cmp_eq, RE_surest]
  intros
  (repeat' (first | with_reducible apply And.intro | with_reducible intro _)) <;> (try first | apply pR_some | apply pR_none) <;> first | grind [txb, pT, lawHi, lawLo, fl4, rpn, rpS, joinI, remI, isPartI, heldI, lagM, quin, flq, quad, tri, vW, vY, vV, vP, vN, fmodI, absI, vL, vF, maxI, bI, Val_X8_isSpan, wthI, Post_X5_surestWait, rowL, minI, qd4, tr3, up2_ap, vp1, vp2, vp3, vp4, vp5, vp6, vp20, vp40, vp50, vp60, tnc, tncA, tncS, tncM, eqM_rfl, up2_row, InvF, InvF0, dF2, sw0, sw1, InvT, → flyerS, → flyerN, → startV, → err1, → err2, → err3, → err4, → err5, → sheetS, → sheetN, → swingS, → swingN, → lawS, → lawN, → CplEqT, → CplTFr, → CplW, → CplSw, → orNf, → flIs, → swIs, → lawIs, → shIs, ← CplUp, ← CplFlV, → CplFl]
theorem vc_X8_odds : vcS_X8_odds := by
  intro f a1 a2 a3 hp
  obtain ⟨g0, hc0, hi0⟩ := hp
  have W : ∀ a lo hi, Val_X8_within f a lo hi = if inP a lo hi then 1 else 0 := fun _ _ _ => rfl
  have bad : (∀ g, Cpl f g → InvM g → RE_odds g a1 a2 a3 = er g 1) → wp_X8_odds_L34 f (pI (Post_X8_odds f a1 a2 a3)) := fun h => by
    simp only [wp_X8_odds_L34, pI_iff]
    intro r f4 p g hc hi
    rw [h g hc hi]
    exact err1 hc p
  simp only [wp_X8_odds]
  refine ⟨fun e => bad fun g hc hi => ?_, fun k1 e => ⟨fun w => bad fun g hc hi => ?_, fun w2 => ⟨fun w3 => ?_, fun w => bad fun g hc hi => ?_⟩⟩⟩
  · unfold RE_odds; rw [if_neg (fun q => flyerN hc hi e q.1)]
  · rw [W] at w; unfold RE_odds; rw [if_neg (fun q => by rw [if_pos q.2.1] at w; cases w)]
  rotate_left
  · rw [W] at w; unfold RE_odds; rw [if_neg (fun q => by rw [if_pos q.2.2] at w; cases w)]
  have c2 : inP a2 0 60 := Classical.byContradiction fun hn => w2 (by rw [W, if_neg hn])
  have c3 : inP a3 0 1 := Classical.byContradiction fun hn => w3 (by rw [W, if_neg hn])
  refine ⟨flIs e, fun f9 st r11 f12 p => ⟨⟨by decide, by decide⟩, ?_⟩⟩
  obtain ⟨p1, p2⟩ := p
  rw [pI_iff]; intro g hc hi
  obtain ⟨s1, s2, s3, s4⟩ := flyerS hc hi e
  obtain ⟨v1, v2⟩ := startV hc hi e st
  have c12 := CplTFr v1 p2
  have t5 : f9 1 5 = g 1 1 := (CplW v1).2.2.2.1
  have v2' : TV f9 = VM (g 1) (ix a1) := v2
  have R : RE_odds g a1 a2 a3 = (frcI (casI (VM (g 1) (ix a1)) (g 1 1 + a2)) 9 a3, g) := by unfold RE_odds; rw [if_pos ⟨s1, c2, c3⟩]
  rw [R, p1, v2', t5, part9]
  exact ⟨rfl, c12⟩
set_option maxHeartbeats 200000 in
theorem vc_X8_pumped : vcS_X8_pumped := by
  unfold vcS_X8_pumped
  simp only [wp_X8_pumped_L20, wp_X8_pumped, pI_iff, pV_iff, pL_iff, Post_X8_pumped, Pre_X8_pumped, tn0, tn1, tn2, tn3, tn4, tn5, tn6, tn7, tn8, tn9, tn10, tn12, tn18, tn40, tn50, tn60, tn90, tn92, tn112, tn212, tnn1, ni0, ni1, ni2, ni3, ni4, ni5, ni6, ni7, lg_cmp_lt, lg_cmp_le, lg_cmp_gt, lg_cmp_ge, lg_cmp_eq, RE_pumped]
  intros
  (try rcases ‹cplPre _› with ⟨g0, hc0, hi0⟩)
  (repeat' (first | with_reducible apply And.intro | with_reducible intro _)) <;> (try first | apply pR_some | apply pR_none) <;> first | grind [→ startPpF, txb, pT, lawHi, lawLo, fl4, rpn, rpS, joinI, remI, isPartI, heldI, lagM, quin, flq, quad, tri, vN, minI, vL, vW, vY, vF, vV, vP, fmodI, absI, maxI, Val_X8_isSpan, wthI, Post_X5_leastPumps, rowL, qd4, tr3, up2_ap, vp1, vp2, vp3, vp4, vp5, vp6, vp20, vp40, vp50, vp60, tnc, tncA, tncS, tncM, eqM_rfl, up2_row, InvF, InvF0, dF2, sw0, sw1, InvT, → flyerS, → flyerN, → startV, → err1, → err2, → err3, → err4, → err5, → sheetS, → sheetN, → swingS, → swingN, → lawS, → lawN, → CplEqT, → CplTFr, → CplW, → CplSw, → orNf, → flIs, → swIs, → lawIs, → shIs, ← CplUp, ← CplFlV, → CplFl, → swVC, → givesC, → flyK]
set_option maxHeartbeats 200000 in
theorem vc_X8_inStep : vcS_X8_inStep := by
  unfold vcS_X8_inStep
  simp only [wp_X8_inStep_L20, wp_X8_inStep, pI_iff, pV_iff, pL_iff, Post_X8_inStep, Pre_X8_inStep, tn0, tn1, tn2, tn3, tn4, tn5, tn6, tn7, tn8, tn9, tn10, tn12, tn18, tn40, tn50, tn60, tn90, tn92, tn112, tn212, tnn1, ni0, ni1, ni2, ni3, ni4, ni5, ni6, ni7, lg_cmp_lt, lg_cmp_le, lg_cmp_gt, lg_cmp_ge, lg_cmp_eq, RE_inStep]
  intros
  (try rcases ‹cplPre _› with ⟨g0, hc0, hi0⟩)
  (repeat' (first | with_reducible apply And.intro | with_reducible intro _)) <;> (try first | apply pR_some | apply pR_none) <;> first | grind [→ startPsF, txb, pT, lawHi, lawLo, fl4, rpn, rpS, joinI, remI, isPartI, heldI, lagM, quin, flq, quad, tri, vF, vL, vW, vY, vN, vV, vP, fmodI, absI, maxI, Val_X8_isSpan, wthI, Post_X5_leastSteps, rowL, minI, qd4, tr3, up2_ap, vp1, vp2, vp3, vp4, vp5, vp6, vp20, vp40, vp50, vp60, tnc, tncA, tncS, tncM, eqM_rfl, up2_row, InvF, InvF0, dF2, sw0, sw1, InvT, → flyerS, → flyerN, → startV, → err1, → err2, → err3, → err4, → err5, → sheetS, → sheetN, → swingS, → swingN, → lawS, → lawN, → CplEqT, → CplTFr, → CplW, → CplSw, → orNf, → flIs, → swIs, → lawIs, → shIs, ← CplUp, ← CplFlV, → CplFl, → swVC, → givesC, → flyK]
theorem vc_X8_mend : vcS_X8_mend := by
  intro f a1 a2 a3 a4 hp
  obtain ⟨g0, hc0, hi0⟩ := hp
  have W : ∀ a lo hi, Val_X8_within f a lo hi = if inP a lo hi then 1 else 0 := fun _ _ _ => rfl
  have bad : (∀ g, Cpl f g → InvM g → RE_mend g a1 a2 a3 a4 = er g 1) → wp_X8_mend_L46 f (pI (Post_X8_mend f a1 a2 a3 a4)) := fun h => by
    simp only [wp_X8_mend_L46, pI_iff]
    intro r f4 p g hc hi
    rw [h g hc hi]
    exact err1 hc p
  simp only [wp_X8_mend]
  refine ⟨fun e => bad fun g hc hi => ?_, fun k1 e => ⟨fun w => bad fun g hc hi => ?_, fun w2 => ⟨fun w => bad fun g hc hi => ?_, fun w3 => ⟨fun w4 => ?_, fun w => bad fun g hc hi => ?_⟩⟩⟩⟩
  · unfold RE_mend; rw [if_neg (fun q => flyerN hc hi e q.1)]
  · rw [W] at w; unfold RE_mend; rw [if_neg (fun q => by rw [if_pos q.2.1] at w; cases w)]
  · rw [W] at w; unfold RE_mend; rw [if_neg (fun q => by rw [if_pos q.2.2.1] at w; cases w)]
  rotate_left
  · rw [W] at w; unfold RE_mend; rw [if_neg (fun q => by rw [if_pos q.2.2.2] at w; cases w)]
  have c2 : inP a2 0 60 := Classical.byContradiction fun hn => w2 (by rw [W, if_neg hn])
  have c3 : inP a3 0 9 := Classical.byContradiction fun hn => w3 (by rw [W, if_neg hn])
  have c4 : inP a4 0 9 := Classical.byContradiction fun hn => w4 (by rw [W, if_neg hn])
  refine ⟨flIs e, fun f10 st f12 p => ?_⟩
  obtain ⟨p1, p2, p3⟩ := p
  have z : f10 1 5 + a2 + f10 37 6 + 0 = vT (TV f10) (f10 1 5 + a2) := by show _ = f10 1 5 + a2 + f10 37 6; grind
  rw [z] at p2 p3
  have off := offTV p1 p2 p3
  rw [pI_iff]; intro g hc hi
  obtain ⟨s1, s2, s3, s4⟩ := flyerS hc hi e
  obtain ⟨v1, v2⟩ := startV hc hi e st
  have c12 := CplTFr v1 p1
  have t5 : f10 1 5 = g 1 1 := (CplW v1).2.2.2.1
  have v2' : TV f10 = VM (g 1) (ix a1) := v2
  have R : RE_mend g a1 a2 a3 a4 = (mndI (vOff (VM (g 1) (ix a1)) (vT (VM (g 1) (ix a1)) (g 1 1 + a2)) 0) a3 a4, g) := by unfold RE_mend; rw [if_pos ⟨s1, c2, c3, c4⟩]
  rw [R, off, v2', t5]
  exact ⟨rfl, c12⟩
theorem vc_X8_again : vcS_X8_again := by
  intro f a1 a2 a3 a4 a5 hp
  obtain ⟨g0, hc0, hi0⟩ := hp
  have W : ∀ a lo hi, Val_X8_within f a lo hi = if inP a lo hi then 1 else 0 := fun _ _ _ => rfl
  have sV : Val_X8_isSpan f a2 = if inP a2 1 60 then 1 else 0 := rfl
  have bad : (∀ g, Cpl f g → InvM g → ¬ (isF g a1 ∧ inP a2 1 60 ∧ inP a3 0 99 ∧ inP a4 0 99 ∧ inP a5 0 1)) → wp_X8_again_L65 f (pL (Post_X8_again f a1 a2 a3 a4 a5)) := fun h => by
    simp only [wp_X8_again_L65, pL_iff]
    intro r f4 p g hc hi
    have R : RE_again g a1 a2 a3 a4 a5 = ((er g 1).1.toInt64, (er g 1).2) := by unfold RE_again; rw [if_neg (h g hc hi)]
    rw [R]
    have q := err1 hc p
    exact ⟨by rw [q.1], q.2⟩
  simp only [wp_X8_again, wp_X8_again_L52, wp_X8_again_L52_1, wp_X8_again_L53]
  have none' : Val_X7_flyerOf f a1 = none → wp_X8_again_L65 f (pL (Post_X8_again f a1 a2 a3 a4 a5)) := fun e => bad fun g hc hi q => flyerN hc hi e q.1
  have zero : ∀ k1, Val_X7_flyerOf f a1 = some k1 → (¬ (inP a2 1 60 ∧ inP a3 0 99 ∧ inP a4 0 99 ∧ inP a5 0 1)) → wp_X8_again_L53_1 f a2 a3 a4 a5 k1 0 (pL (Post_X8_again f a1 a2 a3 a4 a5)) := fun k1 e n => by
    simp only [wp_X8_again_L53_1]
    exact ⟨fun z => absurd trivial z, fun _ => bad fun g hc hi q => n q.2⟩
  refine ⟨fun e => ⟨fun _ => none' e, fun _ => ⟨fun _ => none' e, fun _ => ⟨fun _ => none' e, fun _ => ⟨fun _ => none' e, fun _ => none' e⟩⟩⟩⟩, fun k1 e => ⟨fun w => zero k1 e fun q => ?_, fun w2 => ⟨fun w => zero k1 e fun q => ?_, fun w3 => ⟨fun w => zero k1 e fun q => ?_, fun w4 => ⟨fun w => zero k1 e fun q => ?_, fun w5 => ?_⟩⟩⟩⟩⟩
  · rw [sV, if_pos q.1] at w; cases w
  · rw [W, if_pos q.2.1] at w; cases w
  · rw [W, if_pos q.2.2.1] at w; cases w
  · rw [W, if_pos q.2.2.2] at w; cases w
  have c2 : inP a2 1 60 := Classical.byContradiction fun hn => w2 (by rw [sV, if_neg hn])
  have c3 : inP a3 0 99 := Classical.byContradiction fun hn => w3 (by rw [W, if_neg hn])
  have c4 : inP a4 0 99 := Classical.byContradiction fun hn => w4 (by rw [W, if_neg hn])
  have c5 : inP a5 0 1 := Classical.byContradiction fun hn => w5 (by rw [W, if_neg hn])
  simp only [wp_X8_again_L53_1]
  refine ⟨fun _ => ⟨flIs e, fun f13 st r15 f16 p r18 f19 q => ⟨⟨by decide, by decide⟩, ?_⟩⟩, fun z => absurd z (by decide)⟩
  obtain ⟨p1, p2⟩ := p
  obtain ⟨q1, q2⟩ := q
  rw [TVT p2] at q1
  rw [pL_iff]; intro g hc hi
  obtain ⟨s1, s2, s3, s4⟩ := flyerS hc hi e
  obtain ⟨v1, v2⟩ := startV hc hi e st
  have c19 := CplTFr (CplTFr v1 p2) q2
  have t5 : f13 1 5 = g 1 1 := (CplW v1).2.2.2.1
  have v2' : TV f13 = VM (g 1) (ix a1) := v2
  have R : RE_again g a1 a2 a3 a4 a5 = ((frcI (agnI (casI (VM (g 1) (ix a1)) (g 1 1 + surI (VM (g 1) (ix a1)) (ix a2))) a3 a4) 81 a5).toInt64, g) := by unfold RE_again; rw [if_pos ⟨s1, c2, c3, c4, c5⟩]
  rw [v2'] at p1 q1
  rw [t5, p1] at q1
  have pe := part81 (f := f19) (V := VM (g 1) (ix a1)) (t := g 1 1 + surI (VM (g 1) (ix a1)) (ix a2)) (p := a5) c3 c4
  rw [R, q1]
  refine ⟨?_, c19⟩
  rw [← pe]
  rfl
theorem netL {f : Fn} {c : Int32 → Int32} (h : ∀ net, Val_X5_harmTogether f net = c net) : Val_X5_leastHarmPlace f = (lstP c 398).1 := by
  have e : Val_X5_harmTogether f = c := funext h
  rw [lhpE, e]
theorem netR0 {g : Fn} {a n w : Int32} (h : isF g a ∧ inP n 1 60 ∧ inP w 0 1) (z : falL (VM (g 1) (ix a)) (ix n) = []) : RE_net g a n w = er g 2 := by
  unfold RE_net; rw [if_pos h, if_pos z]
theorem netR1 {g : Fn} {a n w : Int32} (h : isF g a ∧ inP n 1 60 ∧ inP w 0 1) (z : ¬ falL (VM (g 1) (ix a)) (ix n) = []) (hw : ¬ w = 0) : RE_net g a n w = ((lstP (fun net => hsumI (hmM (g 1) (ix a)) net (falL (VM (g 1) (ix a)) (ix n))) 398).2, g) := by
  unfold RE_net; rw [if_pos h, if_neg z, if_neg hw]
theorem netR2 {g : Fn} {a n w : Int32} (h : isF g a ∧ inP n 1 60 ∧ inP w 0 1) (z : ¬ falL (VM (g 1) (ix a)) (ix n) = []) (hw : w = 0) : RE_net g a n w = ((lstP (fun net => hsumI (hmM (g 1) (ix a)) net (falL (VM (g 1) (ix a)) (ix n))) 398).1, g) := by
  unfold RE_net; rw [if_pos h, if_neg z, if_pos hw]
theorem lst2 (c : Int32 → Int32) : ∀ N : Nat, (lstP c N).2 = c (lstP c N).1
  | 0 => rfl
  | N + 1 => by
    rw [lst_s]
    by_cases q : c (-99 + nI (N + 1)) < (lstP c N).2
    · rw [if_pos q]
    · rw [if_neg q]; exact lst2 c N
theorem pairE {x v : Int32} {g f1 : Fn} {R : Int32 × Fn} (h : R = (x, g)) (hv : v = x) (c : Cpl f1 g) : v = R.1 ∧ Cpl f1 R.2 := by
  subst h; exact ⟨hv, c⟩
theorem netV {f : Fn} {c : Int32 → Int32} (h : ∀ net, Val_X5_harmTogether f net = c net) : Val_X5_harmTogether f (Val_X5_leastHarmPlace f) = (lstP c 398).2 := by
  rw [netL h, h]; exact (lst2 c 398).symm
theorem vc_X8_net : vcS_X8_net := by
  intro f a1 a2 a3 hp
  obtain ⟨g0, hc0, hi0⟩ := hp
  have W : ∀ a lo hi, Val_X8_within f a lo hi = if inP a lo hi then 1 else 0 := fun _ _ _ => rfl
  have sV : Val_X8_isSpan f a2 = if inP a2 1 60 then 1 else 0 := rfl
  have bad : (∀ g, Cpl f g → InvM g → RE_net g a1 a2 a3 = er g 1) → wp_X8_net_L31 f (pI (Post_X8_net f a1 a2 a3)) := fun h => by
    simp only [wp_X8_net_L31, pI_iff]
    intro r f4 p g hc hi
    rw [h g hc hi]
    exact err1 hc p
  simp only [wp_X8_net]
  refine ⟨fun e => bad fun g hc hi => ?_, fun k1 e => ⟨fun w => bad fun g hc hi => ?_, fun w2 => ⟨fun w3 => ?_, fun w => bad fun g hc hi => ?_⟩⟩⟩
  · unfold RE_net; rw [if_neg (fun q => flyerN hc hi e q.1)]
  · rw [sV] at w; unfold RE_net; rw [if_neg (fun q => by rw [if_pos q.2.1] at w; cases w)]
  rotate_left
  · rw [W] at w; unfold RE_net; rw [if_neg (fun q => by rw [if_pos q.2.2] at w; cases w)]
  have c2 : inP a2 1 60 := Classical.byContradiction fun hn => w2 (by rw [sV, if_neg hn])
  have c3 : inP a3 0 1 := Classical.byContradiction fun hn => w3 (by rw [W, if_neg hn])
  refine ⟨flIs e, fun f9 st => ⟨Int32.not_lt.mpr c2.2, fun r12 f13 p => ?_⟩⟩
  obtain ⟨p1, p2, p3, p4, p5⟩ := p
  have FN : (falL (TV f9) a2.toNatClampNeg).length ≤ 60 := by
    have := falN (TV f9) a2.toNatClampNeg
    have t := tncLe c2.2
    rw [tn60] at t
    omega
  have b17 : ¬ f13 37 5 < 0 ∧ ¬ 60 < f13 37 5 := by
    rw [p2, p1]
    refine ⟨nI_pos (by omega), ?_⟩
    show ¬ nI 60 < _
    rw [nI_ltI (by decide) (by omega)]; omega
  have rw41 : rowL (f13 41) (f13 37 5).toNatClampNeg = falL (TV f9) a2.toNatClampNeg := by
    rw [p2, p1, nI_clamp (by omega), rowL_of p3]
  have key : ∀ g, Cpl f g → InvM g → Cpl f13 g ∧ falL (TV f9) a2.toNatClampNeg = falL (VM (g 1) (ix a1)) (ix a2) ∧ (∀ net, Val_X5_harmTogether f13 net = hsumI (hmM (g 1) (ix a1)) net (falL (VM (g 1) (ix a1)) (ix a2))) ∧ (isF g a1 ∧ inP a2 1 60 ∧ inP a3 0 1) := fun g hc hi => by
    obtain ⟨s1, s2, s3, s4⟩ := flyerS hc hi e
    obtain ⟨v1, v2⟩ := startV hc hi e st
    have v2' : TV f9 = VM (g 1) (ix a1) := v2
    have eF : falL (TV f9) a2.toNatClampNeg = falL (VM (g 1) (ix a1)) (ix a2) := by rw [v2']
    have y0 : f13 40 0 = g 1 (fl4 (ix a1)) := by
      rw [p5 40 (by omega)]
      have : f9 40 0 = vY (TV f9) 0 := rfl
      rw [this, v2']; rfl
    have y3 : f13 40 3 = g 1 (fl4 (ix a1) + 3) := by
      rw [p5 40 (by omega)]
      have : f9 40 3 = vY (TV f9) 3 := rfl
      rw [this, v2']; rfl
    refine ⟨CplEqT v1 p4, eF, fun net => ?_, ?_⟩
    · unfold Val_X5_harmTogether
      rw [rw41, eF, y0, y3]; rfl
    · exact ⟨s1, c2, c3⟩
  refine ⟨fun z => ⟨b17, fun z3 => ⟨b17, ?_⟩, fun z3 => ?_⟩, fun z r19 f20 q => ?_⟩
  · rw [pI_iff]; intro g hc hi
    obtain ⟨k1, k2, k3, k4⟩ := key g hc hi
    have nF : ¬ falL (VM (g 1) (ix a1)) (ix a2) = [] := fun t => z (by rw [p1, k2, t]; rfl)
    exact pairE (netR1 k4 nF z3) (netV k3) k1
  · rw [pI_iff]; intro g hc hi
    obtain ⟨k1, k2, k3, k4⟩ := key g hc hi
    have nF : ¬ falL (VM (g 1) (ix a1)) (ix a2) = [] := fun t => z (by rw [p1, k2, t]; rfl)
    exact pairE (netR2 k4 nF z3) (netL k3) k1
  · rw [pI_iff]; intro g hc hi
    obtain ⟨k1, k2, k3, k4⟩ := key g hc hi
    have nF : falL (VM (g 1) (ix a1)) (ix a2) = [] := by
      rw [p1] at z
      have : nI (falL (TV f9) a2.toNatClampNeg).length = nI 0 := z
      rw [nI_eq (by omega) (by omega)] at this
      rw [← k2]; exact List.eq_nil_of_length_eq_zero this
    rw [netR0 k4 nF]; exact err2 k1 q
set_option maxHeartbeats 400000 in
theorem vc_X8_phases : vcS_X8_phases := by
  intro f a1 a2 a3 hp
  obtain ⟨g0, hc0, hi0⟩ := hp
  have W : ∀ a lo hi, Val_X8_within f a lo hi = if inP a lo hi then 1 else 0 := fun _ _ _ => rfl
  have bad : (∀ g, Cpl f g → InvM g → RE_phases g a1 a2 a3 = er g 1) → wp_X8_phases_L36 f (pI (Post_X8_phases f a1 a2 a3)) := fun h => by
    simp only [wp_X8_phases_L36, pI_iff]
    intro r f4 p g hc hi
    rw [h g hc hi]
    exact err1 hc p
  have noF : Val_X7_flyerOf f a1 = none → wp_X8_phases_L36 f (pI (Post_X8_phases f a1 a2 a3)) := fun e => bad fun g hc hi => by unfold RE_phases; rw [if_neg (fun q => flyerN hc hi e q.1)]
  simp only [wp_X8_phases]
  refine ⟨fun e => ⟨fun _ => noF e, fun _ _ => noF e⟩, fun k1 e => ⟨fun e2 => bad fun g hc hi => ?_, fun k8 e2 => ⟨fun w3 => ⟨shIs e2, fun m => ?_, fun m r f4 p => ?_⟩, fun w => bad fun g hc hi => ?_⟩⟩⟩
  · unfold RE_phases; rw [if_neg (fun q => sheetN e2 q.2.1)]
  rotate_left
  · have c3 : inP a3 0 1 := Classical.byContradiction fun hn => w3 (by rw [W, if_neg hn])
    rw [pI_iff]; intro g hc hi
    obtain ⟨s1, s2, s3, s4⟩ := flyerS hc hi e
    obtain ⟨u1, u2, u3, u4, u5, u6⟩ := shC hc e2
    have m2 : f k8 1 = 0 := Classical.byContradiction fun hn => m (by unfold Val_X3_isMissing; rw [if_neg hn])
    have R : RE_phases g a1 a2 a3 = er g 2 := by unfold RE_phases; rw [if_pos ⟨s1, u6, c3⟩, if_pos (by rw [← u1]; exact m2)]
    rw [R]; exact err2 hc p
  · rw [W] at w; unfold RE_phases; rw [if_neg (fun q => by rw [if_pos q.2.2] at w; cases w)]
  have c3 : inP a3 0 1 := Classical.byContradiction fun hn => w3 (by rw [W, if_neg hn])
  have m2 : ¬ f k8 1 = 0 := fun hn => by
    unfold Val_X3_isMissing at m; rw [if_pos hn] at m; cases m
  refine ⟨flIs e, fun f14 st => ?_⟩
  have per : ∀ g, Cpl f g → InvM g → ∃ p : Nat, 4 ≤ p ∧ p ≤ 40 ∧ f14 39 0 = nI p ∧ g 1 15 = nI p ∧ ix (g 1 15) = p := fun g hc hi => by
    obtain ⟨v1, v2⟩ := startV hc hi e st
    obtain ⟨pp, w, xx, b1, b2, w1, w2, b5, hw0, -, -⟩ := hi.1.2.1
    have hw0 : g 1 15 = nI pp := hw0
    have e39 : f14 39 0 = vF (TV f14) 0 := rfl
    have v2' : TV f14 = VM (g 1) (ix a1) := v2
    rw [v2'] at e39
    exact ⟨pp, b1, b2, e39.trans hw0, hw0, by rw [hw0]; exact nI_clamp (by omega)⟩
  have hc14 := (startV hc0 hi0 e st).1
  have e2' : Val_X8_sheetOf f14 a2 = some k8 := e2
  have b0 := sh8 hc14 hi0 e2'
  obtain ⟨p0, p4, p40, pe0, -, -⟩ := per g0 hc0 hi0
  refine ⟨⟨Int32.not_lt.mpr b0.1, b0.2.1, 0, p0, rfl, by omega, p40, pe0⟩, fun r17 f18 q => ?_⟩
  obtain ⟨q1, q2, q3, q4, q5, q6⟩ := q
  have q1' := q1 0 p0 rfl (by omega) p40 pe0
  have dz : (fun k => decide (0 ≤ k) && phsP (TV f14) (f14 (k8 + 1)) (f14 k8 2).toNatClampNeg k) = phsP (TV f14) (f14 (k8 + 1)) (f14 k8 2).toNatClampNeg := by
    funext k; rw [decide_eq_true (Nat.zero_le k)]; rfl
  rw [dz] at q1'
  have key : ∀ g, Cpl f g → InvM g → Cpl f14 g ∧ Cpl f18 g ∧ isF g a1 ∧ inP a2 0 3 ∧ r17 = oI (fst (phsP (VM (g 1) (ix a1)) (shN g (ix a2)) (ix (g 8 (ix a2)))) (ix (g 1 15))) ∧ RE_phases g a1 a2 a3 = if a3 = 0 then RE_o g (fst (phsP (VM (g 1) (ix a1)) (shN g (ix a2)) (ix (g 8 (ix a2)))) (ix (g 1 15))) else if fst (phsP (VM (g 1) (ix a1)) (shN g (ix a2)) (ix (g 8 (ix a2)))) (ix (g 1 15)) = none then er g 2 else (cntI (phsP (VM (g 1) (ix a1)) (shN g (ix a2)) (ix (g 8 (ix a2)))) (ix (g 1 15)), g) := fun g hc hi => by
    obtain ⟨s1, s2, s3, s4⟩ := flyerS hc hi e
    obtain ⟨u1, u2, u3, u4, u5, u6⟩ := shC hc e2
    obtain ⟨v1, v2⟩ := startV hc hi e st
    have v2' : TV f14 = VM (g 1) (ix a1) := v2
    obtain ⟨p, x4, x40, xe, -, xi⟩ := per g hc hi
    have pp : p = p0 := by rw [pe0, nI_eq (by omega) (by omega)] at xe; exact xe.symm
    refine ⟨v1, CplEqT v1 q2, s1, u6, ?_, ?_⟩
    · rw [q1', v2', (phsC v1 hi e2').1, xi, pp]
    · unfold RE_phases; rw [if_pos ⟨s1, u6, c3⟩, if_neg (by rw [← u1]; exact m2)]
  have l86 : (∀ g, Cpl f g → InvM g → RE_phases g a1 a2 a3 = RE_o g (fst (phsP (VM (g 1) (ix a1)) (shN g (ix a2)) (ix (g 8 (ix a2)))) (ix (g 1 15)))) → wp_X8_phases_L86 f18 r17 (pI (Post_X8_phases f a1 a2 a3)) := fun h => by
    simp only [wp_X8_phases_L86, pI_iff]
    intro r21 f22 z g hc hi
    obtain ⟨-, k2, -, -, k5, -⟩ := key g hc hi
    rw [k5] at z
    rw [h g hc hi]
    exact orNf k2 z (tncB _)
  refine ⟨fun z => l86 fun g hc hi => ?_, fun z => ⟨fun z2 => ?_, fun z2 => l86 fun g hc hi => ?_⟩⟩
  · rw [(key g hc hi).2.2.2.2.2, if_pos z]
  · have f39 : f18 39 0 = nI p0 := by rw [q6 0 (by decide)]; exact pe0
    have sk := shKeep (shIs e2) q2
    refine ⟨⟨by rw [sk.1]; exact Int32.not_lt.mpr b0.1, by rw [sk.1]; exact b0.2.1, p0, p40, f39⟩, fun r26 f27 y => ?_⟩
    obtain ⟨y1, y2⟩ := y
    have y1' := y1 p0 p40 f39
    rw [pI_iff]; intro g hc hi
    obtain ⟨k1, k2, k3, k4, k5, k6⟩ := key g hc hi
    obtain ⟨p, x4, x40, xe, -, xi⟩ := per g hc hi
    have pp : p = p0 := by rw [pe0, nI_eq (by omega) (by omega)] at xe; exact xe.symm
    rw [k6, if_neg z]
    have nn : ¬ fst (phsP (VM (g 1) (ix a1)) (shN g (ix a2)) (ix (g 8 (ix a2)))) (ix (g 1 15)) = none := fun t => by
      rw [k5, t] at z2; exact absurd z2 (by decide)
    rw [if_neg nn]
    refine ⟨?_, CplEqT k2 y2⟩
    have hth : thP 39 2 f14 f18 := ⟨q2, fun r h6 h7 j hj => by
      have : r = 38 ∨ r = 39 ∨ r = 40 := by omega
      rcases this with t | t | t
      · rw [t, q4]
      · rw [t]; exact q6 j (by omega)
      · rw [t, q5], fun _ => q3⟩
    have v2' : TV f14 = VM (g 1) (ix a1) := (startV hc hi e st).2
    have eP : phsP (TV f18) (f18 (k8 + 1)) (f18 k8 2).toNatClampNeg = phsP (VM (g 1) (ix a1)) (shN g (ix a2)) (ix (g 8 (ix a2))) := by
      rw [← (phsC k1 hi e2').1, ← v2']
      funext k
      unfold phsP
      rw [sk.1, sk.2, ← TVp hth (nI k), ← TVp (thP_0 39 2 f18) (nI k)]
    rw [y1', eP, xi, pp]
  · have nn : fst (phsP (VM (g 1) (ix a1)) (shN g (ix a2)) (ix (g 8 (ix a2)))) (ix (g 1 15)) = none := by
      have k5 := (key g hc hi).2.2.2.2.1
      rw [k5, Int32.not_le] at z2
      rw [oI_lt (tncB _)] at z2
      exact z2
    rw [(key g hc hi).2.2.2.2.2, if_neg z, if_pos nn, nn]; rfl
theorem vc_X8_late : vcS_X8_late := by
  intro f a1 a2 hp
  obtain ⟨g0, hc0, hi0⟩ := hp
  have bad : (∀ g, Cpl f g → InvM g → RE_late g a1 a2 = er g 1) → wp_X8_late_L25 f (pI (Post_X8_late f a1 a2)) := fun h => by
    simp only [wp_X8_late_L25, pI_iff]
    intro r f4 p g hc hi
    rw [h g hc hi]
    exact err1 hc p
  have noF : Val_X7_flyerOf f a1 = none → wp_X8_late_L25 f (pI (Post_X8_late f a1 a2)) := fun e => bad fun g hc hi => by unfold RE_late; rw [if_neg (fun q => flyerN hc hi e q.1)]
  simp only [wp_X8_late]
  refine ⟨fun e => ⟨fun _ => noF e, fun _ _ => noF e⟩, fun k1 e => ⟨fun e2 => bad fun g hc hi => ?_, fun k8 e2 => ⟨(shIs e2), fun m => ?_, fun m r f4 p => ?_⟩⟩⟩
  · unfold RE_late; rw [if_neg (fun q => sheetN e2 q.2)]
  rotate_left
  · rw [pI_iff]; intro g hc hi
    obtain ⟨s1, s2, s3, s4⟩ := flyerS hc hi e
    obtain ⟨u1, u2, u3, u4, u5, u6⟩ := shC hc e2
    have m2 : f k8 1 = 0 := Classical.byContradiction fun hn => m (by unfold Val_X3_isMissing; rw [if_neg hn])
    have R : RE_late g a1 a2 = er g 2 := by unfold RE_late; rw [if_pos ⟨s1, u6⟩, if_pos (by rw [← u1]; exact m2)]
    rw [R]; exact err2 hc p
  have m2 : ¬ f k8 1 = 0 := fun hn => by
    unfold Val_X3_isMissing at m; rw [if_pos hn] at m; cases m
  refine ⟨flIs e, fun f13 st => ?_⟩
  have b0 := sh8 (startV hc0 hi0 e st).1 hi0 (show Val_X8_sheetOf f13 a2 = some k8 from e2)
  refine ⟨⟨Int32.not_lt.mpr b0.1, b0.2.1⟩, fun r16 f17 p r19 f20 q => ?_⟩
  obtain ⟨p1, p2⟩ := p
  rw [p1] at q
  rw [pI_iff]; intro g hc hi
  obtain ⟨s1, s2, s3, s4⟩ := flyerS hc hi e
  obtain ⟨u1, u2, u3, u4, u5, u6⟩ := shC hc e2
  obtain ⟨v1, v2⟩ := startV hc hi e st
  have v2' : TV f13 = VM (g 1) (ix a1) := v2
  have R : RE_late g a1 a2 = RE_o g (fst (lagP (VM (g 1) (ix a1)) (shN g (ix a2)) (ix (g 8 (ix a2)))) 10) := by unfold RE_late; rw [if_pos ⟨s1, u6⟩, if_neg (by rw [← u1]; exact m2)]
  rw [R]
  rw [v2', (phsC v1 hi (show Val_X8_sheetOf f13 a2 = some k8 from e2)).2] at q
  exact orNf (CplEqT v1 p2) q (by omega)
set_option maxHeartbeats 200000 in
theorem vc_X8_seed : vcS_X8_seed := by
  unfold vcS_X8_seed
  simp only [wp_X8_seed, pI_iff, pV_iff, pL_iff, Post_X8_seed, Pre_X8_seed, tn0, tn1, tn2, tn3, tn4, tn5, tn6, tn7, tn8, tn9, tn10, tn12, tn18, tn40, tn50, tn60, tn90, tn92, tn112, tn212, tnn1, ni0, ni1, ni2, ni3, ni4, ni5, ni6, ni7, lg_cmp_lt, lg_cmp_le, lg_cmp_gt, lg_cmp_ge, lg_cmp_eq, RE_seed]
  intros
  (repeat' (first | with_reducible apply And.intro | with_reducible intro _)) <;> (try first | apply pR_some | apply pR_none) <;> first | grind [txb, pT, lawHi, lawLo, fl4, up2_ap, vp1, vp2, vp3, vp4, vp5, vp6, vp20, vp40, vp50, vp60, tnc, tncA, tncS, tncM, eqM_rfl, up2_row, InvF, InvF0, dF2, sw0, sw1, InvT, → flyerS, → flyerN, → startV, → err1, → err2, → err3, → err4, → err5, → sheetS, → sheetN, → swingS, → swingN, → lawS, → lawN, → CplEqT, → CplTFr, → CplW, → CplSw, → orNf, → flIs, → swIs, → lawIs, → shIs, ← CplUp, ← CplFlV, → CplFl, → swVC, → givesC]
theorem vc_X8_voice : vcS_X8_voice := by
  intro f a1 a2 a3 hp
  obtain ⟨g0, hc0, hi0⟩ := hp
  have W : ∀ a lo hi, Val_X8_within f a lo hi = if inP a lo hi then 1 else 0 := fun _ _ _ => rfl
  have bad : (∀ g, Cpl f g → InvM g → RE_voice g a1 a2 a3 = er g 1) → wp_X8_voice_L24 f (pI (Post_X8_voice f a1 a2 a3)) := fun h => by
    simp only [wp_X8_voice_L24, pI_iff]
    intro r f4 p g hc hi
    rw [h g hc hi]
    exact err1 hc p
  simp only [wp_X8_voice]
  refine ⟨fun e => bad fun g hc hi => ?_, fun k1 e => ⟨fun w2 => ?_, fun w => bad fun g hc hi => ?_⟩⟩
  · unfold RE_voice; rw [if_neg (fun q => flyerN hc hi e q.1)]
  rotate_left
  · rw [W] at w; unfold RE_voice; rw [if_neg (fun q => by rw [if_pos q.2] at w; cases w)]
  have c2 : inP a2 0 3 := Classical.byContradiction fun hn => w2 (by rw [W, if_neg hn])
  have ao : actOK a2 := by unfold actOK; have := c2.1; have := c2.2; grind
  obtain ⟨s1, s2, s3, s4⟩ := flyerS hc0 hi0 e
  have fk := flyK hc0 hi0 e
  refine ⟨flIs e, ⟨fk, ao, by omega, by omega, by omega⟩, fun r9 f10 p => ?_⟩
  obtain ⟨p1, p2, p3, p4⟩ := p
  have len : (vo (f k1 0) a1 (f k1 1) 12 a2 (f k1 0) a3).2.length ≤ 40 := by
    have := vo_len (n := a1) (m := f k1 1) fk 12 a2 (f k1 0) a3 ao fk
    have v4 := vlb40 (a := a2) (klv2 fk)
    omega
  rw [pI_iff]; intro g hc hi
  obtain ⟨s1, s2, s3, s4⟩ := flyerS hc hi e
  have cf := CplFl hc _ s2
  rw [← s3] at cf
  have vE : voM g a1 a2 a3 = vo (f k1 0) a1 (f k1 1) 12 a2 (f k1 0) a3 := by
    unfold voM
    rw [cf.1, cf.2.1]
  have R : RE_voice g a1 a2 a3 = ((voM g a1 a2 a3).1, trcF g (voM g a1 a2 a3).2) := by unfold RE_voice; rw [if_pos ⟨s1, c2⟩]
  rw [R, vE]
  generalize vo (f k1 0) a1 (f k1 1) 12 a2 (f k1 0) a3 = w at p1 p2 p3 len
  refine ⟨p1, CplTrc hc (fun a x y z => p4 a x y z) (fun a x => ?_) ?_ ?_ ?_⟩
  · show trcF g w.2 a = g a
    unfold trcF; rw [if_neg (by omega), if_neg (by omega)]
  · show trcF g w.2 0 2 = g 0 2
    unfold trcF; rw [if_neg (by decide), if_pos rfl, updN _ _ _ (by decide)]
  · rw [p2]; show _ = trcF g w.2 0 20
    unfold trcF; rw [if_neg (by decide), if_pos rfl, updE]
  · intro j h1 h2
    have l : j < w.2.length := by
      have : nI j < nI w.2.length := by
        have z : trcF g w.2 0 20 = nI w.2.length := by unfold trcF; rw [if_neg (by decide), if_pos rfl, updE]
        rw [← z]; exact h1
      rwa [nI_ltI (by omega) (by omega)] at this
    rw [p3 j l]
    show _ = if j < w.2.length then w.2.getD j 0 else g 6 j
    rw [if_pos l]
set_option maxHeartbeats 200000 in
theorem vc_X8_trace : vcS_X8_trace := by
  unfold vcS_X8_trace
  simp only [wp_X8_trace, pI_iff, pV_iff, pL_iff, Post_X8_trace, Pre_X8_trace, tn0, tn1, tn2, tn3, tn4, tn5, tn6, tn7, tn8, tn9, tn10, tn12, tn18, tn40, tn50, tn60, tn90, tn92, tn112, tn212, tnn1, ni0, ni1, ni2, ni3, ni4, ni5, ni6, ni7, lg_cmp_lt, lg_cmp_le, lg_cmp_gt, lg_cmp_ge, lg_cmp_eq, RE_trace]
  intros
  (try rcases ‹cplPre _› with ⟨g0, hc0, hi0⟩)
  (repeat' (first | with_reducible apply And.intro | with_reducible intro _)) <;> (try first | apply pR_some | apply pR_none) <;> first | grind [→ tracF, txb, pT, lawHi, lawLo, fl4, Val_X8_within, wthI, Val_X6_bodyAt, up2_ap, vp1, vp2, vp3, vp4, vp5, vp6, vp20, vp40, vp50, vp60, tnc, tncA, tncS, tncM, eqM_rfl, up2_row, InvF, InvF0, dF2, sw0, sw1, InvT, → flyerS, → flyerN, → startV, → err1, → err2, → err3, → err4, → err5, → sheetS, → sheetN, → swingS, → swingN, → lawS, → lawN, → CplEqT, → CplTFr, → CplW, → CplSw, → orNf, → flIs, → swIs, → lawIs, → shIs, ← CplUp, ← CplFlV, → CplFl, → swVC, → givesC, → flyK]
theorem vc_X8_sheet : vcS_X8_sheet := by
  intro f a1 a2 a3 hp
  have bad : (∀ g, Cpl f g → InvM g → RE_sheet g a1 a2 a3 = er g 1) → wp_X8_sheet_L34 f (pI (Post_X8_sheet f a1 a2 a3)) := fun h => by
    simp only [wp_X8_sheet_L34, pI_iff]
    intro r f4 p g hc hi
    rw [h g hc hi]
    exact err1 hc p
  simp only [wp_X8_sheet]
  refine ⟨fun e => bad fun g hc hi => ?_, fun k1 e => ?_⟩
  · unfold RE_sheet; rw [if_neg (fun q => sheetN e q.1)]
  obtain ⟨c1, i4, ke⟩ := sheetS e
  have main : (a2 = 0 ∨ a2 = 8 ∨ a2 = 16 ∨ a2 = 32) → wp_X8_sheet_L40 f a2 a3 k1 (pI (Post_X8_sheet f a1 a2 a3)) := by
    intro cb
    have R : ∀ g, RE_sheet g a1 a2 a3 = if ¬ a2 = 0 ∧ a3 < 0 then er g 3 else if ¬ a2 = 0 ∧ 40 < a3 then er g 1 else (1, fun a => if a = 7 then upd (g 7) (ix a1) a2 else if a = 8 then upd (g 8) (ix a1) (if a2 = 0 then 0 else a3) else if a = 9 then (fun j => if 40 * ix a1 ≤ j ∧ j < 40 * ix a1 + 40 then 0 else g 9 j) else g a) := fun g => by
      unfold RE_sheet; rw [if_pos ⟨c1, cb⟩]
    have l70 : ¬ (¬ a2 = 0 ∧ a3 < 0) → ¬ (¬ a2 = 0 ∧ 40 < a3) → wp_X8_sheet_L70 f a2 a3 k1 (pI (Post_X8_sheet f a1 a2 a3)) := fun g1 g2 => by
      simp only [wp_X8_sheet_L70]
      refine ⟨shIs e, fun f10 p => ?_⟩
      rw [pI_iff]; intro g hc hi
      rw [R g, if_neg g1, if_neg g2]
      have v : (if a2 = 0 then 0 else maxI 0 (minI 40 a3)) = (if a2 = 0 then 0 else a3) := by
        by_cases z : a2 = 0
        · rw [if_pos z, if_pos z]
        · rw [if_neg z, if_neg z]
          have h0 : 0 ≤ a3 := Int32.not_lt.mp (fun q => g1 ⟨z, q⟩)
          have h4 : a3 ≤ 40 := Int32.not_lt.mp (fun q => g2 ⟨z, q⟩)
          unfold maxI minI
          grind
      unfold Post_X3_begin at p
      rw [v] at p
      have rk : f10 k1 = upd (upd (f k1) 1 a2) 2 (if a2 = 0 then 0 else a3) := by rw [p]; exact if_pos rfl
      have rk1 : f10 (k1 + 1) = fun j => if j < 40 then 0 else f (k1 + 1) j := by
        rw [p]; show (if k1 + 1 = k1 then _ else if k1 + 1 = k1 + 1 then _ else _) = _
        rw [if_neg (by omega), if_pos rfl]
      have ro : ∀ a, ¬ a = k1 → ¬ a = k1 + 1 → f10 a = f a := fun a x y => by
        rw [p]; show (if a = k1 then _ else if a = k1 + 1 then _ else f a) = f a
        rw [if_neg x, if_neg y]
      refine ⟨rfl, CplShU hc (fun a ha => ro a (by omega) (by omega)) (fun a ha => ?_) (fun i h4 => ?_)⟩
      · dsimp only; rw [if_neg (by omega), if_neg (by omega), if_neg (by omega)]
      · obtain ⟨u1, u2, u3⟩ := CplSh hc i h4
        dsimp only
        rw [if_pos (rfl : (7 : Nat) = 7), if_neg (show ¬ (8 : Nat) = 7 by decide), if_pos (rfl : (8 : Nat) = 8), if_neg (show ¬ (9 : Nat) = 7 by decide), if_neg (show ¬ (9 : Nat) = 8 by decide), if_pos (rfl : (9 : Nat) = 9)]
        by_cases q : i = a1.toNatClampNeg
        · have k : 48 + 2 * i = k1 := by omega
          have k' : 49 + 2 * i = k1 + 1 := by omega
          rw [k, k', rk, rk1, show ix a1 = i from q.symm]
          refine ⟨by rw [updN _ _ _ (by decide), updE, updE], by rw [updE, updE], fun j hj => ?_⟩
          dsimp only
          rw [if_pos hj, if_pos (by omega)]
        · rw [ro _ (by omega) (by omega), ro _ (by omega) (by omega), updN _ _ _ q, updN _ _ _ q]
          refine ⟨u1, u2, fun j hj => ?_⟩
          rw [if_neg (by show ¬ (40 * a1.toNatClampNeg ≤ 40 * i + j ∧ 40 * i + j < 40 * a1.toNatClampNeg + 40); omega)]
          exact u3 j hj
    have l54 : ¬ (¬ a2 = 0 ∧ a3 < 0) → wp_X8_sheet_L54 f a2 a3 k1 (pI (Post_X8_sheet f a1 a2 a3)) := fun g1 => by
      simp only [wp_X8_sheet_L54]
      refine ⟨fun z => l70 g1 (fun q => q.1 z), fun z => ⟨fun h => l70 g1 (fun q => Int32.not_lt.mpr h q.2), fun h r f4 p => ?_⟩⟩
      rw [pI_iff]; intro g hc hi
      rw [R g, if_neg g1, if_pos ⟨z, Int32.not_le.mp h⟩]; exact err1 hc p
    simp only [wp_X8_sheet_L40]
    refine ⟨fun z => l54 (fun q => q.1 z), fun z => ⟨fun h => l54 (fun q => Int32.not_lt.mpr h q.2), fun h r f4 p => ?_⟩⟩
    rw [pI_iff]; intro g hc hi
    rw [R g, if_pos ⟨z, Int32.not_le.mp h⟩]; exact err3 hc p
  refine ⟨fun z => main (Or.inl z), fun n1 => ⟨fun z => main (Or.inr (Or.inl z)), fun n2 => ⟨fun z => main (Or.inr (Or.inr (Or.inl z))), fun n3 => ⟨fun z => main (Or.inr (Or.inr (Or.inr z))), fun n4 => bad fun g hc hi => ?_⟩⟩⟩⟩
  unfold RE_sheet
  rw [if_neg]
  rintro ⟨-, z | z | z | z⟩
  · exact n1 z
  · exact n2 z
  · exact n3 z
  · exact n4 z
theorem vc_X8_put : vcS_X8_put := by
  intro f a1 a2 a3 hp
  obtain ⟨g0, hc0, hi0⟩ := hp
  simp only [wp_X8_put, pI_iff]
  refine ⟨fun e r f4 p g hc hi => ?_, fun k1 e => ⟨shIs e, fun m => ⟨fun w => ?_, fun w r f4 p g hc hi => ?_⟩, fun m r f4 p g hc hi => ?_⟩⟩
  · have R : RE_put g a1 a2 a3 = er g 1 := by unfold RE_put; rw [if_neg (sheetN e)]
    rw [R]; exact err1 hc p
  rotate_left
  · obtain ⟨u1, u2, u3, u4, u5, u6⟩ := shC hc e
    have m2 : ¬ g 7 (ix a1) = 0 := fun hn => by
      unfold Val_X3_isMissing at m; rw [if_pos (u1.trans hn)] at m; cases m
    have R : RE_put g a1 a2 a3 = er g 1 := by
      unfold RE_put
      rw [if_pos u6, if_neg m2, if_neg (fun c => by
        have w2 : (if inP a2 0 (f k1 2 - 1) then (1 : Int32) else 0) = 0 := w
        rw [u2, if_pos c] at w2; cases w2)]
    rw [R]; exact err1 hc p
  · obtain ⟨u1, u2, u3, u4, u5, u6⟩ := shC hc e
    have m2 : g 7 (ix a1) = 0 := Classical.byContradiction fun hn => m (by unfold Val_X3_isMissing; rw [if_neg (by rw [u1]; exact hn)])
    have R : RE_put g a1 a2 a3 = er g 2 := by unfold RE_put; rw [if_pos u6, if_pos m2]
    rw [R]; exact err2 hc p
  have b0 := sh8 hc0 hi0 e
  refine ⟨b0.2.1, fun f10 p g hc hi => ?_⟩
  obtain ⟨u1, u2, u3, u4, u5, u6⟩ := shC hc e
  have m2 : ¬ g 7 (ix a1) = 0 := fun hn => by
    unfold Val_X3_isMissing at m; rw [if_pos (u1.trans hn)] at m; cases m
  have c2 : inP a2 0 (f k1 2 - 1) := Classical.byContradiction fun hn => w (if_neg hn)
  have c2' : inP a2 0 (g 8 (ix a1) - 1) := by rw [← u2]; exact c2
  have R : RE_put g a1 a2 a3 = (1, up2 g 9 (40 * ix a1 + ix a2) (narI (g 7 (ix a1)) a3)) := by
    unfold RE_put; rw [if_pos u6, if_neg m2, if_pos c2']
  rw [R]
  have l2 : 0 ≤ a2 ∧ a2 < f k1 2 := ⟨c2.1, by have := c2.2; have := b0.1; grind⟩
  have l40 : a2.toNatClampNeg < 40 := by
    have : a2.toNatClampNeg ≤ (39 : Int32).toNatClampNeg := tncLe (by have := l2.2; have := b0.2.1; grind)
    rw [show (39 : Int32).toNatClampNeg = 39 by decide] at this
    omega
  unfold Post_X3_write at p
  rw [if_pos l2, u1] at p
  have p' : f10 = up2 f (k1 + 1) a2.toNatClampNeg (narI (g 7 (ix a1)) a3) := p
  subst p'
  refine ⟨rfl, CplShU hc (fun a ha => up2_row _ _ _ _ _ (by omega)) (fun a ha => up2_row _ _ _ _ _ (by omega)) (fun i h4 => ?_)⟩
  obtain ⟨v1, v2, v3⟩ := CplSh hc i h4
  dsimp only
  rw [up2_row g 9 _ _ 7 (by decide), up2_row g 9 _ _ 8 (by decide), up2_row _ _ _ _ (48 + 2 * i) (by omega)]
  refine ⟨v1, v2, fun j hj => ?_⟩
  rw [up2_ap, up2_ap, if_pos rfl]
  by_cases q : i = ix a1
  · rw [if_pos (by omega)]
    by_cases q2 : j = a2.toNatClampNeg
    · rw [if_pos q2, if_pos (by show 40 * i + j = 40 * ix a1 + a2.toNatClampNeg; omega)]
    · rw [if_neg q2, if_neg (by show ¬ 40 * i + j = 40 * ix a1 + a2.toNatClampNeg; omega)]
      exact v3 j hj
  · rw [if_neg (by omega), if_neg (by show ¬ 40 * i + j = 40 * ix a1 + a2.toNatClampNeg; omega)]
    exact v3 j hj
theorem hasE {f : Fn} {k : Nat} {x n m : Int32} (e : f k 2 = m) (h0 : 0 ≤ m) (h4 : m ≤ 40) : (Val_X3_hasRow k f x n = 0) = (n < 0 ∨ x < 0 ∨ m - x < n) := by
  unfold Val_X3_hasRow
  rw [e, if10, eq_iff_iff]
  grind
theorem vc_X8_move : vcS_X8_move := by
  intro f a1 a2 a3 a4 a5 hp
  obtain ⟨g0, hc0, hi0⟩ := hp
  have bad : (∀ g, Cpl f g → InvM g → RE_move g a1 a2 a3 a4 a5 = er g 1) → wp_X8_move_L24 f (pI (Post_X8_move f a1 a2 a3 a4 a5)) := fun h => by
    simp only [wp_X8_move_L24, pI_iff]
    intro r f4 p g hc hi
    rw [h g hc hi]
    exact err1 hc p
  simp only [wp_X8_move]
  have n1 : Val_X8_sheetOf f a1 = none → wp_X8_move_L24 f (pI (Post_X8_move f a1 a2 a3 a4 a5)) := fun e => bad fun g hc hi => by
    unfold RE_move; rw [if_neg (fun q => sheetN e q.1)]
  refine ⟨fun e => ⟨fun _ => n1 e, fun _ _ => n1 e⟩, fun k1 e => ⟨fun e3 => bad fun g hc hi => ?_, fun k8 e3 => ?_⟩⟩
  · unfold RE_move; rw [if_neg (fun q => sheetN e3 q.2)]
  have R0 : ∀ g, Cpl f g → RE_move g a1 a2 a3 a4 a5 = if f k1 1 = 0 ∨ f k8 1 = 0 then er g 2 else if ¬ f k1 1 = f k8 1 then er g 5 else if a5 < 0 ∨ a2 < 0 ∨ a4 < 0 ∨ f k1 2 - a2 < a5 ∨ f k8 2 - a4 < a5 then er g 1 else (a5, fun a => if a = 9 then (fun q => if 40 * ix a3 + ix a4 ≤ q ∧ q < 40 * ix a3 + ix a4 + ix a5 then g 9 (40 * ix a1 + ix a2 + (q - (40 * ix a3 + ix a4))) else g 9 q) else g a) := fun g hc => by
    obtain ⟨u1, u2, u3, u4, u5, u6⟩ := shC hc e
    obtain ⟨v1, v2, v3, v4, v5, v6⟩ := shC hc e3
    unfold RE_move
    rw [if_pos ⟨u6, v6⟩, u1, u2, v1, v2]
  have miss : ∀ k, (Val_X3_isMissing k f = 0) = ¬ f k 1 = 0 := fun k => if10
  have l46 : (f k1 1 = 0 ∨ f k8 1 = 0) → wp_X8_move_L46 f (pI (Post_X8_move f a1 a2 a3 a4 a5)) := fun h => by
    simp only [wp_X8_move_L46, pI_iff]
    intro r f4 p g hc hi
    rw [R0 g hc, if_pos h]; exact err2 hc p
  have b1 := sh8 hc0 hi0 e
  have b8 := sh8 hc0 hi0 e3
  have h1 := hasE (f := f) (k := k1) (x := a2) (n := a5) rfl b1.1 b1.2.1
  have h8 := hasE (f := f) (k := k8) (x := a4) (n := a5) rfl b8.1 b8.2.1
  rw [miss, miss, h1, h8]
  refine ⟨shIs e, fun m => l46 (Or.inl (Classical.not_not.mp m)), fun m1 => ⟨shIs e3, fun m8 => ⟨fun q => ?_, fun q r f4 p => ?_⟩, fun m8 => l46 (Or.inr (Classical.not_not.mp m8))⟩⟩
  rotate_left
  · rw [pI_iff]; intro g hc hi
    rw [R0 g hc, if_neg (by rintro (z | z); exact m1 z; exact m8 z), if_pos q]; exact err5 hc p
  have l94 : (a5 < 0 ∨ a2 < 0 ∨ a4 < 0 ∨ f k1 2 - a2 < a5 ∨ f k8 2 - a4 < a5) → wp_X8_move_L94 f (pI (Post_X8_move f a1 a2 a3 a4 a5)) := fun h => by
    simp only [wp_X8_move_L94, pI_iff]
    intro r f4 p g hc hi
    rw [R0 g hc, if_neg (by rintro (z | z); exact m1 z; exact m8 z), if_neg (fun z => z q), if_pos h]; exact err1 hc p
  refine ⟨fun z => l94 ?_, fun z1 => ⟨fun z8 => ?_, fun z => l94 ?_⟩⟩
  · rcases z with z | z | z
    · exact Or.inl z
    · exact Or.inr (Or.inl z)
    · exact Or.inr (Or.inr (Or.inr (Or.inl z)))
  rotate_left
  · rcases z with z | z | z
    · exact Or.inl z
    · exact Or.inr (Or.inr (Or.inl z))
    · exact Or.inr (Or.inr (Or.inr (Or.inr z)))
  have n5 : ¬ a5 < 0 := fun z => z1 (Or.inl z)
  have n2 : ¬ a2 < 0 := fun z => z1 (Or.inr (Or.inl z))
  have n4 : ¬ a4 < 0 := fun z => z8 (Or.inr (Or.inl z))
  have o1 : ¬ f k1 2 - a2 < a5 := fun z => z1 (Or.inr (Or.inr z))
  have o8 : ¬ f k8 2 - a4 < a5 := fun z => z8 (Or.inr (Or.inr z))
  have q5 := Int32.not_lt.mp n5
  have q2 := Int32.not_lt.mp n2
  have q4 := Int32.not_lt.mp n4
  have b11 := b1.1
  have b12 := b1.2.1
  have b81 := b8.1
  have b82 := b8.2.1
  have bd2 : a2 + a5 ≤ 40 ∧ a2 ≤ 40 ∧ a5 ≤ 40 := by
    generalize f k1 2 = m at o1 b11 b12
    grind
  have bd4 : a4 + a5 ≤ 40 ∧ a4 ≤ 40 := by
    generalize f k8 2 = m at o8 b81 b82
    grind
  have RR : ∀ g, Cpl f g → RE_move g a1 a2 a3 a4 a5 = (a5, fun a => if a = 9 then (fun q => if 40 * ix a3 + ix a4 ≤ q ∧ q < 40 * ix a3 + ix a4 + ix a5 then g 9 (40 * ix a1 + ix a2 + (q - (40 * ix a3 + ix a4))) else g 9 q) else g a) := fun g hc => by
    rw [R0 g hc, if_neg (by rintro (z | z); exact m1 z; exact m8 z), if_neg (fun z => z q), if_neg (by
      rintro (z | z | z | z | z)
      · exact n5 z
      · exact n2 z
      · exact n4 z
      · exact o1 z
      · exact o8 z)]
  obtain ⟨i2, i2h, rfl⟩ := nI_of2 (M := 40) (n := 40) (by decide) n2 bd2.2.1
  obtain ⟨i4, i4h, rfl⟩ := nI_of2 (M := 40) (n := 40) (by decide) n4 bd4.2
  obtain ⟨n, nh, rfl⟩ := nI_of2 (M := 40) (n := 40) (by decide) n5 bd2.2.2
  have s2n : i2 + n ≤ 40 := by
    have := bd2.1
    rw [nI_add] at this
    have : nI (i2 + n) ≤ nI 40 := this
    rwa [nI_leI (by omega) (by decide)] at this
  have s4n : i4 + n ≤ 40 := by
    have := bd4.1
    rw [nI_add] at this
    have : nI (i4 + n) ≤ nI 40 := this
    rwa [nI_leI (by omega) (by decide)] at this
  have c2 : (nI i2).toNatClampNeg = i2 := nI_clamp (by omega)
  have c4 : (nI i4).toNatClampNeg = i4 := nI_clamp (by omega)
  have cn : (nI n).toNatClampNeg = n := nI_clamp (by omega)
  rw [c2, c4, cn]
  refine ⟨n2, n4, n5, s2n, s4n, fun f28 p => ?_⟩
  rw [pI_iff]; intro g hc hi
  obtain ⟨u1, u2, u3, u4, u5, u6⟩ := shC hc e
  obtain ⟨v1, v2, v3, v4, v5, v6⟩ := shC hc e3
  rw [RR g hc, show ix (nI i2) = i2 from c2, show ix (nI i4) = i4 from c4, show ix (nI n) = n from cn]
  have ro : ∀ a, ¬ a = k8 + 1 → f28 a = f a := fun a x => by rw [p]; exact if_neg x
  have rk : ∀ j, f28 (k8 + 1) j = if i4 ≤ j ∧ j < i4 + n then f (k1 + 1) (i2 + (j - i4)) else f (k8 + 1) j := fun j => by
    rw [p]; show (if k8 + 1 = k8 + 1 then va_cpy (f (k1 + 1)) (f (k8 + 1)) i2 i4 n else f (k8 + 1)) j = _
    rw [if_pos rfl]; rfl
  refine ⟨rfl, CplShU hc (fun a ha => ro a (by omega)) (fun a ha => by dsimp only; rw [if_neg (by omega)]) (fun i h4 => ?_)⟩
  obtain ⟨w1, w2, w3⟩ := CplSh hc i h4
  dsimp only
  rw [if_neg (show ¬ (7 : Nat) = 9 by decide), if_neg (show ¬ (8 : Nat) = 9 by decide), if_pos (rfl : (9 : Nat) = 9), ro _ (show ¬ 48 + 2 * i = k8 + 1 by omega)]
  refine ⟨w1, w2, fun j hj => ?_⟩
  by_cases qi : i = ix a3
  · have k9 : 49 + 2 * i = k8 + 1 := by omega
    rw [k9, rk]
    by_cases qj : i4 ≤ j ∧ j < i4 + n
    · rw [if_pos qj, if_pos (by omega), u3 (i2 + (j - i4)) (by omega)]
      show g 9 (40 * ix a1 + (i2 + (j - i4))) = _
      congr 1
      omega
    · rw [if_neg qj, if_neg (by omega), ← k9]; exact w3 j hj
  · rw [ro _ (by omega), if_neg (by omega)]; exact w3 j hj
theorem readE {f g : Fn} {a : Int32} {k j : Nat} (hc : Cpl f g) (hi : InvM g) (e : Val_X8_sheetOf f a = some k) (h : ¬ f k 2 ≤ nI j) (hj : j < 40) : Val_X3_read k f (nI j) = g 9 (40 * ix a + j) := by
  have s := shC hc e
  unfold Val_X3_read
  rw [if_pos ⟨Int32.not_lt.mp (nI_pos (by omega)), Int32.not_le.mp h⟩, nI_clamp (by omega), s.2.2.1 j hj]; rfl
theorem vc_X8_turns : vcS_X8_turns := by
  intro f0 a1 hp
  obtain ⟨g0, hc0, hi0⟩ := hp
  have W : ∀ f a lo hi, Val_X8_within f a lo hi = if inP a lo hi then 1 else 0 := fun _ _ _ _ => rfl
  simp only [wp_X8_turns]
  refine ⟨fun e r f4 p => ?_, fun k1 e => ⟨shIs e, fun m => ?_, fun m r f4 p => ?_⟩⟩
  · rw [pI_iff]; intro g hc hi
    have R : RE_turns g a1 = er g 1 := by unfold RE_turns; rw [if_neg (sheetN e)]
    rw [R]; exact err1 hc p
  rotate_left
  · rw [pI_iff]; intro g hc hi
    obtain ⟨u1, u2, u3, u4, u5, u6⟩ := shC hc e
    have m2 : g 7 (ix a1) = 0 := Classical.byContradiction fun hn => m (by unfold Val_X3_isMissing; rw [if_neg (by rw [u1]; exact hn)])
    have R : RE_turns g a1 = er g 2 := by unfold RE_turns; rw [if_pos u6, if_pos m2]
    rw [R]; exact err2 hc p
  obtain ⟨-, -, -, i4, ke, c1⟩ := shC hc0 e
  have b0 := sh8 hc0 hi0 e
  obtain ⟨n, n40, hn⟩ : ∃ n : Nat, n ≤ 40 ∧ f0 k1 2 = nI n := nI_of2 (M := 40) (n := 40) (by decide) (Int32.not_lt.mpr b0.1) b0.2.1
  have R : ∀ g, Cpl f0 g → RE_turns g a1 = (nI (trnN g (ix a1) n).1, (trnN g (ix a1) n).2) := fun g hc => by
    obtain ⟨u1, u2, u3, u4, u5, u6⟩ := shC hc e
    have m2 : ¬ g 7 (ix a1) = 0 := fun z => by
      unfold Val_X3_isMissing at m; rw [if_pos (u1.trans z)] at m; cases m
    unfold RE_turns
    rw [if_pos u6, if_neg m2, ← u2, hn, show ix (nI n) = n from nI_clamp (by omega)]
  have iK : ∀ g, InvM g → ∀ k, k ≤ 6 → (trnN g (ix a1) k).1 = k → True := fun _ _ _ _ _ => trivial
  obtain ⟨fl, fl1, fl2, fl3⟩ := n6 hi0
  have num : ∀ g, Cpl f0 g → g 1 0 = nI fl := fun g hc => by
    have a := (CplW hc).2.2.2.2.1
    have b := (CplW hc0).2.2.2.2.1
    rw [← a, b, fl2]
  simp only [wp_X8_turns_L31]
  refine ⟨fun (f : Fn) (px : Nat) (x3 : Int32) => px = k1 ∧ ∃ k : Nat, k ≤ n ∧ k ≤ 6 ∧ x3 = nI k ∧ (∀ a, 11 ≤ a → f a = f0 a) ∧ f 1 = f0 1 ∧ ∀ g, Cpl f0 g → InvM g → Cpl f (trnN g (ix a1) k).2 ∧ (trnN g (ix a1) k).1 = k, fun _ _ x3 => 100 - x3.toNatClampNeg, ⟨rfl, 0, by omega, by omega, rfl, fun _ _ => rfl, rfl, fun g hc _ => ⟨hc, rfl⟩⟩, ?_⟩
  rintro f px x3 ⟨rfl, k, hk, k6, rfl, hf, hf1, hI⟩
  have ek : f px 2 = nI n := by rw [hf px (by omega)]; exact hn
  have ek1 : f (px + 1) = f0 (px + 1) := hf _ (by omega)
  have f7 : f 1 7 = nI fl := by rw [hf1, (CplW hc0).2.2.2.2.1, fl2]
  have out : (∀ g, Cpl f0 g → InvM g → trnN g (ix a1) n = trnN g (ix a1) k) → pI (Post_X8_turns f0 a1) (some (.int (nI k))) f := fun h => by
    rw [pI_iff]; intro g hc hi
    obtain ⟨c, d⟩ := hI g hc hi
    rw [R g hc, h g hc hi, d]; exact ⟨rfl, c⟩
  simp only [wpb_X8_turns_L31]
  rw [ek]
  have le : nI n ≤ nI k ↔ n ≤ k := nI_leI (by omega) (by omega)
  refine ⟨shIs e, fun h => ?_, fun h => ⟨fun e2 => out fun g hc hi => ?_, fun k10 e2 => ?_⟩⟩
  · have : n = k := by have := le.mp h; omega
    subst this
    exact out fun _ _ _ => rfl
  · refine trn_z (hI g hc hi).2 (fun q => ?_) n hk
    have l := q.1
    rw [num g hc, nI_ltI (by omega) (by omega)] at l
    unfold Val_X7_flyerOf at e2
    rw [f7, if_pos ⟨Int32.not_lt.mp (nI_pos (by omega)), nI_lt l (by omega), nI_lt (b := 6) (by omega) (by omega)⟩] at e2
    cases e2
  · have kn : k < n := Nat.lt_of_not_le (fun z => h (le.mpr z))
    have l : k < fl ∧ k < 6 ∧ k10 = 5 + k := by
      unfold Val_X7_flyerOf at e2
      by_cases z : 0 ≤ nI k ∧ nI k < f 1 7 ∧ nI k < 6
      · rw [if_pos z, nI_clamp (by omega)] at e2
        have z2 := z.2.1
        have z3 : nI k < nI 6 := z.2.2
        rw [f7, nI_ltI (by omega) (by omega)] at z2
        rw [nI_ltI (by omega) (by omega)] at z3
        cases e2
        exact ⟨z2, z3, rfl⟩
      · rw [if_neg z] at e2; cases e2
    obtain ⟨lf, l6, rfl⟩ := l
    have rd : ∀ g, Cpl f0 g → InvM g → Val_X3_read px f (nI k) = g 9 (40 * ix a1 + k) := fun g hc hi => by
      have s := shC hc e
      unfold Val_X3_read
      rw [ek, if_pos ⟨Int32.not_lt.mp (nI_pos (by omega)), nI_lt kn (by omega)⟩, nI_clamp (by omega), ek1, s.2.2.1 k (by omega)]; rfl
    have pre : Pre_X3_read px f (nI k) := by
      unfold Pre_X3_read; rw [ek]; exact nI_le (b := 40) n40 (by omega)
    refine ⟨pre, fun w => ⟨pre, flIs e2, ⟨trivial, k + 1, by omega, by omega, by rw [nI_1], fun a ha => ?_, ?_, fun g hc hi => ?_⟩, ?_⟩, fun w => out fun g hc hi => ?_⟩
    · rw [up2_row _ _ _ _ _ (by omega)]; exact hf a ha
    · rw [up2_row _ _ _ _ _ (by omega)]; exact hf1
    · obtain ⟨c, d⟩ := hI g hc hi
      have q : inP (g 9 (40 * ix a1 + k)) 1 3 := Classical.byContradiction fun hn => w (by rw [W, rd g hc hi, if_neg hn])
      rw [trn_s, if_pos ⟨d, by rw [num g hc]; exact nI_lt lf (by omega), q⟩, rd g hc hi]
      exact ⟨CplFlU c k 2 _ l6 (by decide), rfl⟩
    · rw [nI_1, nI_clamp (by omega), nI_clamp (by omega)]; omega
    · refine trn_z (hI g hc hi).2 (fun q => ?_) n hk
      rw [W, rd g hc hi, if_pos q.2] at w
      cases w
theorem vc_X8_judge : vcS_X8_judge := by
  intro f0 a1 hp
  obtain ⟨g0, hc0, hi0⟩ := hp
  simp only [wp_X8_judge]
  refine ⟨fun e r f4 p => ?_, fun k1 e => ⟨shIs e, fun m => ?_, fun m r f4 p => ?_⟩⟩
  · rw [pI_iff]; intro g hc hi
    have R : RE_judge g a1 = er g 1 := by unfold RE_judge; rw [if_neg (sheetN e)]
    rw [R]; exact err1 hc p
  rotate_left
  · rw [pI_iff]; intro g hc hi
    obtain ⟨u1, u2, u3, u4, u5, u6⟩ := shC hc e
    have m2 : g 7 (ix a1) = 0 := Classical.byContradiction fun hn => m (by unfold Val_X3_isMissing; rw [if_neg (by rw [u1]; exact hn)])
    have R : RE_judge g a1 = er g 2 := by unfold RE_judge; rw [if_pos u6, if_pos m2]
    rw [R]; exact err2 hc p
  obtain ⟨-, -, -, i4, ke, c1⟩ := shC hc0 e
  have b0 := sh8 hc0 hi0 e
  obtain ⟨n, n40, hn⟩ : ∃ n : Nat, n ≤ 40 ∧ f0 k1 2 = nI n := nI_of2 (M := 40) (n := 40) (by decide) (Int32.not_lt.mpr b0.1) b0.2.1
  obtain ⟨fl, fl1, fl2, fl3⟩ := n6 hi0
  have num : ∀ g, Cpl f0 g → g 1 0 = nI fl := fun g hc => by
    have a := (CplW hc).2.2.2.2.1
    have b := (CplW hc0).2.2.2.2.1
    rw [← a, b, fl2]
  have f7 : f0 1 7 = nI fl := by rw [(CplW hc0).2.2.2.2.1, fl2]
  have R : ∀ g, Cpl f0 g → RE_judge g a1 = (if nI (jdgN g (ix a1) n) = nI n ∧ nI (jdgN g (ix a1) n) = nI fl then -1 else nI (jdgN g (ix a1) n), g) := fun g hc => by
    obtain ⟨u1, u2, u3, u4, u5, u6⟩ := shC hc e
    have m2 : ¬ g 7 (ix a1) = 0 := fun z => by
      unfold Val_X3_isMissing at m; rw [if_pos (u1.trans z)] at m; cases m
    unfold RE_judge
    rw [if_pos u6, if_neg m2, ← u2, hn, num g hc, show ix (nI n) = n from nI_clamp (by omega)]
  simp only [wp_X8_judge_L31]
  refine ⟨fun (f : Fn) (px : Nat) (x3 : Int32) => f = f0 ∧ px = k1 ∧ ∃ k : Nat, k ≤ n ∧ k ≤ fl ∧ x3 = nI k ∧ ∀ g, Cpl f0 g → InvM g → jdgN g (ix a1) k = k, fun _ _ x3 => 100 - x3.toNatClampNeg, ⟨rfl, rfl, 0, by omega, by omega, rfl, fun g hc _ => rfl⟩, ?_⟩
  rintro f px x3 ⟨rfl, rfl, k, hk, kf, rfl, hI⟩
  have out : (∀ g, Cpl f g → InvM g → jdgN g (ix a1) n = k) → ¬ (k = n ∧ k = fl) → pI (Post_X8_judge f a1) (some (.int (nI k))) f := fun h hne => by
    rw [pI_iff]; intro g hc hi
    rw [R g hc, h g hc hi]
    refine ⟨?_, hc⟩
    dsimp only
    rw [if_neg]
    rintro ⟨z1, z2⟩
    rw [nI_eq (by omega) (by omega)] at z1 z2
    exact hne ⟨z1, z2⟩
  simp only [wpb_X8_judge_L31]
  rw [hn, f7, nI_leI (by omega) (by omega), nI_leI (by omega) (by omega)]
  refine ⟨shIs e, fun h => ?_, fun h => ⟨fun e2 => out (fun g hc hi => ?_) (by omega), fun k11 e2 => ?_⟩⟩
  · have kn : n = k := by omega
    subst kn
    refine ⟨fun z => ?_, fun z => out (fun g hc hi => hI g hc hi) (by omega)⟩
    have : n = fl := by omega
    subst this
    rw [pI_iff]; intro g hc hi
    rw [R g hc, hI g hc hi]
    refine ⟨?_, hc⟩
    dsimp only
    rw [if_pos ⟨rfl, rfl⟩]
  · refine jdg_z (hI g hc hi) (fun q => ?_) n hk
    have l := q.1
    rw [num g hc, nI_ltI (by omega) (by omega)] at l
    unfold Val_X7_flyerOf at e2
    rw [f7, if_pos ⟨Int32.not_lt.mp (nI_pos (by omega)), nI_lt l (by omega), nI_lt (b := 6) (by omega) (by omega)⟩] at e2
    cases e2
  · have kn : k < n := by omega
    have l : k < fl ∧ k < 6 ∧ k11 = 5 + k := by
      unfold Val_X7_flyerOf at e2
      by_cases z : 0 ≤ nI k ∧ nI k < f 1 7 ∧ nI k < 6
      · rw [if_pos z, nI_clamp (by omega)] at e2
        have z2 := z.2.1
        have z3 : nI k < nI 6 := z.2.2
        rw [f7, nI_ltI (by omega) (by omega)] at z2
        rw [nI_ltI (by omega) (by omega)] at z3
        cases e2
        exact ⟨z2, z3, rfl⟩
      · rw [if_neg z] at e2; cases e2
    obtain ⟨lf, l6, rfl⟩ := l
    have rd : ∀ g, Cpl f g → InvM g → Val_X3_read px f (nI k) = g 9 (40 * ix a1 + k) ∧ f (5 + k) 3 = g 1 (fl4 k + 3) := fun g hc hi => by
      have s := shC hc e
      refine ⟨?_, (CplFl hc k l6).2.2.2⟩
      unfold Val_X3_read
      rw [hn, if_pos ⟨Int32.not_lt.mp (nI_pos (by omega)), nI_lt kn (by omega)⟩, nI_clamp (by omega), s.2.2.1 k (by omega)]; rfl
    have pre : Pre_X3_read px f (nI k) := by
      unfold Pre_X3_read; rw [hn]; exact nI_le (b := 40) n40 (by omega)
    refine ⟨pre, flIs e2, fun w => ⟨⟨trivial, trivial, k + 1, by omega, by omega, by rw [nI_1], fun g hc hi => ?_⟩, ?_⟩, fun w => out (fun g hc hi => ?_) (by omega)⟩
    · obtain ⟨r1, r2⟩ := rd g hc hi
      rw [jdg_s, if_pos ⟨hI g hc hi, by rw [num g hc]; exact nI_lt lf (by omega), by rw [← r1, ← r2]; exact w⟩]
    · rw [nI_1, nI_clamp (by omega), nI_clamp (by omega)]; omega
    · refine jdg_z (hI g hc hi) (fun q => ?_) n hk
      obtain ⟨r1, r2⟩ := rd g hc hi
      exact w (by rw [r1, r2]; exact q.2)
theorem vc_X8_image : vcS_X8_image := by
  intro f hp
  simp only [wp_X8_image, pI_iff]
  intro f1 w g hc hi
  have w' : wcp f f1 19 1 := w
  have tx := txI hi.1
  have e7 : f1 0 7 = g 0 2 := by rw [w'.1 0 (by omega)]; exact (CplW hc).2.2.2.2.2.2.2.2.2.2.2.1
  obtain ⟨p1, p2, p3, p4, p5, p6, p7, p8⟩ := hc
  have e : ∀ a, ¬ (19 ≤ a ∧ a < 37) → ¬ a = 0 → up2 f1 0 7 (f1 0 7 + 1) a = f a := fun a h1 h2 => by
    rw [up2_row _ _ _ _ _ h2, w'.1 a (by omega)]
  have e2 : ∀ a, ¬ a = 0 → ¬ a = 2 → (RE_image g).2 a = g a := fun a h1 h2 => by
    show (if a = 2 then (fun j => if j < 264 then g 1 j else g 2 j) else if a = 0 then upd (g 0) 2 (g 0 2 + 1) else g a) = g a
    rw [if_neg h2, if_neg h1]
  have r19 : ∀ a, 19 ≤ a → a < 37 → up2 f1 0 7 (f1 0 7 + 1) a = f1 a := fun a h1 h2 => up2_row _ _ _ _ _ (by omega)
  have W19 : WRel f1 19 ((RE_image g).2 2) := by
    refine wcpRel w' p1 tx.1 tx.2 ⟨p3.1, p3.2.1, p3.2.2.1⟩ ⟨p3.2.2.2.1, p3.2.2.2.2.1, p3.2.2.2.2.2⟩ (fun j hj => ?_) (fun _ _ => trivial)
    show (if j < 264 then g 1 j else g 2 j) = g 1 j
    rw [if_pos hj]
  refine ⟨?_, ?_⟩
  · show f1 0 7 + 1 = g 0 2 + 1
    rw [e7]
  unfold Cpl
  rw [e2 1 (by decide) (by decide), e2 3 (by decide) (by decide), e2 6 (by decide) (by decide), e2 7 (by decide) (by decide), e2 8 (by decide) (by decide), e2 9 (by decide) (by decide), e 56 (by decide) (by decide), e 44 (by decide) (by decide), e 45 (by decide) (by decide)]
  have e20 : (RE_image g).2 0 20 = g 0 20 := by
    show upd (g 0) 2 (g 0 2 + 1) 20 = _
    exact updN _ _ _ (by decide)
  rw [e20]
  refine ⟨WRelFr p1 fun j h1 h2 h3 => e _ (by omega) (by omega), Or.inr (WRelFr W19 fun j h1 h2 h3 => r19 _ (by omega) (by omega)), ?_, ?_, p5, p6, p7, fun i hi => ?_⟩
  · unfold WCon
    rw [r19 (19 + 11) (by decide) (by decide), r19 (19 + 14) (by decide) (by decide)]
    have a := w'.2.2.2.2.2.2.2.1
    have b := w'.2.2.2.2.2.2.2.2.2.2.1
    exact ⟨(a 0 (by decide)).trans p3.1, (a 1 (by decide)).trans p3.2.1, (a 2 (by decide)).trans p3.2.2.1, (b 0 (by decide)).trans p3.2.2.2.1, (b 1 (by decide)).trans p3.2.2.2.2.1, (b 2 (by decide)).trans p3.2.2.2.2.2⟩
  · rw [up2_at, e7]
    show _ = upd (g 0) 2 (g 0 2 + 1) 2
    rw [updE]
  · rw [e _ (by omega) (by omega), e _ (by omega) (by omega)]; exact p8 i hi
theorem vc_X8_restore : vcS_X8_restore := by
  intro f hp
  simp only [wp_X8_restore, pI_iff]
  refine ⟨fun z f1 w g hc hi => ?_, fun z r4 f5 p g hc hi => ?_⟩
  rotate_left
  · have e7 : f 0 7 = g 0 2 := (CplW hc).2.2.2.2.2.2.2.2.2.2.2.1
    have R : RE_restore g = er g 2 := by unfold RE_restore; rw [if_pos (by rw [← e7]; exact z)]
    rw [R]; exact err2 hc p
  have e7 : f 0 7 = g 0 2 := (CplW hc).2.2.2.2.2.2.2.2.2.2.2.1
  have z2 : ¬ g 0 2 = 0 := by rw [← e7]; exact z
  have w' : wcp f f1 1 19 := w
  obtain ⟨p1, p2, p3, p4, p5, p6, p7, p8⟩ := id hc
  have W0 : WRel f 19 (g 2) := p2.resolve_left z2
  have D2 : dOK (g 2) := hi.2.1.resolve_left z2
  have tx := txI D2
  have l12 := p1.2.2.2.2.2.2.2.2.2.2.2.2.2.2.2.2.1
  have l15 := p1.2.2.2.2.2.2.2.2.2.2.2.2.2.2.2.2.2
  have R : RE_restore g = (g 2 1, fun a => if a = 1 then (fun j => if j < 264 then g 2 j else g 1 j) else g a) := by unfold RE_restore; rw [if_neg z2]
  have W1 : WRel f1 1 (fun j => if j < 264 then g 2 j else g 1 j) := by
    refine wcpRel w' W0 tx.1 tx.2 ⟨l12.1, l12.2.1, l12.2.2.1⟩ ⟨l15.1, l15.2.1, l15.2.2.1⟩ (fun j hj => ?_) (fun _ _ => trivial)
    rw [if_pos hj]
  rw [R]
  refine ⟨?_, CplRow hc W1 (fun a ha => w'.1 a (by omega)) (fun a ha => by dsimp only; rw [if_neg ha])⟩
  rw [w'.2.1 5 (by omega)]
  exact W0.2.2.2.2.2.1
set_option maxHeartbeats 200000 in
theorem vc_X8_tell : vcS_X8_tell := by
  unfold vcS_X8_tell
  simp only [wp_X8_tell, pI_iff, pV_iff, pL_iff, Post_X8_tell, Pre_X8_tell, tn0, tn1, tn2, tn3, tn4, tn5, tn6, tn7, tn8, tn9, tn10, tn12, tn18, tn40, tn50, tn60, tn90, tn92, tn112, tn212, tnn1, ni0, ni1, ni2, ni3, ni4, ni5, ni6, ni7, lg_cmp_lt, lg_cmp_le, lg_cmp_gt, lg_cmp_ge, lg_cmp_eq, RE_tell, Post_X7_addWaiting]
  intros
  (try rcases ‹cplPre _› with ⟨g0, hc0, hi0⟩)
  (repeat' (first | with_reducible apply And.intro | with_reducible intro _)) <;> (try first | apply pR_some | apply pR_none) <;> (try subst_vars) <;> first | grind [txb, pT, lawHi, lawLo, fl4, Post_X7_addWaiting, up2_ap, vp1, vp2, vp3, vp4, vp5, vp6, vp20, vp40, vp50, vp60, tnc, tncA, tncS, tncM, eqM_rfl, up2_row, InvF, InvF0, dF2, sw0, sw1, InvT, → flyerS, → flyerN, → startV, → err1, → err2, → err3, → err4, → err5, → sheetS, → sheetN, → swingS, → swingN, → lawS, → lawN, → CplEqT, → CplTFr, → CplW, → CplSw, → orNf, → flIs, → swIs, → lawIs, → shIs, ← CplUp, ← CplFlV, → CplFl, → swVC, → givesC, → flyK, ← CplWait]
theorem vc_X8_check : vcS_X8_check := by
  intro f0 hp
  obtain ⟨g0, hc0, hi0⟩ := hp
  obtain ⟨n, n20, hn⟩ : ∃ n : Nat, n ≤ 20 ∧ g0 1 10 = nI n := by
    obtain ⟨-, -, -, -, -, -, -, -, -, -, h, -⟩ := hi0.1; exact h
  have f17 : f0 1 17 = nI n := by rw [(CplW hc0).2.2.2.2.2.2.2.2.2.2.1, hn]
  have gn : ∀ g, Cpl f0 g → g 1 10 = nI n := fun g hc => by rw [← f17, (CplW hc).2.2.2.2.2.2.2.2.2.2.1]
  have cU : ∀ g, Cpl f0 g → Cpl (up2 f0 1 17 0) (up2 g 1 10 0) := fun g hc => CplUp hc 17 10 0 (by decide)
  have R : ∀ g, Cpl f0 g → RE_check g = (match fst (chkP g) n with | some k => 1 + nI k | none => 0, up2 g 1 10 0) := fun g hc => by
    unfold RE_check; rw [gn g hc, show ix (nI n) = n from nI_clamp (by omega)]; rfl
  have cP : ∀ g, Cpl f0 g → ∀ k, k < n → (chkP g k = true ↔ ¬ up2 f0 1 17 0 18 k = Val_X4_placeAt 2 (up2 f0 1 17 0) (up2 f0 1 17 0 1 5 + nI k)) := fun g hc k hk => by
    have w : f0 18 k = g 1 (92 + k) := by
      obtain ⟨⟨-, -, -, -, -, -, -, -, -, -, -, -, -, -, -, h, -⟩, -⟩ := hc
      exact h k (by omega)
    have t5 : f0 1 5 = g 1 1 := (CplW hc).2.2.2.1
    have sv : swV (f0 2) = swV (sw3 (g 1) 0) := (swVC hc).1
    unfold chkP Val_X4_placeAt
    rw [up2_row _ _ _ _ 18 (by decide), up2_row _ _ _ _ 2 (by decide), up2_off _ _ (show (5 : Nat) ≠ 17 by decide), w, t5, sv]
    exact decide_eq_true_iff
  simp only [wp_X8_check, wp_X8_check_L18]
  refine ⟨fun (f : Fn) (x1 x2 : Int32) => f = up2 f0 1 17 0 ∧ x1 = nI n ∧ ∃ k : Nat, k ≤ n ∧ x2 = nI k ∧ ∀ g, Cpl f0 g → fst (chkP g) k = none, fun _ _ x2 => 100 - x2.toNatClampNeg, ⟨rfl, f17, 0, by omega, rfl, fun _ _ => rfl⟩, ?_⟩
  rintro f x1 x2 ⟨rfl, rfl, k, hk, rfl, hF⟩
  simp only [wpb_X8_check_L18]
  rw [nI_leI (by omega) (by omega)]
  refine ⟨fun h => ?_, fun h => ⟨fun h2 => ?_, fun h2 => ⟨vp_in_nI (by omega) (by omega), ?_⟩⟩⟩
  · have : k = n := by omega
    subst this
    rw [pI_iff]; intro g hc hi
    rw [R g hc, hF g hc]; exact ⟨rfl, cU g hc⟩
  · have : nI 20 ≤ nI k := h2
    rw [nI_leI (by decide) (by omega)] at this
    omega
  · rw [nI_clamp (by omega)]
    refine ⟨fun h3 => ⟨⟨trivial, trivial, k + 1, by omega, by rw [nI_1], fun g hc => ?_⟩, ?_⟩, fun h3 => ?_⟩
    · rw [fst_s _ _ (hF g hc), if_neg (fun z => (cP g hc k (by omega)).mp z h3)]
    · rw [nI_1, nI_clamp (by omega)]; omega
    · rw [pI_iff]; intro g hc hi
      have : fst (chkP g) n = some k := fst_h (hF g hc) ((cP g hc k (by omega)).mpr h3) (by omega)
      rw [R g hc, this]; exact ⟨rfl, cU g hc⟩
set_option maxHeartbeats 200000 in
theorem vc_X8_count : vcS_X8_count := by
  unfold vcS_X8_count
  simp only [wp_X8_count, pI_iff, pV_iff, pL_iff, Post_X8_count, Pre_X8_count, tn0, tn1, tn2, tn3, tn4, tn5, tn6, tn7, tn8, tn9, tn10, tn12, tn18, tn40, tn50, tn60, tn90, tn92, tn112, tn212, tnn1, ni0, ni1, ni2, ni3, ni4, ni5, ni6, ni7, lg_cmp_lt, lg_cmp_le, lg_cmp_gt, lg_cmp_ge, lg_cmp_eq, RE_count]
  intros
  (repeat' (first | with_reducible apply And.intro | with_reducible intro _)) <;> (try first | apply pR_some | apply pR_none) <;> first | grind [txb, pT, lawHi, lawLo, fl4, up2_ap, vp1, vp2, vp3, vp4, vp5, vp6, vp20, vp40, vp50, vp60, tnc, tncA, tncS, tncM, eqM_rfl, up2_row, InvF, InvF0, dF2, sw0, sw1, InvT, → flyerS, → flyerN, → startV, → err1, → err2, → err3, → err4, → err5, → sheetS, → sheetN, → swingS, → swingN, → lawS, → lawN, → CplEqT, → CplTFr, → CplW, → CplSw, → orNf, → flIs, → swIs, → lawIs, → shIs, ← CplUp, ← CplFlV, → CplFl, → swVC, → givesC]
set_option maxHeartbeats 200000 in
theorem vc_X8_told : vcS_X8_told := by
  unfold vcS_X8_told
  simp only [wp_X8_told, pI_iff, pV_iff, pL_iff, Post_X8_told, Pre_X8_told, tn0, tn1, tn2, tn3, tn4, tn5, tn6, tn7, tn8, tn9, tn10, tn12, tn18, tn40, tn50, tn60, tn90, tn92, tn112, tn212, tnn1, ni0, ni1, ni2, ni3, ni4, ni5, ni6, ni7, lg_cmp_lt, lg_cmp_le, lg_cmp_gt, lg_cmp_ge, lg_cmp_eq, RE_told]
  intros
  (try rcases ‹cplPre _› with ⟨g0, hc0, hi0⟩)
  (repeat' (first | with_reducible apply And.intro | with_reducible intro _)) <;> (try first | apply pR_some | apply pR_none) <;> first | grind [→ toldF, txb, pT, lawHi, lawLo, fl4, Val_X8_within, wthI, up2_ap, vp1, vp2, vp3, vp4, vp5, vp6, vp20, vp40, vp50, vp60, tnc, tncA, tncS, tncM, eqM_rfl, up2_row, InvF, InvF0, dF2, sw0, sw1, InvT, → flyerS, → flyerN, → startV, → err1, → err2, → err3, → err4, → err5, → sheetS, → sheetN, → swingS, → swingN, → lawS, → lawN, → CplEqT, → CplTFr, → CplW, → CplSw, → orNf, → flIs, → swIs, → lawIs, → shIs, ← CplUp, ← CplFlV, → CplFl, → swVC, → givesC, → flyK]
theorem VCt_x8 : VC_x8 := ⟨vc_X8_error, vc_X8_orNone, vc_X8_sheetOf, vc_X8_isSpan, vc_X8_isKindAndNumber, vc_X8_partOf, vc_X8_goToldAt, vc_X8_oneEvening, vc_X8_swing, vc_X8_bar, vc_X8_set, vc_X8_flyer, vc_X8_ofFlyer, vc_X8_become, vc_X8_as, vc_X8_turn, vc_X8_feed, vc_X8_text, vc_X8_law, vc_X8_go, vc_X8_ticks, vc_X8_evenings, vc_X8_rest, vc_X8_then, vc_X8_can, vc_X8_surest, vc_X8_odds, vc_X8_pumped, vc_X8_inStep, vc_X8_mend, vc_X8_again, vc_X8_net, vc_X8_phases, vc_X8_late, vc_X8_seed, vc_X8_voice, vc_X8_trace, vc_X8_sheet, vc_X8_put, vc_X8_move, vc_X8_turns, vc_X8_judge, vc_X8_image, vc_X8_restore, vc_X8_tell, vc_X8_check, vc_X8_count, vc_X8_told, trivial⟩
