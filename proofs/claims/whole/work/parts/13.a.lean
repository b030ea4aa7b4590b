set_option maxHeartbeats 200000 in
theorem vc_J9_abs_0f7a4 : vcS_J9_abs_0f7a4 := by
  unfold vcS_J9_abs_0f7a4
  simp only [wp_J9_abs_0f7a4, pI_iff, pV_iff, pL_iff, Val_J9_abs_0f7a4, tn0, tn1, tn2, tn3, tn4, tn5, tn6, tn7, tn8, tn9, tn10, tn12, tn18, tn40, tn50, tn60, tn90, tn92, tn112, tn212, tnn1, ni0, ni1, ni2, ni3, ni4, ni5, ni6, ni7, er1, er2, er3, er4, er5, lg_cmp_lt, lg_cmp_le, lg_cmp_gt, lg_cmp_ge, lg_cmp_eq]
  intros
  (repeat' (first | with_reducible apply And.intro | with_reducible intro _)) <;> (try first | apply pR_some | apply pR_none) <;> first | grind [Val_J9_abs_0f7a4, absI, up2_ap, cpr_ap, vp1, vp2, vp3, vp4, vp5, vp6, vp20, vp40, vp50, vp60, vp160, vp264, tnc, nIX, nIc, tncA, tncS, tncM, l56, eqM_rfl, up2_row, InvF, InvF0, dF1, dF2, sw0, sw1, InvT]
set_option maxHeartbeats 200000 in
theorem vc_J9_max_7cf53 : vcS_J9_max_7cf53 := by
  unfold vcS_J9_max_7cf53
  simp only [wp_J9_max_7cf53, pI_iff, pV_iff, pL_iff, Val_J9_max_7cf53, tn0, tn1, tn2, tn3, tn4, tn5, tn6, tn7, tn8, tn9, tn10, tn12, tn18, tn40, tn50, tn60, tn90, tn92, tn112, tn212, tnn1, ni0, ni1, ni2, ni3, ni4, ni5, ni6, ni7, er1, er2, er3, er4, er5, lg_cmp_lt, lg_cmp_le, lg_cmp_gt, lg_cmp_ge, lg_cmp_eq]
  intros
  (repeat' (first | with_reducible apply And.intro | with_reducible intro _)) <;> (try first | apply pR_some | apply pR_none) <;> first | grind [Val_J9_max_7cf53, maxI, up2_ap, cpr_ap, vp1, vp2, vp3, vp4, vp5, vp6, vp20, vp40, vp50, vp60, vp160, vp264, tnc, nIX, nIc, tncA, tncS, tncM, l56, eqM_rfl, up2_row, InvF, InvF0, dF1, dF2, sw0, sw1, InvT]
set_option maxHeartbeats 200000 in
theorem vc_J9_min_7cf53 : vcS_J9_min_7cf53 := by
  unfold vcS_J9_min_7cf53
  simp only [wp_J9_min_7cf53, pI_iff, pV_iff, pL_iff, Val_J9_min_7cf53, tn0, tn1, tn2, tn3, tn4, tn5, tn6, tn7, tn8, tn9, tn10, tn12, tn18, tn40, tn50, tn60, tn90, tn92, tn112, tn212, tnn1, ni0, ni1, ni2, ni3, ni4, ni5, ni6, ni7, er1, er2, er3, er4, er5, lg_cmp_lt, lg_cmp_le, lg_cmp_gt, lg_cmp_ge, lg_cmp_eq]
  intros
  (repeat' (first | with_reducible apply And.intro | with_reducible intro _)) <;> (try first | apply pR_some | apply pR_none) <;> first | grind [Val_J9_min_7cf53, minI, up2_ap, cpr_ap, vp1, vp2, vp3, vp4, vp5, vp6, vp20, vp40, vp50, vp60, vp160, vp264, tnc, nIX, nIc, tncA, tncS, tncM, l56, eqM_rfl, up2_row, InvF, InvF0, dF1, dF2, sw0, sw1, InvT]
set_option maxHeartbeats 200000 in
theorem vc_J9_floorMod_7cf53 : vcS_J9_floorMod_7cf53 := by
  unfold vcS_J9_floorMod_7cf53
  simp only [wp_J9_floorMod_7cf53, pI_iff, pV_iff, pL_iff, Val_J9_floorMod_7cf53, Pre_J9_floorMod_7cf53, tn0, tn1, tn2, tn3, tn4, tn5, tn6, tn7, tn8, tn9, tn10, tn12, tn18, tn40, tn50, tn60, tn90, tn92, tn112, tn212, tnn1, ni0, ni1, ni2, ni3, ni4, ni5, ni6, ni7, er1, er2, er3, er4, er5, lg_cmp_lt, lg_cmp_le, lg_cmp_gt, lg_cmp_ge, lg_cmp_eq]
  intros
  (repeat' (first | with_reducible apply And.intro | with_reducible intro _)) <;> (try first | apply pR_some | apply pR_none) <;> first | grind [Val_J9_floorMod_7cf53, fmodI, remI, up2_ap, cpr_ap, vp1, vp2, vp3, vp4, vp5, vp6, vp20, vp40, vp50, vp60, vp160, vp264, tnc, nIX, nIc, tncA, tncS, tncM, l56, eqM_rfl, up2_row, InvF, InvF0, dF1, dF2, sw0, sw1, InvT]
set_option maxHeartbeats 200000 in
theorem vc_X8_within : vcS_X8_within := by
  unfold vcS_X8_within
  simp only [wp_X8_within, pI_iff, pV_iff, pL_iff, Val_X8_within, tn0, tn1, tn2, tn3, tn4, tn5, tn6, tn7, tn8, tn9, tn10, tn12, tn18, tn40, tn50, tn60, tn90, tn92, tn112, tn212, tnn1, ni0, ni1, ni2, ni3, ni4, ni5, ni6, ni7, er1, er2, er3, er4, er5, lg_cmp_lt, lg_cmp_le, lg_cmp_gt, lg_cmp_ge, lg_cmp_eq]
  intros
  (repeat' (first | with_reducible apply And.intro | with_reducible intro _)) <;> (try first | apply pR_some | apply pR_none) <;> first | grind [Val_X8_within, wthI, up2_ap, cpr_ap, vp1, vp2, vp3, vp4, vp5, vp6, vp20, vp40, vp50, vp60, vp160, vp264, tnc, nIX, nIc, tncA, tncS, tncM, l56, eqM_rfl, up2_row, InvF, InvF0, dF1, dF2, sw0, sw1, InvT]
set_option maxHeartbeats 200000 in
theorem vc_X0_kindAbove : vcS_X0_kindAbove := by
  unfold vcS_X0_kindAbove
  simp only [wp_X0_kindAbove, pI_iff, pV_iff, pL_iff, Val_X0_kindAbove, tn0, tn1, tn2, tn3, tn4, tn5, tn6, tn7, tn8, tn9, tn10, tn12, tn18, tn40, tn50, tn60, tn90, tn92, tn112, tn212, tnn1, ni0, ni1, ni2, ni3, ni4, ni5, ni6, ni7, er1, er2, er3, er4, er5, lg_cmp_lt, lg_cmp_le, lg_cmp_gt, lg_cmp_ge, lg_cmp_eq]
  intros
  (repeat' (first | with_reducible apply And.intro | with_reducible intro _)) <;> (try first | apply pR_some | apply pR_none) <;> first | grind [Val_X0_kindAbove, kAb, up2_ap, cpr_ap, vp1, vp2, vp3, vp4, vp5, vp6, vp20, vp40, vp50, vp60, vp160, vp264, tnc, nIX, nIc, tncA, tncS, tncM, l56, eqM_rfl, up2_row, InvF, InvF0, dF1, dF2, sw0, sw1, InvT]
set_option maxHeartbeats 200000 in
theorem vc_X0_take : vcS_X0_take := by
  unfold vcS_X0_take
  simp only [wp_X0_take, pI_iff, pV_iff, pL_iff, Post_X0_take, tn0, tn1, tn2, tn3, tn4, tn5, tn6, tn7, tn8, tn9, tn10, tn12, tn18, tn40, tn50, tn60, tn90, tn92, tn112, tn212, tnn1, ni0, ni1, ni2, ni3, ni4, ni5, ni6, ni7, er1, er2, er3, er4, er5, lg_cmp_lt, lg_cmp_le, lg_cmp_gt, lg_cmp_ge, lg_cmp_eq]
  intros
  (repeat' (first | with_reducible apply And.intro | with_reducible intro _)) <;> (try first | apply pR_some | apply pR_none) <;> first | grind [flT, remI, up2_ap, cpr_ap, vp1, vp2, vp3, vp4, vp5, vp6, vp20, vp40, vp50, vp60, vp160, vp264, tnc, nIX, nIc, tncA, tncS, tncM, l56, eqM_rfl, up2_row, InvF, InvF0, dF1, dF2, sw0, sw1, InvT]
set_option maxHeartbeats 200000 in
theorem vc_X0_begin : vcS_X0_begin := by
  unfold vcS_X0_begin
  simp only [wp_X0_begin, pI_iff, pV_iff, pL_iff, Post_X0_begin, tn0, tn1, tn2, tn3, tn4, tn5, tn6, tn7, tn8, tn9, tn10, tn12, tn18, tn40, tn50, tn60, tn90, tn92, tn112, tn212, tnn1, ni0, ni1, ni2, ni3, ni4, ni5, ni6, ni7, er1, er2, er3, er4, er5, lg_cmp_lt, lg_cmp_le, lg_cmp_gt, lg_cmp_ge, lg_cmp_eq]
  intros
  (repeat' (first | with_reducible apply And.intro | with_reducible intro _)) <;> (try first | apply pR_some | apply pR_none) <;> first | grind [flT, remI, Post_X0_take, up2_ap, cpr_ap, vp1, vp2, vp3, vp4, vp5, vp6, vp20, vp40, vp50, vp60, vp160, vp264, tnc, nIX, nIc, tncA, tncS, tncM, l56, eqM_rfl, up2_row, InvF, InvF0, dF1, dF2, sw0, sw1, InvT]
set_option maxHeartbeats 600000 in
theorem vc_X0_isOf : vcS_X0_isOf := by
  unfold vcS_X0_isOf
  intro o f0 a1 ho hk
  simp only [wp_X0_isOf, wp_X0_isOf_L7]
  refine ⟨fun (f : Fn) (x1 x2 x3 : Int32) => f = f0 ∧ x1 = a1 ∧ (x3 = 0 ∧ x2 = f0 o 0 ∨ x3 = 1 ∧ x2 = kAb (f0 o 0) ∧ ¬ f0 o 0 = a1 ∧ 0 < f0 o 0 ∨ x3 = 2 ∧ x2 = kAb (kAb (f0 o 0)) ∧ ¬ f0 o 0 = a1 ∧ ¬ kAb (f0 o 0) = a1 ∧ 0 < kAb (f0 o 0)), fun (f : Fn) (x1 x2 x3 : Int32) => 3 - x3.toNatClampNeg, ?_, ?_⟩
  · grind (splits := 14) [→ icC, → cas3, cnt_s, cnt_0, fst_0, fst_s, oI_n, oI_s, bI, bst_s, bst_0, TFrr, tn1e, nItn, tnc, kAb, isOfI, kOK, Val_X0_kindAbove, Pre_X0_isOf]
  · intro f x1 x2 x3 hI
    simp only [wp_X0_isOf_L33, wpb_X0_isOf_L7, wp_X0_isOf_L7, wp_X0_isOf, pI_iff, pV_iff, Val_X0_isOf, Pre_X0_isOf] at hI ⊢
    (repeat' (first | with_reducible apply And.intro | with_reducible intro _)) <;> first | grind (splits := 14) [→ icC, → cas3, cnt_s, cnt_0, fst_0, fst_s, oI_n, oI_s, bI, bst_s, bst_0, TFrr, tn1e, nItn, tnc, kAb, isOfI, kOK, Val_X0_kindAbove, Pre_X0_isOf]
set_option maxHeartbeats 200000 in
theorem vc_X0_lag : vcS_X0_lag := by
  unfold vcS_X0_lag
  simp only [wp_X0_lag_L56, wp_X0_lag, pI_iff, pV_iff, pL_iff, Val_X0_lag, tn0, tn1, tn2, tn3, tn4, tn5, tn6, tn7, tn8, tn9, tn10, tn12, tn18, tn40, tn50, tn60, tn90, tn92, tn112, tn212, tnn1, ni0, ni1, ni2, ni3, ni4, ni5, ni6, ni7, er1, er2, er3, er4, er5, lg_cmp_lt, lg_cmp_le, lg_cmp_gt, lg_cmp_ge, lg_cmp_eq]
  intros
  (repeat' (first | with_reducible apply And.intro | with_reducible intro _)) <;> (try first | apply pR_some | apply pR_none) <;> first | grind [Val_X0_lag, lagI, remI, up2_ap, cpr_ap, vp1, vp2, vp3, vp4, vp5, vp6, vp20, vp40, vp50, vp60, vp160, vp264, tnc, nIX, nIc, tncA, tncS, tncM, l56, eqM_rfl, up2_row, InvF, InvF0, dF1, dF2, sw0, sw1, InvT]
set_option maxHeartbeats 200000 in
theorem vc_X0_holds : vcS_X0_holds := by
  unfold vcS_X0_holds
  simp only [wp_X0_holds_L57, wp_X0_holds, pI_iff, pV_iff, pL_iff, Val_X0_holds, tn0, tn1, tn2, tn3, tn4, tn5, tn6, tn7, tn8, tn9, tn10, tn12, tn18, tn40, tn50, tn60, tn90, tn92, tn112, tn212, tnn1, ni0, ni1, ni2, ni3, ni4, ni5, ni6, ni7, er1, er2, er3, er4, er5, lg_cmp_lt, lg_cmp_le, lg_cmp_gt, lg_cmp_ge, lg_cmp_eq]
  intros
  (repeat' (first | with_reducible apply And.intro | with_reducible intro _)) <;> (try first | apply pR_some | apply pR_none) <;> first | grind [Val_X0_holds, holdsI, maxI, Val_J9_max_7cf53, up2_ap, cpr_ap, vp1, vp2, vp3, vp4, vp5, vp6, vp20, vp40, vp50, vp60, vp160, vp264, tnc, nIX, nIc, tncA, tncS, tncM, l56, eqM_rfl, up2_row, InvF, InvF0, dF1, dF2, sw0, sw1, InvT]
set_option maxHeartbeats 200000 in
theorem vc_X0_harm : vcS_X0_harm := by
  unfold vcS_X0_harm
  simp only [wp_X0_harm, pI_iff, pV_iff, pL_iff, Val_X0_harm, tn0, tn1, tn2, tn3, tn4, tn5, tn6, tn7, tn8, tn9, tn10, tn12, tn18, tn40, tn50, tn60, tn90, tn92, tn112, tn212, tnn1, ni0, ni1, ni2, ni3, ni4, ni5, ni6, ni7, er1, er2, er3, er4, er5, lg_cmp_lt, lg_cmp_le, lg_cmp_gt, lg_cmp_ge, lg_cmp_eq]
  intros
  (repeat' (first | with_reducible apply And.intro | with_reducible intro _)) <;> (try first | apply pR_some | apply pR_none) <;> first | grind [Val_X0_harm, harmI, up2_ap, cpr_ap, vp1, vp2, vp3, vp4, vp5, vp6, vp20, vp40, vp50, vp60, vp160, vp264, tnc, nIX, nIc, tncA, tncS, tncM, l56, eqM_rfl, up2_row, InvF, InvF0, dF1, dF2, sw0, sw1, InvT]
set_option maxHeartbeats 200000 in
theorem vc_X0_copy : vcS_X0_copy := by
  unfold vcS_X0_copy
  simp only [wp_X0_copy, pI_iff, pV_iff, pL_iff, Post_X0_copy, tn0, tn1, tn2, tn3, tn4, tn5, tn6, tn7, tn8, tn9, tn10, tn12, tn18, tn40, tn50, tn60, tn90, tn92, tn112, tn212, tnn1, ni0, ni1, ni2, ni3, ni4, ni5, ni6, ni7, er1, er2, er3, er4, er5, lg_cmp_lt, lg_cmp_le, lg_cmp_gt, lg_cmp_ge, lg_cmp_eq]
  intros
  (repeat' (first | with_reducible apply And.intro | with_reducible intro _)) <;> (try first | apply pR_some | apply pR_none) <;> first | grind [up2_ap, cpr_ap, vp1, vp2, vp3, vp4, vp5, vp6, vp20, vp40, vp50, vp60, vp160, vp264, tnc, nIX, nIc, tncA, tncS, tncM, l56, eqM_rfl, up2_row, InvF, InvF0, dF1, dF2, sw0, sw1, InvT]
set_option maxHeartbeats 200000 in
theorem vc_X4_takes : vcS_X4_takes := by
  unfold vcS_X4_takes
  simp only [wp_X4_takes, pI_iff, pV_iff, pL_iff, Val_X4_takes, tn0, tn1, tn2, tn3, tn4, tn5, tn6, tn7, tn8, tn9, tn10, tn12, tn18, tn40, tn50, tn60, tn90, tn92, tn112, tn212, tnn1, ni0, ni1, ni2, ni3, ni4, ni5, ni6, ni7, er1, er2, er3, er4, er5, lg_cmp_lt, lg_cmp_le, lg_cmp_gt, lg_cmp_ge, lg_cmp_eq]
  intros
  (repeat' (first | with_reducible apply And.intro | with_reducible intro _)) <;> (try first | apply pR_some | apply pR_none) <;> first | grind [Val_X4_takes, wthI, Val_X8_within, up2_ap, cpr_ap, vp1, vp2, vp3, vp4, vp5, vp6, vp20, vp40, vp50, vp60, vp160, vp264, tnc, nIX, nIc, tncA, tncS, tncM, l56, eqM_rfl, up2_row, InvF, InvF0, dF1, dF2, sw0, sw1, InvT]
set_option maxHeartbeats 200000 in
theorem vc_X4_change : vcS_X4_change := by
  unfold vcS_X4_change
  simp only [wp_X4_change, pI_iff, pV_iff, pL_iff, Post_X4_change, tn0, tn1, tn2, tn3, tn4, tn5, tn6, tn7, tn8, tn9, tn10, tn12, tn18, tn40, tn50, tn60, tn90, tn92, tn112, tn212, tnn1, ni0, ni1, ni2, ni3, ni4, ni5, ni6, ni7, er1, er2, er3, er4, er5, lg_cmp_lt, lg_cmp_le, lg_cmp_gt, lg_cmp_ge, lg_cmp_eq]
  intros
  (repeat' (first | with_reducible apply And.intro | with_reducible intro _)) <;> (try first | apply pR_some | apply pR_none) <;> first | grind [swCh, maxI, remI, Val_J9_max_7cf53, up2_ap, cpr_ap, vp1, vp2, vp3, vp4, vp5, vp6, vp20, vp40, vp50, vp60, vp160, vp264, tnc, nIX, nIc, tncA, tncS, tncM, l56, eqM_rfl, up2_row, InvF, InvF0, dF1, dF2, sw0, sw1, InvT]
set_option maxHeartbeats 400000 in
theorem vc_X4_placeAt : vcS_X4_placeAt := by
  unfold vcS_X4_placeAt
  simp only [wp_X4_placeAt, pI_iff, pV_iff, pL_iff, Val_X4_placeAt]
  grind [swV, Val_J9_abs_0f7a4, Val_J9_floorMod_7cf53, Pre_J9_floorMod_7cf53]
set_option maxHeartbeats 200000 in
theorem vc_X4_copy : vcS_X4_copy := by
  unfold vcS_X4_copy
  simp only [wp_X4_copy, pI_iff, pV_iff, pL_iff, Post_X4_copy, tn0, tn1, tn2, tn3, tn4, tn5, tn6, tn7, tn8, tn9, tn10, tn12, tn18, tn40, tn50, tn60, tn90, tn92, tn112, tn212, tnn1, ni0, ni1, ni2, ni3, ni4, ni5, ni6, ni7, er1, er2, er3, er4, er5, lg_cmp_lt, lg_cmp_le, lg_cmp_gt, lg_cmp_ge, lg_cmp_eq]
  intros
  (repeat' (first | with_reducible apply And.intro | with_reducible intro _)) <;> (try first | apply pR_some | apply pR_none) <;> first | grind [up2_ap, cpr_ap, vp1, vp2, vp3, vp4, vp5, vp6, vp20, vp40, vp50, vp60, vp160, vp264, tnc, nIX, nIc, tncA, tncS, tncM, l56, eqM_rfl, up2_row, InvF, InvF0, dF1, dF2, sw0, sw1, InvT]
set_option maxHeartbeats 200000 in
theorem vc_X1_isPart : vcS_X1_isPart := by
  unfold vcS_X1_isPart
  simp only [wp_X1_isPart, pI_iff, pV_iff, pL_iff, Val_X1_isPart, tn0, tn1, tn2, tn3, tn4, tn5, tn6, tn7, tn8, tn9, tn10, tn12, tn18, tn40, tn50, tn60, tn90, tn92, tn112, tn212, tnn1, ni0, ni1, ni2, ni3, ni4, ni5, ni6, ni7, er1, er2, er3, er4, er5, lg_cmp_lt, lg_cmp_le, lg_cmp_gt, lg_cmp_ge, lg_cmp_eq]
  intros
  (repeat' (first | with_reducible apply And.intro | with_reducible intro _)) <;> (try first | apply pR_some | apply pR_none) <;> first | grind [Val_X1_isPart, isPartI, up2_ap, cpr_ap, vp1, vp2, vp3, vp4, vp5, vp6, vp20, vp40, vp50, vp60, vp160, vp264, tnc, nIX, nIc, tncA, tncS, tncM, l56, eqM_rfl, up2_row, InvF, InvF0, dF1, dF2, sw0, sw1, InvT]
set_option maxHeartbeats 200000 in
theorem vc_X1_joined : vcS_X1_joined := by
  unfold vcS_X1_joined
  simp only [wp_X1_joined, pI_iff, pV_iff, pL_iff, Val_X1_joined, tn0, tn1, tn2, tn3, tn4, tn5, tn6, tn7, tn8, tn9, tn10, tn12, tn18, tn40, tn50, tn60, tn90, tn92, tn112, tn212, tnn1, ni0, ni1, ni2, ni3, ni4, ni5, ni6, ni7, er1, er2, er3, er4, er5, lg_cmp_lt, lg_cmp_le, lg_cmp_gt, lg_cmp_ge, lg_cmp_eq]
  intros
  (repeat' (first | with_reducible apply And.intro | with_reducible intro _)) <;> (try first | apply pR_some | apply pR_none) <;> first | grind [Val_X1_joined, joinI, remI, up2_ap, cpr_ap, vp1, vp2, vp3, vp4, vp5, vp6, vp20, vp40, vp50, vp60, vp160, vp264, tnc, nIX, nIc, tncA, tncS, tncM, l56, eqM_rfl, up2_row, InvF, InvF0, dF1, dF2, sw0, sw1, InvT]
set_option maxHeartbeats 600000 in
theorem vc_X1_take : vcS_X1_take := by
  unfold vcS_X1_take
  intro o p f0 a2 ho hp
  simp only [wp_X1_take, wp_X1_take_L17]
  refine ⟨fun (f : Fn) (x3 : Int32) => 0 ≤ x3 ∧ (x3 = 0 ∨ x3 ≤ minI a2 50) ∧ ∀ a j, f a j = if a = o then upd (f0 o) 5 (minI a2 50) j else if a = o + 1 then (if j < x3.toNatClampNeg then f0 p j else f0 (o + 1) j) else f0 a j, fun (f : Fn) (x3 : Int32) => 2147483648 - x3.toNatClampNeg, ?_, ?_⟩
  · grind (splits := 14) [→ icC, → cas3, cnt_s, cnt_0, fst_0, fst_s, oI_n, oI_s, bI, bst_s, bst_0, TFrr, tn1e, nItn, tnc, minI, Val_J9_min_7cf53, up2_ap, upd, vp50]
  · intro f x3 hI
    simp only [wpb_X1_take_L17, wp_X1_take_L17, wp_X1_take, pI_iff, pV_iff, Post_X1_take] at hI ⊢
    (repeat' (first | with_reducible apply And.intro | with_reducible intro _)) <;> first | grind (splits := 14) [→ icC, → cas3, cnt_s, cnt_0, fst_0, fst_s, oI_n, oI_s, bI, bst_s, bst_0, TFrr, tn1e, nItn, tnc, minI, Val_J9_min_7cf53, up2_ap, upd, vp50]
set_option maxHeartbeats 200000 in
theorem vc_X1_copy : vcS_X1_copy := by
  unfold vcS_X1_copy
  simp only [wp_X1_copy, pI_iff, pV_iff, pL_iff, Post_X1_copy, tn0, tn1, tn2, tn3, tn4, tn5, tn6, tn7, tn8, tn9, tn10, tn12, tn18, tn40, tn50, tn60, tn90, tn92, tn112, tn212, tnn1, ni0, ni1, ni2, ni3, ni4, ni5, ni6, ni7, er1, er2, er3, er4, er5, lg_cmp_lt, lg_cmp_le, lg_cmp_gt, lg_cmp_ge, lg_cmp_eq]
  intros
  (repeat' (first | with_reducible apply And.intro | with_reducible intro _)) <;> (try first | apply pR_some | apply pR_none) <;> first | grind [Post_X1_take, minI, up2_ap, cpr_ap, vp1, vp2, vp3, vp4, vp5, vp6, vp20, vp40, vp50, vp60, vp160, vp264, tnc, nIX, nIc, tncA, tncS, tncM, l56, eqM_rfl, up2_row, InvF, InvF0, dF1, dF2, sw0, sw1, InvT]
def stR (r : Nat → Int32) : List Int32 → Prop
  | [] => True
  | x :: s => r s.length = x ∧ stR r s
theorem stR_u {r : Nat → Int32} {n : Nat} {v : Int32} : ∀ {s : List Int32}, stR r s → s.length ≤ n → stR (upd r n v) s
  | [], _, _ => trivial
  | x :: s, h, q => by
    rw [List.length_cons] at q
    exact ⟨by unfold upd; rw [if_neg (by omega)]; exact h.1, stR_u h.2 (by omega)⟩
theorem stR_l {r : Nat → Int32} : ∀ {s : List Int32}, stR r s → s ≠ [] → s.getLast? = some (r 0)
  | [], _, h => absurd rfl h
  | [x], h, _ => by have := h.1; simp at this; simp [this]
  | x :: y :: s, h, _ => by rw [List.getLast?_cons_cons]; exact stR_l h.2 (by simp)
theorem gsub (a b : Nat) (h1 : b ≤ a) (h2 : a < 100) : nI a - nI b = nI (a - b) := by
  have : nI (a - b) + nI b = nI a := by rw [nI_add]; congr 1; omega
  rw [← this]; grind
theorem gv134 {o k : Nat} {K : Fn → Int32 → Int32 → Int32 → Int32 → Int32 → Prop} {f : Fn} {x1 x2 x3 x : Int32} {st : List Int32} {post : Option Value → Fn → Prop} (np : ¬ isPartI x = 1) (hl : st.length ≤ k) (hk : k < 50) (hr : stR (f (o + 2)) st)
    (nxt : ∀ (f' : Fn) (st' : List Int32) (x4 : Int32), (∀ a, a ≠ o + 2 → f' a = f a) → st' = rpS x1 x2 x3 st x → st'.length ≤ k + 1 → stR (f' (o + 2)) st' → x4 = nI st'.length → K f' x1 x2 x3 x4 (nI k + 1)) (h33 : x = -33 → st.length < 1) : wp_X1_gives_L134 o K f x1 x2 x3 (nI st.length) (nI k) x post := by
  simp only [wp_X1_gives_L134, wp_X1_gives_L176]
  have n33 : ¬ (x = -33 ∧ 1 ≤ st.length) := fun hh => by have := h33 hh.1; omega
  match st, hl, hr, n33, nxt with
  | [], hl, hr, n33, nxt =>
    refine ⟨fun _ => nxt f [] _ (fun _ _ => rfl) ?_ (by simp) hr rfl, fun hh => absurd (by decide) hh⟩
    simp only [rpS, if_neg np, if_neg n33]
  | [a], hl, hr, n33, nxt =>
    refine ⟨fun _ => nxt f [a] _ (fun _ _ => rfl) ?_ (by simp) hr rfl, fun hh => absurd (show nI 1 < 2 by decide) hh⟩
    simp only [rpS, if_neg np, if_neg n33]
  | b :: a :: s, hl, hr, n33, nxt =>
    simp only [List.length_cons] at hl ⊢
    have hs1 : nI (s.length + 1 + 1) - 1 = nI (s.length + 1) := gsub _ 1 (by omega) (by omega)
    have hs2 : nI (s.length + 1 + 1) - 2 = nI s.length := gsub _ 2 (by omega) (by omega)
    have hs3 : nI (s.length + 1 + 1) + -1 = nI (s.length + 1) := by rw [← hs1]; grind
    rw [hs1, hs2, hs3, nI_clamp (by omega), nI_clamp (by omega)]
    refine ⟨fun hh => ?_, fun _ => ⟨vp_in_nI (by omega) (by omega), vp_in_nI (by omega) (by omega), vp_in_nI (by omega) (by omega), ?_⟩⟩
    · have : nI (s.length + 1 + 1) < nI 2 := hh
      rw [nI_ltI (by omega) (by decide)] at this
      omega
    · refine nxt _ (joinI a (-x) b :: s) _ (fun a ha => up2_row _ _ _ _ _ ha) ?_ (by simp; omega) ?_ (by rw [List.length_cons])
      · simp only [rpS, if_neg np, if_neg n33]
      · rw [up2_same]
        have r1 : f (o + 2) (s.length + 1) = b := hr.1
        have r2 : f (o + 2) s.length = a := hr.2.1
        exact ⟨by simp [upd, Val_X1_joined, r1, r2], stR_u hr.2.2 (Nat.le_refl _)⟩
theorem gv92 {o k : Nat} {K : Fn → Int32 → Int32 → Int32 → Int32 → Int32 → Prop} {f : Fn} {x1 x2 x3 x : Int32} {st : List Int32} {post : Option Value → Fn → Prop} (np : ¬ isPartI x = 1) (hl : st.length ≤ k) (hk : k < 50) (hr : stR (f (o + 2)) st)
    (nxt : ∀ (f' : Fn) (st' : List Int32) (x4 : Int32), (∀ a, a ≠ o + 2 → f' a = f a) → st' = rpS x1 x2 x3 st x → st'.length ≤ k + 1 → stR (f' (o + 2)) st' → x4 = nI st'.length → K f' x1 x2 x3 x4 (nI k + 1)) : wp_X1_gives_L92 o K f x1 x2 x3 (nI st.length) (nI k) x post := by
  simp only [wp_X1_gives_L92, wp_X1_gives_L130, wp_X1_gives_L176]
  refine ⟨fun h => gv134 np hl hk hr nxt fun e => absurd e h, fun h => ⟨fun h2 => gv134 np hl hk hr nxt fun _ => ?_, fun h2 => ?_⟩⟩
  · have : nI st.length < nI 1 := h2
    rw [nI_ltI (by omega) (by decide)] at this
    exact this
  · match st, hl, hr, nxt, h2 with
    | [], hl, hr, nxt, h2 => exact absurd (show nI 0 < 1 by decide) h2
    | a :: s, hl, hr, nxt, h2 =>
      simp only [List.length_cons] at hl ⊢
      have hs1 : nI (s.length + 1) - 1 = nI s.length := gsub _ 1 (by omega) (by omega)
      have r1 : f (o + 2) s.length = a := hr.1
      have e : rpS x1 x2 x3 (a :: s) x = (if a = 0 then 1 else 0) :: s := by subst h; exact rpNot _ _ _ _ _
      rw [hs1, nI_clamp (by omega), r1]
      have go : ∀ v : Int32, v = (if a = 0 then 1 else 0) → K (up2 f (o + 2) s.length v) x1 x2 x3 (nI (s.length + 1)) (nI k + 1) := fun v hv =>
        nxt _ (v :: s) _ (fun a ha => up2_row _ _ _ _ _ ha) (by rw [e, hv]) (by simp; omega) (by rw [up2_same]; exact ⟨by simp [upd], stR_u hr.2 (Nat.le_refl _)⟩) (by rw [List.length_cons])
      exact ⟨vp_in_nI (by omega) (by omega), fun h3 => ⟨vp_in_nI (by omega) (by omega), go 0 (by rw [if_neg h3])⟩, fun h3 => ⟨vp_in_nI (by omega) (by omega), go 1 (by rw [if_pos h3])⟩⟩
set_option maxHeartbeats 800000 in
theorem vc_X1_gives : vcS_X1_gives := by
  intro o f0 a1 a2 a3 ho
  simp only [wp_X1_gives, wp_X1_gives_L6]
  refine ⟨fun (f : Fn) (x1 x2 x3 x4 x5 : Int32) => x1 = a1 ∧ x2 = a2 ∧ x3 = a3 ∧ (∀ a, a ≠ o + 2 → f a = f0 a) ∧ ∃ (k : Nat) (st : List Int32), k ≤ 50 ∧ (k = 0 ∨ k ≤ (f0 o 5).toNatClampNeg) ∧ x5 = nI k ∧ st = rpn a1 a2 a3 (rowL (f0 (o + 1)) k) ∧ st.length ≤ k ∧ x4 = nI st.length ∧ stR (f (o + 2)) st, fun _ _ _ _ _ x5 => 100 - x5.toNatClampNeg, ⟨rfl, rfl, rfl, fun _ _ => rfl, 0, [], by omega, Or.inl rfl, rfl, rfl, Nat.le_refl _, rfl, trivial⟩, ?_⟩
  rintro f x1 x2 x3 x4 x5 ⟨rfl, rfl, rfl, hf, k, st, k50, kh, rfl, hst, hl, rfl, hr⟩
  have e0 : f o = f0 o := hf o (by omega)
  have e1 : f (o + 1) = f0 (o + 1) := hf _ (by omega)
  have fin : k = min (f0 o 5).toNatClampNeg 50 → wp_X1_gives_L182 o f x1 x2 (nI st.length) (pI (Post_X1_gives o f0 x1 x2 x3)) := by
    intro hk
    have q : lawV (f0 o) (f0 (o + 1)) x1 x2 x3 = maxI (f0 o 1) (minI (f0 o 2) (match st.getLast? with | some w => w | none => if f0 o 0 = 0 then x2 * 3 + 30 - x1 * 2 else 3 + x1 * 2)) := by
      unfold lawV; rw [← hk, ← hst]; rfl
    simp only [wp_X1_gives_L182, wp_X1_gives_L222, pI_iff, Val_J9_max_7cf53, Val_J9_min_7cf53, e0]
    unfold Post_X1_gives
    rw [q]
    refine ⟨fun h => ?_, fun h => ⟨?_, hf⟩⟩
    · have : st = [] := by
        rw [show (1 : Int32) = nI 1 from rfl, nI_ltI (by omega) (by omega)] at h
        exact List.eq_nil_of_length_eq_zero (by omega)
      subst this
      refine ⟨fun h2 => ⟨?_, hf⟩, fun h2 => ⟨?_, hf⟩⟩
      · simp only [List.getLast?_nil, if_pos h2]
      · simp only [List.getLast?_nil, if_neg h2]
    · have : st ≠ [] := by
        intro e
        rw [e] at h
        exact h (by decide)
      rw [stR_l hr this]
  simp only [wpb_X1_gives_L6, wp_X1_gives_L85, wp_X1_gives_L176, e0, e1]
  refine ⟨fun h => fin ?_, fun h => ⟨fun h2 => fin ?_, fun h2 => ?_⟩⟩
  · have := tncLe h
    rw [nI_clamp (by omega)] at this
    omega
  · have : nI 50 ≤ nI k := h2
    rw [nI_leI (by decide) (by omega)] at this
    omega
  · have hk : k < 50 := by
      have : ¬ nI 50 ≤ nI k := h2
      rw [nI_leI (by decide) (by omega)] at this
      omega
    have hk5 : k + 1 ≤ (f0 o 5).toNatClampNeg := by
      have h5 : nI k < f0 o 5 := by rw [← Int32.not_le]; exact h
      obtain ⟨j, j1, j2⟩ := nI_of (x := f0 o 5) (by intro h6; have : ¬ nI k < 0 := nI_pos (by omega); grind)
      rw [j2, nI_ltI (by omega) (by omega)] at h5
      rw [j2, nI_clamp (by omega)]
      omega
    rw [nI_clamp (by omega)]
    refine ⟨vp_in_nI hk (by omega), ?_⟩
    generalize hx : f0 (o + 1) k = x
    have step : rpn x1 x2 x3 (rowL (f0 (o + 1)) (k + 1)) = rpS x1 x2 x3 st x := by
      rw [rowL_s, hst, hx]
      unfold rpn
      rw [List.foldl_append]; rfl
    have nxt : ∀ (f' : Fn) (st' : List Int32) (x4 : Int32), (∀ a, a ≠ o + 2 → f' a = f0 a) → st' = rpS x1 x2 x3 st x → st'.length ≤ k + 1 → stR (f' (o + 2)) st' → x4 = nI st'.length → (x1 = x1 ∧ x2 = x2 ∧ x3 = x3 ∧ (∀ a, a ≠ o + 2 → f' a = f0 a) ∧ ∃ (k9 : Nat) (st : List Int32), k9 ≤ 50 ∧ (k9 = 0 ∨ k9 ≤ (f0 o 5).toNatClampNeg) ∧ nI k + 1 = nI k9 ∧ st = rpn x1 x2 x3 (rowL (f0 (o + 1)) k9) ∧ st.length ≤ k9 ∧ x4 = nI st.length ∧ stR (f' (o + 2)) st) ∧ 100 - (nI k + 1).toNatClampNeg < 100 - k := by
      intro f' st' x4 h1 h2 h3 h4 h5
      refine ⟨⟨rfl, rfl, rfl, h1, k + 1, st', by omega, Or.inr hk5, by rw [nI_1], by rw [step]; exact h2, h3, h5, h4⟩, ?_⟩
      rw [nI_1, nI_clamp (by omega)]; omega
    have fu : ∀ j v, ∀ a, a ≠ o + 2 → up2 f (o + 2) j v a = f0 a := fun j v a ha => by rw [up2_row _ _ _ _ _ ha]; exact hf a ha
    have push : ∀ v, rpS x1 x2 x3 st x = v :: st → (vp_in (nI st.length) 50 ∧ (True ∧ True ∧ True ∧ (∀ a, a ≠ o + 2 → up2 f (o + 2) (nI st.length).toNatClampNeg v a = f0 a) ∧ ∃ (k9 : Nat) (st9 : List Int32), k9 ≤ 50 ∧ (k9 = 0 ∨ k9 ≤ (f0 o 5).toNatClampNeg) ∧ nI k + 1 = nI k9 ∧ st9 = rpn x1 x2 x3 (rowL (f0 (o + 1)) k9) ∧ st9.length ≤ k9 ∧ nI st.length + 1 = nI st9.length ∧ stR (up2 f (o + 2) (nI st.length).toNatClampNeg v (o + 2)) st9) ∧ 100 - (nI k + 1).toNatClampNeg < 100 - k) := by
      intro v hv
      have q := nxt (up2 f (o + 2) (nI st.length).toNatClampNeg v) (v :: st) (nI st.length + 1) (fu _ _) hv.symm (by rw [List.length_cons]; omega) ?_ (by rw [nI_1, List.length_cons])
      · exact ⟨vp_in_nI (by omega) (by omega), ⟨trivial, trivial, trivial, q.1.2.2.2⟩, q.2⟩
      rw [nI_clamp (by omega), up2_same]
      exact ⟨by simp [upd], stR_u hr (Nat.le_refl _)⟩
    have part : isPartI x = 1 → rpS x1 x2 x3 st x = (if 0 ≤ x then x else if x = -107 then x1 else if x = -118 then x2 else x3) :: st := fun hp => rpPart x1 x2 x3 hp st
    refine ⟨fun h3 => ?_, fun h3 => ⟨fun h4 => ?_, fun h4 => ⟨fun h5 => ⟨fun h6 => ⟨fun h7 => ?_, fun h7 => ?_⟩, fun h6 => ?_⟩, fun h5 => ?_⟩⟩⟩
    · have np : ¬ isPartI x = 1 := by
        have h3' : isPartI x = 0 := h3
        rw [h3']; decide
      exact gv92 np hl hk hr fun f' st' x4 h1 h2 h3 h4 h5 => nxt f' st' x4 (fun a ha => (h1 a ha).trans (hf a ha)) h2 h3 h4 h5
    · exact absurd h4 (by
        intro h5
        have : nI 50 ≤ nI st.length := h5
        rw [nI_leI (by decide) (by omega)] at this
        omega)
    · have hp : isPartI x = 1 := by
        have h3' : ¬ isPartI x = 0 := h3
        unfold isPartI at h3' ⊢; split at h3' <;> simp_all
      exact push _ (by rw [part hp, if_neg (Int32.not_le.mpr h5), if_neg h6, if_neg h7])
    · have hp : isPartI x = 1 := by
        have h3' : ¬ isPartI x = 0 := h3
        unfold isPartI at h3' ⊢; split at h3' <;> simp_all
      exact push _ (by rw [part hp, if_neg (Int32.not_le.mpr h5), if_neg h6, if_pos h7])
    · have hp : isPartI x = 1 := by
        have h3' : ¬ isPartI x = 0 := h3
        unfold isPartI at h3' ⊢; split at h3' <;> simp_all
      exact push _ (by rw [part hp, if_neg (Int32.not_le.mpr h5), if_pos h6])
    · have hp : isPartI x = 1 := by
        have h3' : ¬ isPartI x = 0 := h3
        unfold isPartI at h3' ⊢; split at h3' <;> simp_all
      exact push _ (by rw [part hp, if_pos (Int32.not_lt.mp h5)])
set_option maxHeartbeats 200000 in
theorem vc_X3_isMissing : vcS_X3_isMissing := by
  unfold vcS_X3_isMissing
  simp only [wp_X3_isMissing, pI_iff, pV_iff, pL_iff, Val_X3_isMissing, tn0, tn1, tn2, tn3, tn4, tn5, tn6, tn7, tn8, tn9, tn10, tn12, tn18, tn40, tn50, tn60, tn90, tn92, tn112, tn212, tnn1, ni0, ni1, ni2, ni3, ni4, ni5, ni6, ni7, er1, er2, er3, er4, er5, lg_cmp_lt, lg_cmp_le, lg_cmp_gt, lg_cmp_ge, lg_cmp_eq]
  intros
  (repeat' (first | with_reducible apply And.intro | with_reducible intro _)) <;> (try first | apply pR_some | apply pR_none) <;> first | grind [Val_X3_isMissing, up2_ap, cpr_ap, vp1, vp2, vp3, vp4, vp5, vp6, vp20, vp40, vp50, vp60, vp160, vp264, tnc, nIX, nIc, tncA, tncS, tncM, l56, eqM_rfl, up2_row, InvF, InvF0, dF1, dF2, sw0, sw1, InvT]
set_option maxHeartbeats 600000 in
theorem vc_X3_begin : vcS_X3_begin := by
  intro o f0 a1 a2 ho
  have key : ∀ (f : Fn) (post : Option Value → Fn → Prop), (∀ f1 : Fn, (∀ a j, f1 a j = if a = o + 1 then (if j < 40 then 0 else f (o + 1) j) else f a j) → post none f1) → wp_X3_begin_L29 o f 0 post := by
    intro f post hp
    refine ⟨fun (f1 : Fn) (x3 : Int32) => 0 ≤ x3 ∧ x3 ≤ 40 ∧ ∀ a j, f1 a j = if a = o + 1 then (if j < x3.toNatClampNeg then 0 else f (o + 1) j) else f a j, fun _ x3 => 41 - x3.toNatClampNeg, ?_, ?_⟩
    · grind
    · intro f1 x3 hI
      simp only [wpb_X3_begin_L29]
      (repeat' (first | with_reducible apply And.intro | with_reducible intro _))
      · exact hp f1 (by grind [tnc])
      · grind [vp40]
      · grind
      · grind
      · grind [tn1e, up2_ap, tnc]
      · grind [tn1e, tnc]
  simp only [wp_X3_begin, wp_X3_begin_L24]
  refine ⟨fun h => key _ _ fun f1 h1 => ?_, fun h => key _ _ fun f1 h1 => ?_⟩
  · rw [pV_iff]
    refine Fx fun a j => ?_
    rw [h1]
    grind [up2_ap, upd, maxI, minI, Val_J9_max_7cf53, Val_J9_min_7cf53]
  · rw [pV_iff]
    refine Fx fun a j => ?_
    rw [h1]
    grind [up2_ap, upd]
set_option maxHeartbeats 200000 in
theorem vc_X3_write : vcS_X3_write := by
  unfold vcS_X3_write
  simp only [wp_X3_write_L46, wp_X3_write, pI_iff, pV_iff, pL_iff, Post_X3_write, Pre_X3_write, tn0, tn1, tn2, tn3, tn4, tn5, tn6, tn7, tn8, tn9, tn10, tn12, tn18, tn40, tn50, tn60, tn90, tn92, tn112, tn212, tnn1, ni0, ni1, ni2, ni3, ni4, ni5, ni6, ni7, er1, er2, er3, er4, er5, lg_cmp_lt, lg_cmp_le, lg_cmp_gt, lg_cmp_ge, lg_cmp_eq]
  intros
  (repeat' (first | with_reducible apply And.intro | with_reducible intro _)) <;> (try first | apply pR_some | apply pR_none) <;> first | grind [up2_ap, cpr_ap, vp1, vp2, vp3, vp4, vp5, vp6, vp20, vp40, vp50, vp60, vp160, vp264, tnc, nIX, nIc, tncA, tncS, tncM, l56, eqM_rfl, up2_row, InvF, InvF0, dF1, dF2, sw0, sw1, InvT]
set_option maxHeartbeats 200000 in
theorem vc_X3_read : vcS_X3_read := by
  unfold vcS_X3_read
  simp only [wp_X3_read, pI_iff, pV_iff, pL_iff, Val_X3_read, Pre_X3_read, tn0, tn1, tn2, tn3, tn4, tn5, tn6, tn7, tn8, tn9, tn10, tn12, tn18, tn40, tn50, tn60, tn90, tn92, tn112, tn212, tnn1, ni0, ni1, ni2, ni3, ni4, ni5, ni6, ni7, er1, er2, er3, er4, er5, lg_cmp_lt, lg_cmp_le, lg_cmp_gt, lg_cmp_ge, lg_cmp_eq]
  intros
  (repeat' (first | with_reducible apply And.intro | with_reducible intro _)) <;> (try first | apply pR_some | apply pR_none) <;> first | grind [Val_X3_read, up2_ap, cpr_ap, vp1, vp2, vp3, vp4, vp5, vp6, vp20, vp40, vp50, vp60, vp160, vp264, tnc, nIX, nIc, tncA, tncS, tncM, l56, eqM_rfl, up2_row, InvF, InvF0, dF1, dF2, sw0, sw1, InvT]
set_option maxHeartbeats 200000 in
theorem vc_X3_hasRow : vcS_X3_hasRow := by
  unfold vcS_X3_hasRow
  simp only [wp_X3_hasRow, pI_iff, pV_iff, pL_iff, Val_X3_hasRow, tn0, tn1, tn2, tn3, tn4, tn5, tn6, tn7, tn8, tn9, tn10, tn12, tn18, tn40, tn50, tn60, tn90, tn92, tn112, tn212, tnn1, ni0, ni1, ni2, ni3, ni4, ni5, ni6, ni7, er1, er2, er3, er4, er5, lg_cmp_lt, lg_cmp_le, lg_cmp_gt, lg_cmp_ge, lg_cmp_eq]
  intros
  (repeat' (first | with_reducible apply And.intro | with_reducible intro _)) <;> (try first | apply pR_some | apply pR_none) <;> first | grind [Val_X3_hasRow, up2_ap, cpr_ap, vp1, vp2, vp3, vp4, vp5, vp6, vp20, vp40, vp50, vp60, vp160, vp264, tnc, nIX, nIc, tncA, tncS, tncM, l56, eqM_rfl, up2_row, InvF, InvF0, dF1, dF2, sw0, sw1, InvT]
theorem VCt_l1 : VC_l1 := ⟨vc_J9_abs_0f7a4, vc_J9_max_7cf53, vc_J9_min_7cf53, vc_J9_floorMod_7cf53, vc_X8_within, vc_X0_kindAbove, vc_X0_take, vc_X0_begin, vc_X0_isOf, vc_X0_lag, vc_X0_holds, vc_X0_harm, vc_X0_copy, vc_X4_takes, vc_X4_change, vc_X4_placeAt, vc_X4_copy, vc_X1_isPart, vc_X1_joined, vc_X1_take, vc_X1_copy, vc_X1_gives, vc_X3_isMissing, vc_X3_begin, vc_X3_write, vc_X3_read, vc_X3_hasRow, trivial⟩
