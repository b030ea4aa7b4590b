set_option maxHeartbeats 200000 in
theorem vc_X9_finds : vcS_X9_finds := by
  unfold vcS_X9_finds
  simp only [wp_X9_finds, pI_iff, pV_iff, pL_iff, Post_X9_finds, Pre_X9_finds, tn0, tn1, tn2, tn3, tn4, tn5, tn6, tn7, tn8, tn9, tn10, tn12, tn18, tn40, tn50, tn60, tn90, tn92, tn112, tn212, tnn1, ni0, ni1, ni2, ni3, ni4, ni5, ni6, ni7, er1, er2, er3, er4, er5, lg_cmp_lt, lg_cmp_le, lg_cmp_gt, lg_cmp_ge, lg_cmp_eq, in_m99_299, in_0_1, in_0_19999, in_0_2, in_0_200, in_0_3, in_0_30, in_0_4, in_0_6, in_0_60, in_0_69, in_0_9, in_0_99, in_1_200, in_1_3, in_1_40, in_1_5, in_1_60, in_1_8, in_4_40, in_0e]
  intros
  (repeat' (first | with_reducible apply And.intro | with_reducible intro _)) <;> (try first | apply pR_some | apply pR_none) <;> first | grind [up2_ap, cpr_ap, vp1, vp2, vp3, vp4, vp5, vp6, vp20, vp40, vp50, vp60, vp160, vp264, tnc, nIX, nIc, tncA, tncS, tncM, l56, eqM_rfl, up2_row, InvF, InvF0, dF1, dF2, sw0, sw1, InvT] | sorry

set_option maxHeartbeats 200000 in
theorem vc_X9_in : vcS_X9_in := by
  unfold vcS_X9_in
  simp only [wp_X9_in, pI_iff, pV_iff, pL_iff, Val_X9_in, tn0, tn1, tn2, tn3, tn4, tn5, tn6, tn7, tn8, tn9, tn10, tn12, tn18, tn40, tn50, tn60, tn90, tn92, tn112, tn212, tnn1, ni0, ni1, ni2, ni3, ni4, ni5, ni6, ni7, er1, er2, er3, er4, er5, lg_cmp_lt, lg_cmp_le, lg_cmp_gt, lg_cmp_ge, lg_cmp_eq, in_m99_299, in_0_1, in_0_19999, in_0_2, in_0_200, in_0_3, in_0_30, in_0_4, in_0_6, in_0_60, in_0_69, in_0_9, in_0_99, in_1_200, in_1_3, in_1_40, in_1_5, in_1_60, in_1_8, in_4_40, in_0e]
  intros
  (repeat' (first | with_reducible apply And.intro | with_reducible intro _)) <;> (try first | apply pR_some | apply pR_none) <;> first | grind [Val_X9_in, up2_ap, cpr_ap, vp1, vp2, vp3, vp4, vp5, vp6, vp20, vp40, vp50, vp60, vp160, vp264, tnc, nIX, nIc, tncA, tncS, tncM, l56, eqM_rfl, up2_row, InvF, InvF0, dF1, dF2, sw0, sw1, InvT] | sorry

set_option maxHeartbeats 200000 in
theorem vc_X9_held : vcS_X9_held := by
  unfold vcS_X9_held
  simp only [wp_X9_held, pI_iff, pV_iff, pL_iff, Val_X9_held, tn0, tn1, tn2, tn3, tn4, tn5, tn6, tn7, tn8, tn9, tn10, tn12, tn18, tn40, tn50, tn60, tn90, tn92, tn112, tn212, tnn1, ni0, ni1, ni2, ni3, ni4, ni5, ni6, ni7, er1, er2, er3, er4, er5, lg_cmp_lt, lg_cmp_le, lg_cmp_gt, lg_cmp_ge, lg_cmp_eq, in_m99_299, in_0_1, in_0_19999, in_0_2, in_0_200, in_0_3, in_0_30, in_0_4, in_0_6, in_0_60, in_0_69, in_0_9, in_0_99, in_1_200, in_1_3, in_1_40, in_1_5, in_1_60, in_1_8, in_4_40, in_0e]
  intros
  (repeat' (first | with_reducible apply And.intro | with_reducible intro _)) <;> (try first | apply pR_some | apply pR_none) <;> first | grind [Val_X9_held, heldI, up2_ap, cpr_ap, vp1, vp2, vp3, vp4, vp5, vp6, vp20, vp40, vp50, vp60, vp160, vp264, tnc, nIX, nIc, tncA, tncS, tncM, l56, eqM_rfl, up2_row, InvF, InvF0, dF1, dF2, sw0, sw1, InvT] | sorry

set_option maxHeartbeats 200000 in
theorem vc_X9_isFlyer : vcS_X9_isFlyer := by
  unfold vcS_X9_isFlyer
  simp only [wp_X9_isFlyer, pI_iff, pV_iff, pL_iff, Val_X9_isFlyer, tn0, tn1, tn2, tn3, tn4, tn5, tn6, tn7, tn8, tn9, tn10, tn12, tn18, tn40, tn50, tn60, tn90, tn92, tn112, tn212, tnn1, ni0, ni1, ni2, ni3, ni4, ni5, ni6, ni7, er1, er2, er3, er4, er5, lg_cmp_lt, lg_cmp_le, lg_cmp_gt, lg_cmp_ge, lg_cmp_eq, in_m99_299, in_0_1, in_0_19999, in_0_2, in_0_200, in_0_3, in_0_30, in_0_4, in_0_6, in_0_60, in_0_69, in_0_9, in_0_99, in_1_200, in_1_3, in_1_40, in_1_5, in_1_60, in_1_8, in_4_40, in_0e]
  intros
  (repeat' (first | with_reducible apply And.intro | with_reducible intro _)) <;> (try first | apply pR_some | apply pR_none) <;> first | grind [Val_X9_isFlyer, Val_X9_in, up2_ap, cpr_ap, vp1, vp2, vp3, vp4, vp5, vp6, vp20, vp40, vp50, vp60, vp160, vp264, tnc, nIX, nIc, tncA, tncS, tncM, l56, eqM_rfl, up2_row, InvF, InvF0, dF1, dF2, sw0, sw1, InvT] | sorry

set_option maxHeartbeats 200000 in
theorem vc_X9_of : vcS_X9_of := by
  unfold vcS_X9_of
  simp only [wp_X9_of, pI_iff, pV_iff, pL_iff, Val_X9_of, Pre_X9_of, tn0, tn1, tn2, tn3, tn4, tn5, tn6, tn7, tn8, tn9, tn10, tn12, tn18, tn40, tn50, tn60, tn90, tn92, tn112, tn212, tnn1, ni0, ni1, ni2, ni3, ni4, ni5, ni6, ni7, er1, er2, er3, er4, er5, lg_cmp_lt, lg_cmp_le, lg_cmp_gt, lg_cmp_ge, lg_cmp_eq, in_m99_299, in_0_1, in_0_19999, in_0_2, in_0_200, in_0_3, in_0_30, in_0_4, in_0_6, in_0_60, in_0_69, in_0_9, in_0_99, in_1_200, in_1_3, in_1_40, in_1_5, in_1_60, in_1_8, in_4_40, in_0e]
  intros
  (repeat' (first | with_reducible apply And.intro | with_reducible intro _)) <;> (try first | apply pR_some | apply pR_none) <;> first | grind [Val_X9_of, fl4, up2_ap, cpr_ap, vp1, vp2, vp3, vp4, vp5, vp6, vp20, vp40, vp50, vp60, vp160, vp264, tnc, nIX, nIc, tncA, tncS, tncM, l56, eqM_rfl, up2_row, InvF, InvF0, dF1, dF2, sw0, sw1, InvT] | sorry

set_option maxHeartbeats 200000 in
theorem vc_X9_sets : vcS_X9_sets := by
  unfold vcS_X9_sets
  simp only [wp_X9_sets, pI_iff, pV_iff, pL_iff, Post_X9_sets, Pre_X9_sets, tn0, tn1, tn2, tn3, tn4, tn5, tn6, tn7, tn8, tn9, tn10, tn12, tn18, tn40, tn50, tn60, tn90, tn92, tn112, tn212, tnn1, ni0, ni1, ni2, ni3, ni4, ni5, ni6, ni7, er1, er2, er3, er4, er5, lg_cmp_lt, lg_cmp_le, lg_cmp_gt, lg_cmp_ge, lg_cmp_eq, in_m99_299, in_0_1, in_0_19999, in_0_2, in_0_200, in_0_3, in_0_30, in_0_4, in_0_6, in_0_60, in_0_69, in_0_9, in_0_99, in_1_200, in_1_3, in_1_40, in_1_5, in_1_60, in_1_8, in_4_40, in_0e]
  intros
  (repeat' (first | with_reducible apply And.intro | with_reducible intro _)) <;> (try first | apply pR_some | apply pR_none) <;> first | grind [fl4, up2_ap, cpr_ap, vp1, vp2, vp3, vp4, vp5, vp6, vp20, vp40, vp50, vp60, vp160, vp264, tnc, nIX, nIc, tncA, tncS, tncM, l56, eqM_rfl, up2_row, InvF, InvF0, dF1, dF2, sw0, sw1, InvT] | sorry

set_option maxHeartbeats 200000 in
theorem vc_X9_here : vcS_X9_here := by
  unfold vcS_X9_here
  simp only [wp_X9_here, pI_iff, pV_iff, pL_iff, Val_X9_here, Pre_X9_here, tn0, tn1, tn2, tn3, tn4, tn5, tn6, tn7, tn8, tn9, tn10, tn12, tn18, tn40, tn50, tn60, tn90, tn92, tn112, tn212, tnn1, ni0, ni1, ni2, ni3, ni4, ni5, ni6, ni7, er1, er2, er3, er4, er5, lg_cmp_lt, lg_cmp_le, lg_cmp_gt, lg_cmp_ge, lg_cmp_eq, in_m99_299, in_0_1, in_0_19999, in_0_2, in_0_200, in_0_3, in_0_30, in_0_4, in_0_6, in_0_60, in_0_69, in_0_9, in_0_99, in_1_200, in_1_3, in_1_40, in_1_5, in_1_60, in_1_8, in_4_40, in_0e]
  intros
  (repeat' (first | with_reducible apply And.intro | with_reducible intro _)) <;> (try first | apply pR_some | apply pR_none) <;> first | grind [Val_X9_here, up2_ap, cpr_ap, vp1, vp2, vp3, vp4, vp5, vp6, vp20, vp40, vp50, vp60, vp160, vp264, tnc, nIX, nIc, tncA, tncS, tncM, l56, eqM_rfl, up2_row, InvF, InvF0, dF1, dF2, sw0, sw1, InvT] | sorry

set_option maxHeartbeats 200000 in
theorem vc_X9_wrong : vcS_X9_wrong := by
  unfold vcS_X9_wrong
  simp only [wp_X9_wrong_L19, wp_X9_wrong, pI_iff, pV_iff, pL_iff, Post_X9_wrong, tn0, tn1, tn2, tn3, tn4, tn5, tn6, tn7, tn8, tn9, tn10, tn12, tn18, tn40, tn50, tn60, tn90, tn92, tn112, tn212, tnn1, ni0, ni1, ni2, ni3, ni4, ni5, ni6, ni7, er1, er2, er3, er4, er5, lg_cmp_lt, lg_cmp_le, lg_cmp_gt, lg_cmp_ge, lg_cmp_eq, in_m99_299, in_0_1, in_0_19999, in_0_2, in_0_200, in_0_3, in_0_30, in_0_4, in_0_6, in_0_60, in_0_69, in_0_9, in_0_99, in_1_200, in_1_3, in_1_40, in_1_5, in_1_60, in_1_8, in_4_40, in_0e]
  intros
  (repeat' (first | with_reducible apply And.intro | with_reducible intro _)) <;> (try first | apply pR_some | apply pR_none) <;> first | grind [up2_ap, cpr_ap, vp1, vp2, vp3, vp4, vp5, vp6, vp20, vp40, vp50, vp60, vp160, vp264, tnc, nIX, nIc, tncA, tncS, tncM, l56, eqM_rfl, up2_row, InvF, InvF0, dF1, dF2, sw0, sw1, InvT] | sorry

set_option maxHeartbeats 200000 in
theorem vc_X9_takes : vcS_X9_takes := by
  unfold vcS_X9_takes
  simp only [wp_X9_takes, pI_iff, pV_iff, pL_iff, Post_X9_takes, Pre_X9_takes, tn0, tn1, tn2, tn3, tn4, tn5, tn6, tn7, tn8, tn9, tn10, tn12, tn18, tn40, tn50, tn60, tn90, tn92, tn112, tn212, tnn1, ni0, ni1, ni2, ni3, ni4, ni5, ni6, ni7, er1, er2, er3, er4, er5, lg_cmp_lt, lg_cmp_le, lg_cmp_gt, lg_cmp_ge, lg_cmp_eq, in_m99_299, in_0_1, in_0_19999, in_0_2, in_0_200, in_0_3, in_0_30, in_0_4, in_0_6, in_0_60, in_0_69, in_0_9, in_0_99, in_1_200, in_1_3, in_1_40, in_1_5, in_1_60, in_1_8, in_4_40, in_0e]
  intros
  (repeat' (first | with_reducible apply And.intro | with_reducible intro _)) <;> (try first | apply pR_some | apply pR_none) <;> first | grind [Val_X9_here, Pre_X9_here, up2_ap, cpr_ap, vp1, vp2, vp3, vp4, vp5, vp6, vp20, vp40, vp50, vp60, vp160, vp264, tnc, nIX, nIc, tncA, tncS, tncM, l56, eqM_rfl, up2_row, InvF, InvF0, dF1, dF2, sw0, sw1, InvT] | sorry

set_option maxHeartbeats 200000 in
theorem vc_X9_nameOf : vcS_X9_nameOf := by
  unfold vcS_X9_nameOf
  simp only [wp_X9_nameOf, pI_iff, pV_iff, pL_iff, Val_X9_nameOf, tn0, tn1, tn2, tn3, tn4, tn5, tn6, tn7, tn8, tn9, tn10, tn12, tn18, tn40, tn50, tn60, tn90, tn92, tn112, tn212, tnn1, ni0, ni1, ni2, ni3, ni4, ni5, ni6, ni7, er1, er2, er3, er4, er5, lg_cmp_lt, lg_cmp_le, lg_cmp_gt, lg_cmp_ge, lg_cmp_eq, in_m99_299, in_0_1, in_0_19999, in_0_2, in_0_200, in_0_3, in_0_30, in_0_4, in_0_6, in_0_60, in_0_69, in_0_9, in_0_99, in_1_200, in_1_3, in_1_40, in_1_5, in_1_60, in_1_8, in_4_40, in_0e]
  intros
  (repeat' (first | with_reducible apply And.intro | with_reducible intro _)) <;> (try first | apply pR_some | apply pR_none) <;> first | grind [Val_X9_nameOf, up2_ap, cpr_ap, vp1, vp2, vp3, vp4, vp5, vp6, vp20, vp40, vp50, vp60, vp160, vp264, tnc, nIX, nIc, tncA, tncS, tncM, l56, eqM_rfl, up2_row, InvF, InvF0, dF1, dF2, sw0, sw1, InvT] | sorry

set_option maxHeartbeats 200000 in
theorem vc_X9_worked : vcS_X9_worked := by
  unfold vcS_X9_worked
  simp only [wp_X9_worked, pI_iff, pV_iff, pL_iff, Post_X9_worked, Pre_X9_worked, tn0, tn1, tn2, tn3, tn4, tn5, tn6, tn7, tn8, tn9, tn10, tn12, tn18, tn40, tn50, tn60, tn90, tn92, tn112, tn212, tnn1, ni0, ni1, ni2, ni3, ni4, ni5, ni6, ni7, er1, er2, er3, er4, er5, lg_cmp_lt, lg_cmp_le, lg_cmp_gt, lg_cmp_ge, lg_cmp_eq, in_m99_299, in_0_1, in_0_19999, in_0_2, in_0_200, in_0_3, in_0_30, in_0_4, in_0_6, in_0_60, in_0_69, in_0_9, in_0_99, in_1_200, in_1_3, in_1_40, in_1_5, in_1_60, in_1_8, in_4_40, in_0e]
  intros
  (repeat' (first | with_reducible apply And.intro | with_reducible intro _)) <;> (try first | apply pR_some | apply pR_none) <;> first | grind [pT, evS, rpS, joinI, remI, isPartI, Post_X9_wrong, Post_X9_either, pmPost, fuelR, pmAt, Pre_X9_either, pmPre, up2_ap, cpr_ap, vp1, vp2, vp3, vp4, vp5, vp6, vp20, vp40, vp50, vp60, vp160, vp264, tnc, nIX, nIc, tncA, tncS, tncM, l56, eqM_rfl, up2_row, InvF, InvF0, dF1, dF2, sw0, sw1, InvT] | sorry

set_option maxHeartbeats 200000 in
theorem vc_X9_textGives : vcS_X9_textGives := by
  unfold vcS_X9_textGives
  simp only [wp_X9_textGives_L81, wp_X9_textGives_L22, wp_X9_textGives, pI_iff, pV_iff, pL_iff, Post_X9_textGives, Pre_X9_textGives, tn0, tn1, tn2, tn3, tn4, tn5, tn6, tn7, tn8, tn9, tn10, tn12, tn18, tn40, tn50, tn60, tn90, tn92, tn112, tn212, tnn1, ni0, ni1, ni2, ni3, ni4, ni5, ni6, ni7, er1, er2, er3, er4, er5, lg_cmp_lt, lg_cmp_le, lg_cmp_gt, lg_cmp_ge, lg_cmp_eq, in_m99_299, in_0_1, in_0_19999, in_0_2, in_0_200, in_0_3, in_0_30, in_0_4, in_0_6, in_0_60, in_0_69, in_0_9, in_0_99, in_1_200, in_1_3, in_1_40, in_1_5, in_1_60, in_1_8, in_4_40, in_0e]
  intros
  (repeat' (first | with_reducible apply And.intro | with_reducible intro _)) <;> (try first | apply pR_some | apply pR_none) <;> first | grind [txb, pT, frT, lawHi, lawLo, rpn, rpS, joinI, remI, isPartI, heldI, Val_X9_held, Post_X9_worked, evS, Pre_X9_worked, up2_ap, cpr_ap, vp1, vp2, vp3, vp4, vp5, vp6, vp20, vp40, vp50, vp60, vp160, vp264, tnc, nIX, nIc, tncA, tncS, tncM, l56, eqM_rfl, up2_row, InvF, InvF0, dF1, dF2, sw0, sw1, InvT] | sorry

set_option maxHeartbeats 200000 in
theorem vc_X9_law : vcS_X9_law := by
  unfold vcS_X9_law
  simp only [wp_X9_law, pI_iff, pV_iff, pL_iff, Post_X9_law, Pre_X9_law, tn0, tn1, tn2, tn3, tn4, tn5, tn6, tn7, tn8, tn9, tn10, tn12, tn18, tn40, tn50, tn60, tn90, tn92, tn112, tn212, tnn1, ni0, ni1, ni2, ni3, ni4, ni5, ni6, ni7, er1, er2, er3, er4, er5, lg_cmp_lt, lg_cmp_le, lg_cmp_gt, lg_cmp_ge, lg_cmp_eq, in_m99_299, in_0_1, in_0_19999, in_0_2, in_0_200, in_0_3, in_0_30, in_0_4, in_0_6, in_0_60, in_0_69, in_0_9, in_0_99, in_1_200, in_1_3, in_1_40, in_1_5, in_1_60, in_1_8, in_4_40, in_0e, RE_law]
  intros
  (repeat' (first | with_reducible apply And.intro | with_reducible intro _)) <;> (try first | apply pR_some | apply pR_none) <;> first | grind [txb, pT, lawHi, lawLo, rpn, rpS, joinI, remI, isPartI, heldI, eqM, Post_X9_textGives, frT, Pre_X9_textGives, Val_X9_in, Post_X9_finds, Pre_X9_finds, up2_ap, cpr_ap, vp1, vp2, vp3, vp4, vp5, vp6, vp20, vp40, vp50, vp60, vp160, vp264, tnc, nIX, nIc, tncA, tncS, tncM, l56, eqM_rfl, up2_row, InvF, InvF0, dF1, dF2, sw0, sw1, InvT] | sorry

set_option maxHeartbeats 200000 in
theorem vc_X9_isSwing : vcS_X9_isSwing := by
  unfold vcS_X9_isSwing
  simp only [wp_X9_isSwing, pI_iff, pV_iff, pL_iff, Val_X9_isSwing, tn0, tn1, tn2, tn3, tn4, tn5, tn6, tn7, tn8, tn9, tn10, tn12, tn18, tn40, tn50, tn60, tn90, tn92, tn112, tn212, tnn1, ni0, ni1, ni2, ni3, ni4, ni5, ni6, ni7, er1, er2, er3, er4, er5, lg_cmp_lt, lg_cmp_le, lg_cmp_gt, lg_cmp_ge, lg_cmp_eq, in_m99_299, in_0_1, in_0_19999, in_0_2, in_0_200, in_0_3, in_0_30, in_0_4, in_0_6, in_0_60, in_0_69, in_0_9, in_0_99, in_1_200, in_1_3, in_1_40, in_1_5, in_1_60, in_1_8, in_4_40, in_0e]
  intros
  (repeat' (first | with_reducible apply And.intro | with_reducible intro _)) <;> (try first | apply pR_some | apply pR_none) <;> first | grind [Val_X9_isSwing, Val_X9_in, up2_ap, cpr_ap, vp1, vp2, vp3, vp4, vp5, vp6, vp20, vp40, vp50, vp60, vp160, vp264, tnc, nIX, nIc, tncA, tncS, tncM, l56, eqM_rfl, up2_row, InvF, InvF0, dF1, dF2, sw0, sw1, InvT] | sorry

set_option maxHeartbeats 200000 in
theorem vc_X9_barOf : vcS_X9_barOf := by
  unfold vcS_X9_barOf
  simp only [wp_X9_barOf_L86, wp_X9_barOf_L58, wp_X9_barOf, pI_iff, pV_iff, pL_iff, Val_X9_barOf, Pre_X9_barOf, tn0, tn1, tn2, tn3, tn4, tn5, tn6, tn7, tn8, tn9, tn10, tn12, tn18, tn40, tn50, tn60, tn90, tn92, tn112, tn212, tnn1, ni0, ni1, ni2, ni3, ni4, ni5, ni6, ni7, er1, er2, er3, er4, er5, lg_cmp_lt, lg_cmp_le, lg_cmp_gt, lg_cmp_ge, lg_cmp_eq, in_m99_299, in_0_1, in_0_19999, in_0_2, in_0_200, in_0_3, in_0_30, in_0_4, in_0_6, in_0_60, in_0_69, in_0_9, in_0_99, in_1_200, in_1_3, in_1_40, in_1_5, in_1_60, in_1_8, in_4_40, in_0e]
  intros
  (repeat' (first | with_reducible apply And.intro | with_reducible intro _)) <;> (try first | apply pR_some | apply pR_none) <;> first | grind [Val_X9_barOf, sw3, tri, fmodI, remI, absI, up2_ap, cpr_ap, vp1, vp2, vp3, vp4, vp5, vp6, vp20, vp40, vp50, vp60, vp160, vp264, tnc, nIX, nIc, tncA, tncS, tncM, l56, eqM_rfl, up2_row, InvF, InvF0, dF1, dF2, sw0, sw1, InvT] | sorry

set_option maxHeartbeats 200000 in
theorem vc_X9_catcherAt : vcS_X9_catcherAt := by
  unfold vcS_X9_catcherAt
  simp only [wp_X9_catcherAt, pI_iff, pV_iff, pL_iff, Val_X9_catcherAt, Pre_X9_catcherAt, tn0, tn1, tn2, tn3, tn4, tn5, tn6, tn7, tn8, tn9, tn10, tn12, tn18, tn40, tn50, tn60, tn90, tn92, tn112, tn212, tnn1, ni0, ni1, ni2, ni3, ni4, ni5, ni6, ni7, er1, er2, er3, er4, er5, lg_cmp_lt, lg_cmp_le, lg_cmp_gt, lg_cmp_ge, lg_cmp_eq, in_m99_299, in_0_1, in_0_19999, in_0_2, in_0_200, in_0_3, in_0_30, in_0_4, in_0_6, in_0_60, in_0_69, in_0_9, in_0_99, in_1_200, in_1_3, in_1_40, in_1_5, in_1_60, in_1_8, in_4_40, in_0e]
  intros
  (repeat' (first | with_reducible apply And.intro | with_reducible intro _)) <;> (try first | apply pR_some | apply pR_none) <;> first | grind [Val_X9_catcherAt, sw3, tri, fmodI, remI, absI, Val_X9_barOf, Pre_X9_barOf, up2_ap, cpr_ap, vp1, vp2, vp3, vp4, vp5, vp6, vp20, vp40, vp50, vp60, vp160, vp264, tnc, nIX, nIc, tncA, tncS, tncM, l56, eqM_rfl, up2_row, InvF, InvF0, dF1, dF2, sw0, sw1, InvT] | sorry

set_option maxHeartbeats 200000 in
theorem vc_X9_swing : vcS_X9_swing := by
  unfold vcS_X9_swing
  simp only [wp_X9_swing_L19, wp_X9_swing_L84, wp_X9_swing, pI_iff, pV_iff, pL_iff, Post_X9_swing, Pre_X9_swing, tn0, tn1, tn2, tn3, tn4, tn5, tn6, tn7, tn8, tn9, tn10, tn12, tn18, tn40, tn50, tn60, tn90, tn92, tn112, tn212, tnn1, ni0, ni1, ni2, ni3, ni4, ni5, ni6, ni7, er1, er2, er3, er4, er5, lg_cmp_lt, lg_cmp_le, lg_cmp_gt, lg_cmp_ge, lg_cmp_eq, in_m99_299, in_0_1, in_0_19999, in_0_2, in_0_200, in_0_3, in_0_30, in_0_4, in_0_6, in_0_60, in_0_69, in_0_9, in_0_99, in_1_200, in_1_3, in_1_40, in_1_5, in_1_60, in_1_8, in_4_40, in_0e, RE_swing]
  intros
  (repeat' (first | with_reducible apply And.intro | with_reducible intro _)) <;> (try first | apply pR_some | apply pR_none) <;> first | grind [txb, pT, remI, eqM, Post_X9_finds, Pre_X9_finds, Val_X9_in, Val_X9_isSwing, up2_ap, cpr_ap, vp1, vp2, vp3, vp4, vp5, vp6, vp20, vp40, vp50, vp60, vp160, vp264, tnc, nIX, nIc, tncA, tncS, tncM, l56, eqM_rfl, up2_row, InvF, InvF0, dF1, dF2, sw0, sw1, InvT] | sorry

set_option maxHeartbeats 200000 in
theorem vc_X9_bar : vcS_X9_bar := by
  unfold vcS_X9_bar
  simp only [wp_X9_bar_L28, wp_X9_bar, pI_iff, pV_iff, pL_iff, Post_X9_bar, Pre_X9_bar, tn0, tn1, tn2, tn3, tn4, tn5, tn6, tn7, tn8, tn9, tn10, tn12, tn18, tn40, tn50, tn60, tn90, tn92, tn112, tn212, tnn1, ni0, ni1, ni2, ni3, ni4, ni5, ni6, ni7, er1, er2, er3, er4, er5, lg_cmp_lt, lg_cmp_le, lg_cmp_gt, lg_cmp_ge, lg_cmp_eq, in_m99_299, in_0_1, in_0_19999, in_0_2, in_0_200, in_0_3, in_0_30, in_0_4, in_0_6, in_0_60, in_0_69, in_0_9, in_0_99, in_1_200, in_1_3, in_1_40, in_1_5, in_1_60, in_1_8, in_4_40, in_0e, RE_bar]
  intros
  (repeat' (first | with_reducible apply And.intro | with_reducible intro _)) <;> (try first | apply pR_some | apply pR_none) <;> first | grind [txb, pT, sw3, tri, fmodI, remI, absI, eqM, Val_X9_barOf, Pre_X9_barOf, Val_X9_in, Post_X9_finds, Pre_X9_finds, Val_X9_isSwing, up2_ap, cpr_ap, vp1, vp2, vp3, vp4, vp5, vp6, vp20, vp40, vp50, vp60, vp160, vp264, tnc, nIX, nIc, tncA, tncS, tncM, l56, eqM_rfl, up2_row, InvF, InvF0, dF1, dF2, sw0, sw1, InvT] | sorry

set_option maxHeartbeats 200000 in
theorem vc_X9_set : vcS_X9_set := by
  unfold vcS_X9_set
  simp only [wp_X9_set_L57, wp_X9_set_L56, wp_X9_set, pI_iff, pV_iff, pL_iff, Post_X9_set, Pre_X9_set, tn0, tn1, tn2, tn3, tn4, tn5, tn6, tn7, tn8, tn9, tn10, tn12, tn18, tn40, tn50, tn60, tn90, tn92, tn112, tn212, tnn1, ni0, ni1, ni2, ni3, ni4, ni5, ni6, ni7, er1, er2, er3, er4, er5, lg_cmp_lt, lg_cmp_le, lg_cmp_gt, lg_cmp_ge, lg_cmp_eq, in_m99_299, in_0_1, in_0_19999, in_0_2, in_0_200, in_0_3, in_0_30, in_0_4, in_0_6, in_0_60, in_0_69, in_0_9, in_0_99, in_1_200, in_1_3, in_1_40, in_1_5, in_1_60, in_1_8, in_4_40, in_0e, RE_set]
  intros
  (repeat' (first | with_reducible apply And.intro | with_reducible intro _)) <;> (try first | apply pR_some | apply pR_none) <;> first | grind [txb, pT, eqM, Val_X9_in, Post_X9_finds, Pre_X9_finds, up2_ap, cpr_ap, vp1, vp2, vp3, vp4, vp5, vp6, vp20, vp40, vp50, vp60, vp160, vp264, tnc, nIX, nIc, tncA, tncS, tncM, l56, eqM_rfl, up2_row, InvF, InvF0, dF1, dF2, sw0, sw1, InvT] | sorry

set_option maxHeartbeats 200000 in
theorem vc_X9_lagOf : vcS_X9_lagOf := by
  unfold vcS_X9_lagOf
  simp only [wp_X9_lagOf_L70, wp_X9_lagOf, pI_iff, pV_iff, pL_iff, Val_X9_lagOf, Pre_X9_lagOf, tn0, tn1, tn2, tn3, tn4, tn5, tn6, tn7, tn8, tn9, tn10, tn12, tn18, tn40, tn50, tn60, tn90, tn92, tn112, tn212, tnn1, ni0, ni1, ni2, ni3, ni4, ni5, ni6, ni7, er1, er2, er3, er4, er5, lg_cmp_lt, lg_cmp_le, lg_cmp_gt, lg_cmp_ge, lg_cmp_eq, in_m99_299, in_0_1, in_0_19999, in_0_2, in_0_200, in_0_3, in_0_30, in_0_4, in_0_6, in_0_60, in_0_69, in_0_9, in_0_99, in_1_200, in_1_3, in_1_40, in_1_5, in_1_60, in_1_8, in_4_40, in_0e]
  intros
  (repeat' (first | with_reducible apply And.intro | with_reducible intro _)) <;> (try first | apply pR_some | apply pR_none) <;> first | grind [Val_X9_lagOf, lagM, lagI, remI, Val_X9_of, fl4, Pre_X9_of, up2_ap, cpr_ap, vp1, vp2, vp3, vp4, vp5, vp6, vp20, vp40, vp50, vp60, vp160, vp264, tnc, nIX, nIc, tncA, tncS, tncM, l56, eqM_rfl, up2_row, InvF, InvF0, dF1, dF2, sw0, sw1, InvT] | sorry

set_option maxHeartbeats 200000 in
theorem vc_X9_holdsOf : vcS_X9_holdsOf := by
  unfold vcS_X9_holdsOf
  simp only [wp_X9_holdsOf_L79, wp_X9_holdsOf, pI_iff, pV_iff, pL_iff, Val_X9_holdsOf, Pre_X9_holdsOf, tn0, tn1, tn2, tn3, tn4, tn5, tn6, tn7, tn8, tn9, tn10, tn12, tn18, tn40, tn50, tn60, tn90, tn92, tn112, tn212, tnn1, ni0, ni1, ni2, ni3, ni4, ni5, ni6, ni7, er1, er2, er3, er4, er5, lg_cmp_lt, lg_cmp_le, lg_cmp_gt, lg_cmp_ge, lg_cmp_eq, in_m99_299, in_0_1, in_0_19999, in_0_2, in_0_200, in_0_3, in_0_30, in_0_4, in_0_6, in_0_60, in_0_69, in_0_9, in_0_99, in_1_200, in_1_3, in_1_40, in_1_5, in_1_60, in_1_8, in_4_40, in_0e]
  intros
  (repeat' (first | with_reducible apply And.intro | with_reducible intro _)) <;> (try first | apply pR_some | apply pR_none) <;> first | grind [Val_X9_holdsOf, fl4, holdsI, maxI, Val_X9_of, Pre_X9_of, up2_ap, cpr_ap, vp1, vp2, vp3, vp4, vp5, vp6, vp20, vp40, vp50, vp60, vp160, vp264, tnc, nIX, nIc, tncA, tncS, tncM, l56, eqM_rfl, up2_row, InvF, InvF0, dF1, dF2, sw0, sw1, InvT] | sorry

set_option maxHeartbeats 200000 in
theorem vc_X9_harmOf : vcS_X9_harmOf := by
  unfold vcS_X9_harmOf
  simp only [wp_X9_harmOf, pI_iff, pV_iff, pL_iff, Val_X9_harmOf, Pre_X9_harmOf, tn0, tn1, tn2, tn3, tn4, tn5, tn6, tn7, tn8, tn9, tn10, tn12, tn18, tn40, tn50, tn60, tn90, tn92, tn112, tn212, tnn1, ni0, ni1, ni2, ni3, ni4, ni5, ni6, ni7, er1, er2, er3, er4, er5, lg_cmp_lt, lg_cmp_le, lg_cmp_gt, lg_cmp_ge, lg_cmp_eq, in_m99_299, in_0_1, in_0_19999, in_0_2, in_0_200, in_0_3, in_0_30, in_0_4, in_0_6, in_0_60, in_0_69, in_0_9, in_0_99, in_1_200, in_1_3, in_1_40, in_1_5, in_1_60, in_1_8, in_4_40, in_0e]
  intros
  (repeat' (first | with_reducible apply And.intro | with_reducible intro _)) <;> (try first | apply pR_some | apply pR_none) <;> first | grind [Val_X9_harmOf, hmM, fl4, harmI, Val_X9_of, Pre_X9_of, up2_ap, cpr_ap, vp1, vp2, vp3, vp4, vp5, vp6, vp20, vp40, vp50, vp60, vp160, vp264, tnc, nIX, nIc, tncA, tncS, tncM, l56, eqM_rfl, up2_row, InvF, InvF0, dF1, dF2, sw0, sw1, InvT] | sorry

set_option maxHeartbeats 200000 in
theorem vc_X9_flyer : vcS_X9_flyer := by
  unfold vcS_X9_flyer
  simp only [wp_X9_flyer, pI_iff, pV_iff, pL_iff, Post_X9_flyer, Pre_X9_flyer, tn0, tn1, tn2, tn3, tn4, tn5, tn6, tn7, tn8, tn9, tn10, tn12, tn18, tn40, tn50, tn60, tn90, tn92, tn112, tn212, tnn1, ni0, ni1, ni2, ni3, ni4, ni5, ni6, ni7, er1, er2, er3, er4, er5, lg_cmp_lt, lg_cmp_le, lg_cmp_gt, lg_cmp_ge, lg_cmp_eq, in_m99_299, in_0_1, in_0_19999, in_0_2, in_0_200, in_0_3, in_0_30, in_0_4, in_0_6, in_0_60, in_0_69, in_0_9, in_0_99, in_1_200, in_1_3, in_1_40, in_1_5, in_1_60, in_1_8, in_4_40, in_0e, RE_flyer]
  intros
  (repeat' (first | with_reducible apply And.intro | with_reducible intro _)) <;> (try first | apply pR_some | apply pR_none) <;> first | grind [txb, pT, fl4, remI, eqM, Post_X9_finds, Pre_X9_finds, Val_X9_in, Post_X9_sets, Pre_X9_sets, up2_ap, cpr_ap, vp1, vp2, vp3, vp4, vp5, vp6, vp20, vp40, vp50, vp60, vp160, vp264, tnc, nIX, nIc, tncA, tncS, tncM, l56, eqM_rfl, up2_row, InvF, InvF0, dF1, dF2, sw0, sw1, InvT] | sorry

set_option maxHeartbeats 200000 in
theorem vc_X9_ofFlyer : vcS_X9_ofFlyer := by
  unfold vcS_X9_ofFlyer
  simp only [wp_X9_ofFlyer_L20, wp_X9_ofFlyer, pI_iff, pV_iff, pL_iff, Post_X9_ofFlyer, Pre_X9_ofFlyer, tn0, tn1, tn2, tn3, tn4, tn5, tn6, tn7, tn8, tn9, tn10, tn12, tn18, tn40, tn50, tn60, tn90, tn92, tn112, tn212, tnn1, ni0, ni1, ni2, ni3, ni4, ni5, ni6, ni7, er1, er2, er3, er4, er5, lg_cmp_lt, lg_cmp_le, lg_cmp_gt, lg_cmp_ge, lg_cmp_eq, in_m99_299, in_0_1, in_0_19999, in_0_2, in_0_200, in_0_3, in_0_30, in_0_4, in_0_6, in_0_60, in_0_69, in_0_9, in_0_99, in_1_200, in_1_3, in_1_40, in_1_5, in_1_60, in_1_8, in_4_40, in_0e, RE_ofFlyer]
  intros
  (repeat' (first | with_reducible apply And.intro | with_reducible intro _)) <;> (try first | apply pR_some | apply pR_none) <;> first | grind [txb, pT, fl4, harmI, holdsI, maxI, lagM, lagI, remI, eqM, Post_X9_finds, Pre_X9_finds, Val_X9_in, Val_X9_of, Pre_X9_of, Val_X9_harmOf, hmM, Pre_X9_harmOf, Val_X9_holdsOf, Pre_X9_holdsOf, Val_X9_lagOf, Pre_X9_lagOf, Val_X9_isFlyer, up2_ap, cpr_ap, vp1, vp2, vp3, vp4, vp5, vp6, vp20, vp40, vp50, vp60, vp160, vp264, tnc, nIX, nIc, tncA, tncS, tncM, l56, eqM_rfl, up2_row, InvF, InvF0, dF1, dF2, sw0, sw1, InvT] | sorry

set_option maxHeartbeats 200000 in
theorem vc_X9_become : vcS_X9_become := by
  unfold vcS_X9_become
  simp only [wp_X9_become_L20, wp_X9_become, pI_iff, pV_iff, pL_iff, Post_X9_become, Pre_X9_become, tn0, tn1, tn2, tn3, tn4, tn5, tn6, tn7, tn8, tn9, tn10, tn12, tn18, tn40, tn50, tn60, tn90, tn92, tn112, tn212, tnn1, ni0, ni1, ni2, ni3, ni4, ni5, ni6, ni7, er1, er2, er3, er4, er5, lg_cmp_lt, lg_cmp_le, lg_cmp_gt, lg_cmp_ge, lg_cmp_eq, in_m99_299, in_0_1, in_0_19999, in_0_2, in_0_200, in_0_3, in_0_30, in_0_4, in_0_6, in_0_60, in_0_69, in_0_9, in_0_99, in_1_200, in_1_3, in_1_40, in_1_5, in_1_60, in_1_8, in_4_40, in_0e, RE_become]
  intros
  (repeat' (first | with_reducible apply And.intro | with_reducible intro _)) <;> (try first | apply pR_some | apply pR_none) <;> first | grind [txb, pT, remI, fl4, eqM, Post_X9_finds, Pre_X9_finds, Val_X9_in, Val_X9_of, Post_X9_sets, Pre_X9_sets, Pre_X9_of, Val_X9_isFlyer, up2_ap, cpr_ap, vp1, vp2, vp3, vp4, vp5, vp6, vp20, vp40, vp50, vp60, vp160, vp264, tnc, nIX, nIc, tncA, tncS, tncM, l56, eqM_rfl, up2_row, InvF, InvF0, dF1, dF2, sw0, sw1, InvT] | sorry

set_option maxHeartbeats 200000 in
theorem vc_X9_above : vcS_X9_above := by
  unfold vcS_X9_above
  simp only [wp_X9_above, pI_iff, pV_iff, pL_iff, Val_X9_above, tn0, tn1, tn2, tn3, tn4, tn5, tn6, tn7, tn8, tn9, tn10, tn12, tn18, tn40, tn50, tn60, tn90, tn92, tn112, tn212, tnn1, ni0, ni1, ni2, ni3, ni4, ni5, ni6, ni7, er1, er2, er3, er4, er5, lg_cmp_lt, lg_cmp_le, lg_cmp_gt, lg_cmp_ge, lg_cmp_eq, in_m99_299, in_0_1, in_0_19999, in_0_2, in_0_200, in_0_3, in_0_30, in_0_4, in_0_6, in_0_60, in_0_69, in_0_9, in_0_99, in_1_200, in_1_3, in_1_40, in_1_5, in_1_60, in_1_8, in_4_40, in_0e]
  intros
  (repeat' (first | with_reducible apply And.intro | with_reducible intro _)) <;> (try first | apply pR_some | apply pR_none) <;> first | grind [Val_X9_above, abvI, up2_ap, cpr_ap, vp1, vp2, vp3, vp4, vp5, vp6, vp20, vp40, vp50, vp60, vp160, vp264, tnc, nIX, nIc, tncA, tncS, tncM, l56, eqM_rfl, up2_row, InvF, InvF0, dF1, dF2, sw0, sw1, InvT] | sorry

set_option maxHeartbeats 200000 in
theorem vc_X9_as : vcS_X9_as := by
  unfold vcS_X9_as
  simp only [wp_X9_as_L20, wp_X9_as_L50, wp_X9_as, pI_iff, pV_iff, pL_iff, Post_X9_as, Pre_X9_as, tn0, tn1, tn2, tn3, tn4, tn5, tn6, tn7, tn8, tn9, tn10, tn12, tn18, tn40, tn50, tn60, tn90, tn92, tn112, tn212, tnn1, ni0, ni1, ni2, ni3, ni4, ni5, ni6, ni7, er1, er2, er3, er4, er5, lg_cmp_lt, lg_cmp_le, lg_cmp_gt, lg_cmp_ge, lg_cmp_eq, in_m99_299, in_0_1, in_0_19999, in_0_2, in_0_200, in_0_3, in_0_30, in_0_4, in_0_6, in_0_60, in_0_69, in_0_9, in_0_99, in_1_200, in_1_3, in_1_40, in_1_5, in_1_60, in_1_8, in_4_40, in_0e, RE_as]
  intros
  (repeat' (first | with_reducible apply And.intro | with_reducible intro _)) <;> (try first | apply pR_some | apply pR_none) <;> first | grind [txb, pT, fl4, abvI, eqM, Post_X9_finds, Pre_X9_finds, Val_X9_in, Val_X9_of, Pre_X9_of, Val_X9_above, Val_X9_isFlyer, up2_ap, cpr_ap, vp1, vp2, vp3, vp4, vp5, vp6, vp20, vp40, vp50, vp60, vp160, vp264, tnc, nIX, nIc, tncA, tncS, tncM, l56, eqM_rfl, up2_row, InvF, InvF0, dF1, dF2, sw0, sw1, InvT] | sorry

set_option maxHeartbeats 200000 in
theorem vc_X9_turn : vcS_X9_turn := by
  unfold vcS_X9_turn
  simp only [wp_X9_turn_L20, wp_X9_turn, pI_iff, pV_iff, pL_iff, Post_X9_turn, Pre_X9_turn, tn0, tn1, tn2, tn3, tn4, tn5, tn6, tn7, tn8, tn9, tn10, tn12, tn18, tn40, tn50, tn60, tn90, tn92, tn112, tn212, tnn1, ni0, ni1, ni2, ni3, ni4, ni5, ni6, ni7, er1, er2, er3, er4, er5, lg_cmp_lt, lg_cmp_le, lg_cmp_gt, lg_cmp_ge, lg_cmp_eq, in_m99_299, in_0_1, in_0_19999, in_0_2, in_0_200, in_0_3, in_0_30, in_0_4, in_0_6, in_0_60, in_0_69, in_0_9, in_0_99, in_1_200, in_1_3, in_1_40, in_1_5, in_1_60, in_1_8, in_4_40, in_0e, RE_turn]
  intros
  (repeat' (first | with_reducible apply And.intro | with_reducible intro _)) <;> (try first | apply pR_some | apply pR_none) <;> first | grind [txb, pT, fl4, eqM, Post_X9_finds, Pre_X9_finds, Val_X9_in, Val_X9_of, Post_X9_sets, Pre_X9_sets, Pre_X9_of, Val_X9_isFlyer, up2_ap, cpr_ap, vp1, vp2, vp3, vp4, vp5, vp6, vp20, vp40, vp50, vp60, vp160, vp264, tnc, nIX, nIc, tncA, tncS, tncM, l56, eqM_rfl, up2_row, InvF, InvF0, dF1, dF2, sw0, sw1, InvT] | sorry

set_option maxHeartbeats 200000 in
theorem vc_X9_letsGo : vcS_X9_letsGo := by
  unfold vcS_X9_letsGo
  simp only [wp_X9_letsGo, pI_iff, pV_iff, pL_iff, Post_X9_letsGo, Pre_X9_letsGo, tn0, tn1, tn2, tn3, tn4, tn5, tn6, tn7, tn8, tn9, tn10, tn12, tn18, tn40, tn50, tn60, tn90, tn92, tn112, tn212, tnn1, ni0, ni1, ni2, ni3, ni4, ni5, ni6, ni7, er1, er2, er3, er4, er5, lg_cmp_lt, lg_cmp_le, lg_cmp_gt, lg_cmp_ge, lg_cmp_eq, in_m99_299, in_0_1, in_0_19999, in_0_2, in_0_200, in_0_3, in_0_30, in_0_4, in_0_6, in_0_60, in_0_69, in_0_9, in_0_99, in_1_200, in_1_3, in_1_40, in_1_5, in_1_60, in_1_8, in_4_40, in_0e]
  intros
  (repeat' (first | with_reducible apply And.intro | with_reducible intro _)) <;> (try first | apply pR_some | apply pR_none) <;> first | grind [txb, pT, lawHi, lawLo, rpn, rpS, joinI, remI, isPartI, heldI, lagM, lagI, quin, flq, quad, tri, lagV, vL, vW, vY, vF, vN, vV, vP, fmodI, absI, frG, Val_X9_barOf, sw3, Val_X9_of, fl4, Post_X9_textGives, frT, Pre_X9_textGives, Pre_X9_of, Pre_X9_barOf, up2_ap, cpr_ap, vp1, vp2, vp3, vp4, vp5, vp6, vp20, vp40, vp50, vp60, vp160, vp264, tnc, nIX, nIc, tncA, tncS, tncM, l56, eqM_rfl, up2_row, InvF, InvF0, dF1, dF2, sw0, sw1, InvT] | sorry

set_option maxHeartbeats 200000 in
theorem vc_X9_size0 : vcS_X9_size0 := by
  unfold vcS_X9_size0
  simp only [wp_X9_size0, pI_iff, pV_iff, pL_iff, Val_X9_size0, tn0, tn1, tn2, tn3, tn4, tn5, tn6, tn7, tn8, tn9, tn10, tn12, tn18, tn40, tn50, tn60, tn90, tn92, tn112, tn212, tnn1, ni0, ni1, ni2, ni3, ni4, ni5, ni6, ni7, er1, er2, er3, er4, er5, lg_cmp_lt, lg_cmp_le, lg_cmp_gt, lg_cmp_ge, lg_cmp_eq, in_m99_299, in_0_1, in_0_19999, in_0_2, in_0_200, in_0_3, in_0_30, in_0_4, in_0_6, in_0_60, in_0_69, in_0_9, in_0_99, in_1_200, in_1_3, in_1_40, in_1_5, in_1_60, in_1_8, in_4_40, in_0e]
  intros
  (repeat' (first | with_reducible apply And.intro | with_reducible intro _)) <;> (try first | apply pR_some | apply pR_none) <;> first | grind [Val_X9_size0, absI, up2_ap, cpr_ap, vp1, vp2, vp3, vp4, vp5, vp6, vp20, vp40, vp50, vp60, vp160, vp264, tnc, nIX, nIc, tncA, tncS, tncM, l56, eqM_rfl, up2_row, InvF, InvF0, dF1, dF2, sw0, sw1, InvT] | sorry

set_option maxHeartbeats 200000 in
theorem vc_X9_offNow : vcS_X9_offNow := by
  unfold vcS_X9_offNow
  simp only [wp_X9_offNow, pI_iff, pV_iff, pL_iff, Val_X9_offNow, Pre_X9_offNow, tn0, tn1, tn2, tn3, tn4, tn5, tn6, tn7, tn8, tn9, tn10, tn12, tn18, tn40, tn50, tn60, tn90, tn92, tn112, tn212, tnn1, ni0, ni1, ni2, ni3, ni4, ni5, ni6, ni7, er1, er2, er3, er4, er5, lg_cmp_lt, lg_cmp_le, lg_cmp_gt, lg_cmp_ge, lg_cmp_eq, in_m99_299, in_0_1, in_0_19999, in_0_2, in_0_200, in_0_3, in_0_30, in_0_4, in_0_6, in_0_60, in_0_69, in_0_9, in_0_99, in_1_200, in_1_3, in_1_40, in_1_5, in_1_60, in_1_8, in_4_40, in_0e]
  intros
  (repeat' (first | with_reducible apply And.intro | with_reducible intro _)) <;> (try first | apply pR_some | apply pR_none) <;> first | grind [Val_X9_offNow, sw3, tri, fmodI, remI, absI, Val_X9_catcherAt, Pre_X9_catcherAt, up2_ap, cpr_ap, vp1, vp2, vp3, vp4, vp5, vp6, vp20, vp40, vp50, vp60, vp160, vp264, tnc, nIX, nIc, tncA, tncS, tncM, l56, eqM_rfl, up2_row, InvF, InvF0, dF1, dF2, sw0, sw1, InvT] | sorry

set_option maxHeartbeats 200000 in
theorem vc_X9_isTold : vcS_X9_isTold := by
  unfold vcS_X9_isTold
  simp only [wp_X9_isTold, pI_iff, pV_iff, pL_iff, Post_X9_isTold, Pre_X9_isTold, tn0, tn1, tn2, tn3, tn4, tn5, tn6, tn7, tn8, tn9, tn10, tn12, tn18, tn40, tn50, tn60, tn90, tn92, tn112, tn212, tnn1, ni0, ni1, ni2, ni3, ni4, ni5, ni6, ni7, er1, er2, er3, er4, er5, lg_cmp_lt, lg_cmp_le, lg_cmp_gt, lg_cmp_ge, lg_cmp_eq, in_m99_299, in_0_1, in_0_19999, in_0_2, in_0_200, in_0_3, in_0_30, in_0_4, in_0_6, in_0_60, in_0_69, in_0_9, in_0_99, in_1_200, in_1_3, in_1_40, in_1_5, in_1_60, in_1_8, in_4_40, in_0e]
  intros
  (repeat' (first | with_reducible apply And.intro | with_reducible intro _)) <;> (try first | apply pR_some | apply pR_none) <;> first | grind [txb, pT, lawHi, lawLo, rpn, rpS, joinI, remI, isPartI, heldI, lagM, lagI, quin, flq, quad, tri, lagV, vL, vW, vY, vF, vN, vV, vP, fmodI, absI, frG, Val_X9_lagOf, Post_X9_letsGo, Pre_X9_letsGo, Pre_X9_lagOf, up2_ap, cpr_ap, vp1, vp2, vp3, vp4, vp5, vp6, vp20, vp40, vp50, vp60, vp160, vp264, tnc, nIX, nIc, tncA, tncS, tncM, l56, eqM_rfl, up2_row, InvF, InvF0, dF1, dF2, sw0, sw1, InvT] | sorry

set_option maxHeartbeats 200000 in
theorem vc_X9_isCaught : vcS_X9_isCaught := by
  unfold vcS_X9_isCaught
  simp only [wp_X9_isCaught, pI_iff, pV_iff, pL_iff, Val_X9_isCaught, Pre_X9_isCaught, tn0, tn1, tn2, tn3, tn4, tn5, tn6, tn7, tn8, tn9, tn10, tn12, tn18, tn40, tn50, tn60, tn90, tn92, tn112, tn212, tnn1, ni0, ni1, ni2, ni3, ni4, ni5, ni6, ni7, er1, er2, er3, er4, er5, lg_cmp_lt, lg_cmp_le, lg_cmp_gt, lg_cmp_ge, lg_cmp_eq, in_m99_299, in_0_1, in_0_19999, in_0_2, in_0_200, in_0_3, in_0_30, in_0_4, in_0_6, in_0_60, in_0_69, in_0_9, in_0_99, in_1_200, in_1_3, in_1_40, in_1_5, in_1_60, in_1_8, in_4_40, in_0e]
  intros
  (repeat' (first | with_reducible apply And.intro | with_reducible intro _)) <;> (try first | apply pR_some | apply pR_none) <;> first | grind [txb, pT, Val_X9_isCaught, lawHi, lawLo, rpn, rpS, joinI, remI, isPartI, heldI, lagM, lagI, quin, flq, quad, tri, vW, vY, holdsI, maxI, sw3, fmodI, absI, bI, Val_X9_offNow, Val_X9_size0, Val_X9_holdsOf, fl4, Pre_X9_holdsOf, Pre_X9_offNow, up2_ap, cpr_ap, vp1, vp2, vp3, vp4, vp5, vp6, vp20, vp40, vp50, vp60, vp160, vp264, tnc, nIX, nIc, tncA, tncS, tncM, l56, eqM_rfl, up2_row, InvF, InvF0, dF1, dF2, sw0, sw1, InvT] | sorry

set_option maxHeartbeats 200000 in
theorem vc_X9_fallHarm : vcS_X9_fallHarm := by
  unfold vcS_X9_fallHarm
  simp only [wp_X9_fallHarm, pI_iff, pV_iff, pL_iff, Val_X9_fallHarm, Pre_X9_fallHarm, tn0, tn1, tn2, tn3, tn4, tn5, tn6, tn7, tn8, tn9, tn10, tn12, tn18, tn40, tn50, tn60, tn90, tn92, tn112, tn212, tnn1, ni0, ni1, ni2, ni3, ni4, ni5, ni6, ni7, er1, er2, er3, er4, er5, lg_cmp_lt, lg_cmp_le, lg_cmp_gt, lg_cmp_ge, lg_cmp_eq, in_m99_299, in_0_1, in_0_19999, in_0_2, in_0_200, in_0_3, in_0_30, in_0_4, in_0_6, in_0_60, in_0_69, in_0_9, in_0_99, in_1_200, in_1_3, in_1_40, in_1_5, in_1_60, in_1_8, in_4_40, in_0e]
  intros
  (repeat' (first | with_reducible apply And.intro | with_reducible intro _)) <;> (try first | apply pR_some | apply pR_none) <;> first | grind [Val_X9_fallHarm, absI, hmM, fl4, harmI, Val_X9_size0, Val_X9_harmOf, Pre_X9_harmOf, up2_ap, cpr_ap, vp1, vp2, vp3, vp4, vp5, vp6, vp20, vp40, vp50, vp60, vp160, vp264, tnc, nIX, nIc, tncA, tncS, tncM, l56, eqM_rfl, up2_row, InvF, InvF0, dF1, dF2, sw0, sw1, InvT] | sorry

set_option maxHeartbeats 200000 in
theorem vc_X9_goes : vcS_X9_goes := by
  unfold vcS_X9_goes
  simp only [wp_X9_goes_L89, wp_X9_goes_L42, wp_X9_goes_L32, wp_X9_goes, pI_iff, pV_iff, pL_iff, Post_X9_goes, Pre_X9_goes, tn0, tn1, tn2, tn3, tn4, tn5, tn6, tn7, tn8, tn9, tn10, tn12, tn18, tn40, tn50, tn60, tn90, tn92, tn112, tn212, tnn1, ni0, ni1, ni2, ni3, ni4, ni5, ni6, ni7, er1, er2, er3, er4, er5, lg_cmp_lt, lg_cmp_le, lg_cmp_gt, lg_cmp_ge, lg_cmp_eq, in_m99_299, in_0_1, in_0_19999, in_0_2, in_0_200, in_0_3, in_0_30, in_0_4, in_0_6, in_0_60, in_0_69, in_0_9, in_0_99, in_1_200, in_1_3, in_1_40, in_1_5, in_1_60, in_1_8, in_4_40, in_0e, RE_goes]
  intros
  (repeat' (first | with_reducible apply And.intro | with_reducible intro _)) <;> (try first | apply pR_some | apply pR_none) <;> first | grind [txb, pT, fl4, heldI, lawHi, lawLo, rpn, rpS, joinI, remI, isPartI, lagM, lagI, quin, flq, quad, tri, vW, vY, vV, vP, vN, fmodI, absI, vL, hmM, harmI, vOff, vF, holdsI, maxI, eqM, Val_X9_held, Val_X9_of, Post_X9_sets, Pre_X9_sets, Pre_X9_of, Val_X9_isCaught, sw3, bI, Val_X9_fallHarm, Pre_X9_fallHarm, Pre_X9_isCaught, Post_X9_isTold, lagV, frG, Pre_X9_isTold, up2_ap, cpr_ap, vp1, vp2, vp3, vp4, vp5, vp6, vp20, vp40, vp50, vp60, vp160, vp264, tnc, nIX, nIc, tncA, tncS, tncM, l56, eqM_rfl, up2_row, InvF, InvF0, dF1, dF2, sw0, sw1, InvT] | sorry

set_option maxHeartbeats 200000 in
theorem vc_X9_go : vcS_X9_go := by
  unfold vcS_X9_go
  simp only [wp_X9_go, pI_iff, pV_iff, pL_iff, Post_X9_go, Pre_X9_go, tn0, tn1, tn2, tn3, tn4, tn5, tn6, tn7, tn8, tn9, tn10, tn12, tn18, tn40, tn50, tn60, tn90, tn92, tn112, tn212, tnn1, ni0, ni1, ni2, ni3, ni4, ni5, ni6, ni7, er1, er2, er3, er4, er5, lg_cmp_lt, lg_cmp_le, lg_cmp_gt, lg_cmp_ge, lg_cmp_eq, in_m99_299, in_0_1, in_0_19999, in_0_2, in_0_200, in_0_3, in_0_30, in_0_4, in_0_6, in_0_60, in_0_69, in_0_9, in_0_99, in_1_200, in_1_3, in_1_40, in_1_5, in_1_60, in_1_8, in_4_40, in_0e, RE_go]
  intros
  (repeat' (first | with_reducible apply And.intro | with_reducible intro _)) <;> (try first | apply pR_some | apply pR_none) <;> first | grind [txb, pT, fl4, heldI, lawHi, lawLo, rpn, rpS, joinI, remI, isPartI, lagM, lagI, quin, flq, quad, tri, vW, vY, vV, vP, vN, fmodI, absI, vL, hmM, harmI, vOff, vF, holdsI, maxI, eqM, Post_X9_goes, Pre_X9_goes, Val_X9_isFlyer, Post_X9_finds, Pre_X9_finds, up2_ap, cpr_ap, vp1, vp2, vp3, vp4, vp5, vp6, vp20, vp40, vp50, vp60, vp160, vp264, tnc, nIX, nIc, tncA, tncS, tncM, l56, eqM_rfl, up2_row, InvF, InvF0, dF1, dF2, sw0, sw1, InvT] | sorry

set_option maxHeartbeats 200000 in
theorem vc_X9_ticks : vcS_X9_ticks := by
  unfold vcS_X9_ticks
  simp only [wp_X9_ticks, pI_iff, pV_iff, pL_iff, Post_X9_ticks, Pre_X9_ticks, tn0, tn1, tn2, tn3, tn4, tn5, tn6, tn7, tn8, tn9, tn10, tn12, tn18, tn40, tn50, tn60, tn90, tn92, tn112, tn212, tnn1, ni0, ni1, ni2, ni3, ni4, ni5, ni6, ni7, er1, er2, er3, er4, er5, lg_cmp_lt, lg_cmp_le, lg_cmp_gt, lg_cmp_ge, lg_cmp_eq, in_m99_299, in_0_1, in_0_19999, in_0_2, in_0_200, in_0_3, in_0_30, in_0_4, in_0_6, in_0_60, in_0_69, in_0_9, in_0_99, in_1_200, in_1_3, in_1_40, in_1_5, in_1_60, in_1_8, in_4_40, in_0e, RE_ticks]
  intros
  (repeat' (first | with_reducible apply And.intro | with_reducible intro _)) <;> (try first | apply pR_some | apply pR_none) <;> first | grind [txb, pT, eqM, Post_X9_finds, Pre_X9_finds, Val_X9_in, up2_ap, cpr_ap, vp1, vp2, vp3, vp4, vp5, vp6, vp20, vp40, vp50, vp60, vp160, vp264, tnc, nIX, nIc, tncA, tncS, tncM, l56, eqM_rfl, up2_row, InvF, InvF0, dF1, dF2, sw0, sw1, InvT] | sorry

set_option maxHeartbeats 200000 in
theorem vc_X9_drawn : vcS_X9_drawn := by
  unfold vcS_X9_drawn
  simp only [wp_X9_drawn, pI_iff, pV_iff, pL_iff, Post_X9_drawn, tn0, tn1, tn2, tn3, tn4, tn5, tn6, tn7, tn8, tn9, tn10, tn12, tn18, tn40, tn50, tn60, tn90, tn92, tn112, tn212, tnn1, ni0, ni1, ni2, ni3, ni4, ni5, ni6, ni7, er1, er2, er3, er4, er5, lg_cmp_lt, lg_cmp_le, lg_cmp_gt, lg_cmp_ge, lg_cmp_eq, in_m99_299, in_0_1, in_0_19999, in_0_2, in_0_200, in_0_3, in_0_30, in_0_4, in_0_6, in_0_60, in_0_69, in_0_9, in_0_99, in_1_200, in_1_3, in_1_40, in_1_5, in_1_60, in_1_8, in_4_40, in_0e]
  intros
  (repeat' (first | with_reducible apply And.intro | with_reducible intro _)) <;> (try first | apply pR_some | apply pR_none) <;> first | grind [zNx, zDr, up2_ap, cpr_ap, vp1, vp2, vp3, vp4, vp5, vp6, vp20, vp40, vp50, vp60, vp160, vp264, tnc, nIX, nIc, tncA, tncS, tncM, l56, eqM_rfl, up2_row, InvF, InvF0, dF1, dF2, sw0, sw1, InvT] | sorry

set_option maxHeartbeats 200000 in
theorem vc_X9_isSoon : vcS_X9_isSoon := by
  unfold vcS_X9_isSoon
  simp only [wp_X9_isSoon, pI_iff, pV_iff, pL_iff, Val_X9_isSoon, tn0, tn1, tn2, tn3, tn4, tn5, tn6, tn7, tn8, tn9, tn10, tn12, tn18, tn40, tn50, tn60, tn90, tn92, tn112, tn212, tnn1, ni0, ni1, ni2, ni3, ni4, ni5, ni6, ni7, er1, er2, er3, er4, er5, lg_cmp_lt, lg_cmp_le, lg_cmp_gt, lg_cmp_ge, lg_cmp_eq, in_m99_299, in_0_1, in_0_19999, in_0_2, in_0_200, in_0_3, in_0_30, in_0_4, in_0_6, in_0_60, in_0_69, in_0_9, in_0_99, in_1_200, in_1_3, in_1_40, in_1_5, in_1_60, in_1_8, in_4_40, in_0e]
  intros
  (repeat' (first | with_reducible apply And.intro | with_reducible intro _)) <;> (try first | apply pR_some | apply pR_none) <;> first | grind [Val_X9_isSoon, Val_X9_in, up2_ap, cpr_ap, vp1, vp2, vp3, vp4, vp5, vp6, vp20, vp40, vp50, vp60, vp160, vp264, tnc, nIX, nIc, tncA, tncS, tncM, l56, eqM_rfl, up2_row, InvF, InvF0, dF1, dF2, sw0, sw1, InvT] | sorry

set_option maxHeartbeats 200000 in
theorem vc_X9_isSpan : vcS_X9_isSpan := by
  unfold vcS_X9_isSpan
  simp only [wp_X9_isSpan, pI_iff, pV_iff, pL_iff, Val_X9_isSpan, tn0, tn1, tn2, tn3, tn4, tn5, tn6, tn7, tn8, tn9, tn10, tn12, tn18, tn40, tn50, tn60, tn90, tn92, tn112, tn212, tnn1, ni0, ni1, ni2, ni3, ni4, ni5, ni6, ni7, er1, er2, er3, er4, er5, lg_cmp_lt, lg_cmp_le, lg_cmp_gt, lg_cmp_ge, lg_cmp_eq, in_m99_299, in_0_1, in_0_19999, in_0_2, in_0_200, in_0_3, in_0_30, in_0_4, in_0_6, in_0_60, in_0_69, in_0_9, in_0_99, in_1_200, in_1_3, in_1_40, in_1_5, in_1_60, in_1_8, in_4_40, in_0e]
  intros
  (repeat' (first | with_reducible apply And.intro | with_reducible intro _)) <;> (try first | apply pR_some | apply pR_none) <;> first | grind [Val_X9_isSpan, Val_X9_in, up2_ap, cpr_ap, vp1, vp2, vp3, vp4, vp5, vp6, vp20, vp40, vp50, vp60, vp160, vp264, tnc, nIX, nIc, tncA, tncS, tncM, l56, eqM_rfl, up2_row, InvF, InvF0, dF1, dF2, sw0, sw1, InvT] | sorry

set_option maxHeartbeats 200000 in
theorem vc_X9_then : vcS_X9_then := by
  unfold vcS_X9_then
  simp only [wp_X9_then_L27, wp_X9_then, pI_iff, pV_iff, pL_iff, Post_X9_then, Pre_X9_then, tn0, tn1, tn2, tn3, tn4, tn5, tn6, tn7, tn8, tn9, tn10, tn12, tn18, tn40, tn50, tn60, tn90, tn92, tn112, tn212, tnn1, ni0, ni1, ni2, ni3, ni4, ni5, ni6, ni7, er1, er2, er3, er4, er5, lg_cmp_lt, lg_cmp_le, lg_cmp_gt, lg_cmp_ge, lg_cmp_eq, in_m99_299, in_0_1, in_0_19999, in_0_2, in_0_200, in_0_3, in_0_30, in_0_4, in_0_6, in_0_60, in_0_69, in_0_9, in_0_99, in_1_200, in_1_3, in_1_40, in_1_5, in_1_60, in_1_8, in_4_40, in_0e, RE_then]
  intros
  (repeat' (first | with_reducible apply And.intro | with_reducible intro _)) <;> (try first | apply pR_some | apply pR_none) <;> first | grind [txb, pT, lawHi, lawLo, rpn, rpS, joinI, remI, isPartI, heldI, lagM, lagI, quin, flq, quad, tri, vW, vY, vV, vP, vN, fmodI, absI, vL, hmM, fl4, harmI, vOff, vF, holdsI, maxI, bI, eqM, Post_X9_finds, Pre_X9_finds, Val_X9_in, Val_X9_fallHarm, Pre_X9_fallHarm, Val_X9_isCaught, sw3, Pre_X9_isCaught, Val_X9_offNow, Pre_X9_offNow, Post_X9_isTold, lagV, frG, Pre_X9_isTold, Val_X9_isSoon, Val_X9_isFlyer, up2_ap, cpr_ap, vp1, vp2, vp3, vp4, vp5, vp6, vp20, vp40, vp50, vp60, vp160, vp264, tnc, nIX, nIc, tncA, tncS, tncM, l56, eqM_rfl, up2_row, InvF, InvF0, dF1, dF2, sw0, sw1, InvT] | sorry

set_option maxHeartbeats 200000 in
theorem vc_X9_can : vcS_X9_can := by
  unfold vcS_X9_can
  simp only [wp_X9_can_L25, wp_X9_can, pI_iff, pV_iff, pL_iff, Post_X9_can, Pre_X9_can, tn0, tn1, tn2, tn3, tn4, tn5, tn6, tn7, tn8, tn9, tn10, tn12, tn18, tn40, tn50, tn60, tn90, tn92, tn112, tn212, tnn1, ni0, ni1, ni2, ni3, ni4, ni5, ni6, ni7, er1, er2, er3, er4, er5, lg_cmp_lt, lg_cmp_le, lg_cmp_gt, lg_cmp_ge, lg_cmp_eq, in_m99_299, in_0_1, in_0_19999, in_0_2, in_0_200, in_0_3, in_0_30, in_0_4, in_0_6, in_0_60, in_0_69, in_0_9, in_0_99, in_1_200, in_1_3, in_1_40, in_1_5, in_1_60, in_1_8, in_4_40, in_0e, RE_can]
  intros
  (repeat' (first | with_reducible apply And.intro | with_reducible intro _)) <;> (try first | apply pR_some | apply pR_none) <;> first | grind [txb, pT, lawHi, lawLo, rpn, rpS, joinI, remI, isPartI, heldI, lagM, lagI, quin, flq, quad, tri, canP, vW, vOff, vY, vV, vP, vN, fmodI, absI, vL, vF, holdsI, maxI, eqM, Post_X9_finds, Pre_X9_finds, Val_X9_in, Post_X9_findCan, lagV, oI, frG, Pre_X9_findCan, Val_X9_isSpan, Val_X9_isFlyer, up2_ap, cpr_ap, vp1, vp2, vp3, vp4, vp5, vp6, vp20, vp40, vp50, vp60, vp160, vp264, tnc, nIX, nIc, tncA, tncS, tncM, l56, eqM_rfl, up2_row, InvF, InvF0, dF1, dF2, sw0, sw1, InvT] | sorry

set_option maxHeartbeats 200000 in
theorem vc_X9_surest : vcS_X9_surest := by
  unfold vcS_X9_surest
  simp only [wp_X9_surest_L24, wp_X9_surest, pI_iff, pV_iff, pL_iff, Post_X9_surest, Pre_X9_surest, tn0, tn1, tn2, tn3, tn4, tn5, tn6, tn7, tn8, tn9, tn10, tn12, tn18, tn40, tn50, tn60, tn90, tn92, tn112, tn212, tnn1, ni0, ni1, ni2, ni3, ni4, ni5, ni6, ni7, er1, er2, er3, er4, er5, lg_cmp_lt, lg_cmp_le, lg_cmp_gt, lg_cmp_ge, lg_cmp_eq, in_m99_299, in_0_1, in_0_19999, in_0_2, in_0_200, in_0_3, in_0_30, in_0_4, in_0_6, in_0_60, in_0_69, in_0_9, in_0_99, in_1_200, in_1_3, in_1_40, in_1_5, in_1_60, in_1_8, in_4_40, in_0e, RE_surest]
  intros
  (repeat' (first | with_reducible apply And.intro | with_reducible intro _)) <;> (try first | apply pR_some | apply pR_none) <;> first | grind [txb, pT, lawHi, lawLo, rpn, rpS, joinI, remI, isPartI, heldI, lagM, lagI, quin, flq, quad, tri, vW, vOff, vY, vV, vP, vN, fmodI, absI, vL, vF, holdsI, maxI, bI, eqM, Post_X9_surestOf, lagV, frG, Pre_X9_surestOf, Val_X9_isSpan, Post_X9_finds, Pre_X9_finds, Val_X9_isFlyer, up2_ap, cpr_ap, vp1, vp2, vp3, vp4, vp5, vp6, vp20, vp40, vp50, vp60, vp160, vp264, tnc, nIX, nIc, tncA, tncS, tncM, l56, eqM_rfl, up2_row, InvF, InvF0, dF1, dF2, sw0, sw1, InvT] | sorry

set_option maxHeartbeats 200000 in
theorem vc_X9_odds : vcS_X9_odds := by
  unfold vcS_X9_odds
  simp only [wp_X9_odds_L25, wp_X9_odds, pI_iff, pV_iff, pL_iff, Post_X9_odds, Pre_X9_odds, tn0, tn1, tn2, tn3, tn4, tn5, tn6, tn7, tn8, tn9, tn10, tn12, tn18, tn40, tn50, tn60, tn90, tn92, tn112, tn212, tnn1, ni0, ni1, ni2, ni3, ni4, ni5, ni6, ni7, er1, er2, er3, er4, er5, lg_cmp_lt, lg_cmp_le, lg_cmp_gt, lg_cmp_ge, lg_cmp_eq, in_m99_299, in_0_1, in_0_19999, in_0_2, in_0_200, in_0_3, in_0_30, in_0_4, in_0_6, in_0_60, in_0_69, in_0_9, in_0_99, in_1_200, in_1_3, in_1_40, in_1_5, in_1_60, in_1_8, in_4_40, in_0e, RE_odds]
  intros
  (repeat' (first | with_reducible apply And.intro | with_reducible intro _)) <;> (try first | apply pR_some | apply pR_none) <;> first | grind [txb, pT, lawHi, lawLo, rpn, rpS, joinI, remI, isPartI, heldI, lagM, lagI, quin, flq, quad, tri, vW, vOff, vY, vV, vP, vN, fmodI, absI, vL, vF, holdsI, maxI, bI, frcI, eqM, Post_X9_finds, Pre_X9_finds, Val_X9_in, Post_X9_common, Pre_X9_common, Post_X9_casesAt, lagV, frG, Pre_X9_casesAt, Val_X9_isSoon, Val_X9_isFlyer, up2_ap, cpr_ap, vp1, vp2, vp3, vp4, vp5, vp6, vp20, vp40, vp50, vp60, vp160, vp264, tnc, nIX, nIc, tncA, tncS, tncM, l56, eqM_rfl, up2_row, InvF, InvF0, dF1, dF2, sw0, sw1, InvT] | sorry

set_option maxHeartbeats 200000 in
theorem vc_X9_hasNext : vcS_X9_hasNext := by
  unfold vcS_X9_hasNext
  simp only [wp_X9_hasNext, pI_iff, pV_iff, pL_iff, Post_X9_hasNext, Pre_X9_hasNext, tn0, tn1, tn2, tn3, tn4, tn5, tn6, tn7, tn8, tn9, tn10, tn12, tn18, tn40, tn50, tn60, tn90, tn92, tn112, tn212, tnn1, ni0, ni1, ni2, ni3, ni4, ni5, ni6, ni7, er1, er2, er3, er4, er5, lg_cmp_lt, lg_cmp_le, lg_cmp_gt, lg_cmp_ge, lg_cmp_eq, in_m99_299, in_0_1, in_0_19999, in_0_2, in_0_200, in_0_3, in_0_30, in_0_4, in_0_6, in_0_60, in_0_69, in_0_9, in_0_99, in_1_200, in_1_3, in_1_40, in_1_5, in_1_60, in_1_8, in_4_40, in_0e]
  intros
  (repeat' (first | with_reducible apply And.intro | with_reducible intro _)) <;> (try first | apply pR_some | apply pR_none) <;> first | grind [txb, pT, lawHi, lawLo, rpn, rpS, joinI, remI, isPartI, heldI, lagM, lagI, quin, flq, quad, tri, lagV, vL, vW, vY, vF, vN, hasN, canP, vOff, vV, vP, fmodI, absI, holdsI, maxI, bI, frG, Post_X9_findCan, oI, Pre_X9_findCan, up2_ap, cpr_ap, vp1, vp2, vp3, vp4, vp5, vp6, vp20, vp40, vp50, vp60, vp160, vp264, tnc, nIX, nIc, tncA, tncS, tncM, l56, eqM_rfl, up2_row, InvF, InvF0, dF1, dF2, sw0, sw1, InvT] | sorry

set_option maxHeartbeats 200000 in
theorem vc_X9_mend : vcS_X9_mend := by
  unfold vcS_X9_mend
  simp only [wp_X9_mend_L40, wp_X9_mend, pI_iff, pV_iff, pL_iff, Post_X9_mend, Pre_X9_mend, tn0, tn1, tn2, tn3, tn4, tn5, tn6, tn7, tn8, tn9, tn10, tn12, tn18, tn40, tn50, tn60, tn90, tn92, tn112, tn212, tnn1, ni0, ni1, ni2, ni3, ni4, ni5, ni6, ni7, er1, er2, er3, er4, er5, lg_cmp_lt, lg_cmp_le, lg_cmp_gt, lg_cmp_ge, lg_cmp_eq, in_m99_299, in_0_1, in_0_19999, in_0_2, in_0_200, in_0_3, in_0_30, in_0_4, in_0_6, in_0_60, in_0_69, in_0_9, in_0_99, in_1_200, in_1_3, in_1_40, in_1_5, in_1_60, in_1_8, in_4_40, in_0e, RE_mend]
  intros
  (repeat' (first | with_reducible apply And.intro | with_reducible intro _)) <;> (try first | apply pR_some | apply pR_none) <;> first | grind [txb, pT, lawHi, lawLo, rpn, rpS, joinI, remI, isPartI, heldI, lagM, lagI, quin, flq, quad, tri, vW, vOff, vY, vV, vP, vN, fmodI, absI, vL, vF, mndI, eqM, Post_X9_finds, Pre_X9_finds, Val_X9_in, Val_X9_offNow, sw3, Pre_X9_offNow, Post_X9_isTold, lagV, frG, Pre_X9_isTold, Val_X9_isSoon, Val_X9_isFlyer, up2_ap, cpr_ap, vp1, vp2, vp3, vp4, vp5, vp6, vp20, vp40, vp50, vp60, vp160, vp264, tnc, nIX, nIc, tncA, tncS, tncM, l56, eqM_rfl, up2_row, InvF, InvF0, dF1, dF2, sw0, sw1, InvT] | sorry

set_option maxHeartbeats 200000 in
theorem vc_X9_again : vcS_X9_again := by
  unfold vcS_X9_again
  simp only [wp_X9_again_L51, wp_X9_again_L110, wp_X9_again, pI_iff, pV_iff, pL_iff, Post_X9_again, Pre_X9_again, tn0, tn1, tn2, tn3, tn4, tn5, tn6, tn7, tn8, tn9, tn10, tn12, tn18, tn40, tn50, tn60, tn90, tn92, tn112, tn212, tnn1, ni0, ni1, ni2, ni3, ni4, ni5, ni6, ni7, er1, er2, er3, er4, er5, lg_cmp_lt, lg_cmp_le, lg_cmp_gt, lg_cmp_ge, lg_cmp_eq, in_m99_299, in_0_1, in_0_19999, in_0_2, in_0_200, in_0_3, in_0_30, in_0_4, in_0_6, in_0_60, in_0_69, in_0_9, in_0_99, in_1_200, in_1_3, in_1_40, in_1_5, in_1_60, in_1_8, in_4_40, in_0e, RE_again]
  intros
  (repeat' (first | with_reducible apply And.intro | with_reducible intro _)) <;> (try first | apply pR_some | apply pR_none) <;> first | grind [txb, pT, lawHi, lawLo, rpn, rpS, joinI, remI, isPartI, heldI, lagM, lagI, quin, flq, quad, tri, vW, vOff, vY, vV, vP, vN, fmodI, absI, vL, vF, holdsI, maxI, bI, agnI, frcI, eqM, Post_X9_finds, Pre_X9_finds, Val_X9_in, Post_X9_common, Pre_X9_common, Post_X9_casesAt, lagV, frG, Pre_X9_casesAt, Post_X9_surestOf, Pre_X9_surestOf, Val_X9_isSpan, Val_X9_isFlyer, up2_ap, cpr_ap, vp1, vp2, vp3, vp4, vp5, vp6, vp20, vp40, vp50, vp60, vp160, vp264, tnc, nIX, nIc, tncA, tncS, tncM, l56, eqM_rfl, up2_row, InvF, InvF0, dF1, dF2, sw0, sw1, InvT] | sorry

