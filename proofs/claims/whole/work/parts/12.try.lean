set_option maxHeartbeats 200000 in
theorem vc_X9_isSheet : vcS_X9_isSheet := by
  unfold vcS_X9_isSheet
  simp only [wp_X9_isSheet, pI_iff, pV_iff, pL_iff, Val_X9_isSheet, tn0, tn1, tn2, tn3, tn4, tn5, tn6, tn7, tn8, tn9, tn10, tn12, tn18, tn40, tn50, tn60, tn90, tn92, tn112, tn212, tnn1, ni0, ni1, ni2, ni3, ni4, ni5, ni6, ni7, er1, er2, er3, er4, er5, lg_cmp_lt, lg_cmp_le, lg_cmp_gt, lg_cmp_ge, lg_cmp_eq, in_m99_299, in_0_1, in_0_19999, in_0_2, in_0_200, in_0_3, in_0_30, in_0_4, in_0_6, in_0_60, in_0_69, in_0_9, in_0_99, in_1_200, in_1_3, in_1_40, in_1_5, in_1_60, in_1_8, in_4_40, in_0e]
  intros
  (repeat' (first | with_reducible apply And.intro | with_reducible intro _)) <;> (try first | apply pR_some | apply pR_none) <;> first | grind [Val_X9_isSheet, Val_X9_in, up2_ap, cpr_ap, vp1, vp2, vp3, vp4, vp5, vp6, vp20, vp40, vp50, vp60, vp160, vp264, tnc, nIX, nIc, tncA, tncS, tncM, l56, eqM_rfl, up2_row, InvF, InvF0, dF1, dF2, sw0, sw1, InvT] | sorry

set_option maxHeartbeats 200000 in
theorem vc_X9_seed : vcS_X9_seed := by
  unfold vcS_X9_seed
  simp only [wp_X9_seed, pI_iff, pV_iff, pL_iff, Post_X9_seed, Pre_X9_seed, tn0, tn1, tn2, tn3, tn4, tn5, tn6, tn7, tn8, tn9, tn10, tn12, tn18, tn40, tn50, tn60, tn90, tn92, tn112, tn212, tnn1, ni0, ni1, ni2, ni3, ni4, ni5, ni6, ni7, er1, er2, er3, er4, er5, lg_cmp_lt, lg_cmp_le, lg_cmp_gt, lg_cmp_ge, lg_cmp_eq, in_m99_299, in_0_1, in_0_19999, in_0_2, in_0_200, in_0_3, in_0_30, in_0_4, in_0_6, in_0_60, in_0_69, in_0_9, in_0_99, in_1_200, in_1_3, in_1_40, in_1_5, in_1_60, in_1_8, in_4_40, in_0e, RE_seed]
  intros
  (repeat' (first | with_reducible apply And.intro | with_reducible intro _)) <;> (try first | apply pR_some | apply pR_none) <;> first | grind [txb, pT, eqM, up2_ap, cpr_ap, vp1, vp2, vp3, vp4, vp5, vp6, vp20, vp40, vp50, vp60, vp160, vp264, tnc, nIX, nIc, tncA, tncS, tncM, l56, eqM_rfl, up2_row, InvF, InvF0, dF1, dF2, sw0, sw1, InvT] | sorry

set_option maxHeartbeats 200000 in
theorem vc_X9_ran : vcS_X9_ran := by
  unfold vcS_X9_ran
  simp only [wp_X9_ran, pI_iff, pV_iff, pL_iff, Post_X9_ran, Pre_X9_ran, tn0, tn1, tn2, tn3, tn4, tn5, tn6, tn7, tn8, tn9, tn10, tn12, tn18, tn40, tn50, tn60, tn90, tn92, tn112, tn212, tnn1, ni0, ni1, ni2, ni3, ni4, ni5, ni6, ni7, er1, er2, er3, er4, er5, lg_cmp_lt, lg_cmp_le, lg_cmp_gt, lg_cmp_ge, lg_cmp_eq, in_m99_299, in_0_1, in_0_19999, in_0_2, in_0_200, in_0_3, in_0_30, in_0_4, in_0_6, in_0_60, in_0_69, in_0_9, in_0_99, in_1_200, in_1_3, in_1_40, in_1_5, in_1_60, in_1_8, in_4_40, in_0e]
  intros
  (repeat' (first | with_reducible apply And.intro | with_reducible intro _)) <;> (try first | apply pR_some | apply pR_none) <;> first | grind [up2_ap, cpr_ap, vp1, vp2, vp3, vp4, vp5, vp6, vp20, vp40, vp50, vp60, vp160, vp264, tnc, nIX, nIc, tncA, tncS, tncM, l56, eqM_rfl, up2_row, InvF, InvF0, dF1, dF2, sw0, sw1, InvT] | sorry

set_option maxHeartbeats 200000 in
theorem vc_X9_own : vcS_X9_own := by
  unfold vcS_X9_own
  simp only [wp_X9_own, pI_iff, pV_iff, pL_iff, Val_X9_own, Pre_X9_own, tn0, tn1, tn2, tn3, tn4, tn5, tn6, tn7, tn8, tn9, tn10, tn12, tn18, tn40, tn50, tn60, tn90, tn92, tn112, tn212, tnn1, ni0, ni1, ni2, ni3, ni4, ni5, ni6, ni7, er1, er2, er3, er4, er5, lg_cmp_lt, lg_cmp_le, lg_cmp_gt, lg_cmp_ge, lg_cmp_eq, in_m99_299, in_0_1, in_0_19999, in_0_2, in_0_200, in_0_3, in_0_30, in_0_4, in_0_6, in_0_60, in_0_69, in_0_9, in_0_99, in_1_200, in_1_3, in_1_40, in_1_5, in_1_60, in_1_8, in_4_40, in_0e]
  intros
  (repeat' (first | with_reducible apply And.intro | with_reducible intro _)) <;> (try first | apply pR_some | apply pR_none) <;> first | grind [Val_X9_own, fl4, Val_X9_of, Pre_X9_of, up2_ap, cpr_ap, vp1, vp2, vp3, vp4, vp5, vp6, vp20, vp40, vp50, vp60, vp160, vp264, tnc, nIX, nIc, tncA, tncS, tncM, l56, eqM_rfl, up2_row, InvF, InvF0, dF1, dF2, sw0, sw1, InvT] | sorry

set_option maxHeartbeats 200000 in
theorem vc_X9_voice : vcS_X9_voice := by
  unfold vcS_X9_voice
  simp only [wp_X9_voice_L20, wp_X9_voice, pI_iff, pV_iff, pL_iff, Post_X9_voice, Pre_X9_voice, tn0, tn1, tn2, tn3, tn4, tn5, tn6, tn7, tn8, tn9, tn10, tn12, tn18, tn40, tn50, tn60, tn90, tn92, tn112, tn212, tnn1, ni0, ni1, ni2, ni3, ni4, ni5, ni6, ni7, er1, er2, er3, er4, er5, lg_cmp_lt, lg_cmp_le, lg_cmp_gt, lg_cmp_ge, lg_cmp_eq, in_m99_299, in_0_1, in_0_19999, in_0_2, in_0_200, in_0_3, in_0_30, in_0_4, in_0_6, in_0_60, in_0_69, in_0_9, in_0_99, in_1_200, in_1_3, in_1_40, in_1_5, in_1_60, in_1_8, in_4_40, in_0e, RE_voice]
  intros
  (repeat' (first | with_reducible apply And.intro | with_reducible intro _)) <;> (try first | apply pR_some | apply pR_none) <;> first | grind [txb, pT, voM, fl4, trcF, eqM, Post_X9_finds, Pre_X9_finds, Val_X9_in, Val_X9_own, Post_X9_swingsBy, trA, klv, awt, Pre_X9_swingsBy, kOK, Post_X9_fliesBy, Pre_X9_fliesBy, Post_X9_fallsBy, Pre_X9_fallsBy, Post_X9_tellsBy, Pre_X9_tellsBy, Pre_X9_own, Val_X9_isFlyer, up2_ap, cpr_ap, vp1, vp2, vp3, vp4, vp5, vp6, vp20, vp40, vp50, vp60, vp160, vp264, tnc, nIX, nIc, tncA, tncS, tncM, l56, eqM_rfl, up2_row, InvF, InvF0, dF1, dF2, sw0, sw1, InvT] | sorry

set_option maxHeartbeats 200000 in
theorem vc_X9_trace : vcS_X9_trace := by
  unfold vcS_X9_trace
  simp only [wp_X9_trace, pI_iff, pV_iff, pL_iff, Post_X9_trace, Pre_X9_trace, tn0, tn1, tn2, tn3, tn4, tn5, tn6, tn7, tn8, tn9, tn10, tn12, tn18, tn40, tn50, tn60, tn90, tn92, tn112, tn212, tnn1, ni0, ni1, ni2, ni3, ni4, ni5, ni6, ni7, er1, er2, er3, er4, er5, lg_cmp_lt, lg_cmp_le, lg_cmp_gt, lg_cmp_ge, lg_cmp_eq, in_m99_299, in_0_1, in_0_19999, in_0_2, in_0_200, in_0_3, in_0_30, in_0_4, in_0_6, in_0_60, in_0_69, in_0_9, in_0_99, in_1_200, in_1_3, in_1_40, in_1_5, in_1_60, in_1_8, in_4_40, in_0e, RE_trace]
  intros
  (repeat' (first | with_reducible apply And.intro | with_reducible intro _)) <;> (try first | apply pR_some | apply pR_none) <;> first | grind [txb, pT, eqM, Val_X9_in, Post_X9_finds, Pre_X9_finds, up2_ap, cpr_ap, vp1, vp2, vp3, vp4, vp5, vp6, vp20, vp40, vp50, vp60, vp160, vp264, tnc, nIX, nIc, tncA, tncS, tncM, l56, eqM_rfl, up2_row, InvF, InvF0, dF1, dF2, sw0, sw1, InvT] | sorry

set_option maxHeartbeats 200000 in
theorem vc_X9_put : vcS_X9_put := by
  unfold vcS_X9_put
  simp only [wp_X9_put_L95, wp_X9_put, pI_iff, pV_iff, pL_iff, Post_X9_put, Pre_X9_put, tn0, tn1, tn2, tn3, tn4, tn5, tn6, tn7, tn8, tn9, tn10, tn12, tn18, tn40, tn50, tn60, tn90, tn92, tn112, tn212, tnn1, ni0, ni1, ni2, ni3, ni4, ni5, ni6, ni7, er1, er2, er3, er4, er5, lg_cmp_lt, lg_cmp_le, lg_cmp_gt, lg_cmp_ge, lg_cmp_eq, in_m99_299, in_0_1, in_0_19999, in_0_2, in_0_200, in_0_3, in_0_30, in_0_4, in_0_6, in_0_60, in_0_69, in_0_9, in_0_99, in_1_200, in_1_3, in_1_40, in_1_5, in_1_60, in_1_8, in_4_40, in_0e, RE_put]
  intros
  (repeat' (first | with_reducible apply And.intro | with_reducible intro _)) <;> (try first | apply pR_some | apply pR_none) <;> first | grind [txb, pT, narI, eqM, Post_X9_finds, Pre_X9_finds, Val_X9_isSheet, Val_X9_in, up2_ap, cpr_ap, vp1, vp2, vp3, vp4, vp5, vp6, vp20, vp40, vp50, vp60, vp160, vp264, tnc, nIX, nIc, tncA, tncS, tncM, l56, eqM_rfl, up2_row, InvF, InvF0, dF1, dF2, sw0, sw1, InvT] | sorry

set_option maxHeartbeats 200000 in
theorem vc_X9_tell : vcS_X9_tell := by
  unfold vcS_X9_tell
  simp only [wp_X9_tell, pI_iff, pV_iff, pL_iff, Post_X9_tell, Pre_X9_tell, tn0, tn1, tn2, tn3, tn4, tn5, tn6, tn7, tn8, tn9, tn10, tn12, tn18, tn40, tn50, tn60, tn90, tn92, tn112, tn212, tnn1, ni0, ni1, ni2, ni3, ni4, ni5, ni6, ni7, er1, er2, er3, er4, er5, lg_cmp_lt, lg_cmp_le, lg_cmp_gt, lg_cmp_ge, lg_cmp_eq, in_m99_299, in_0_1, in_0_19999, in_0_2, in_0_200, in_0_3, in_0_30, in_0_4, in_0_6, in_0_60, in_0_69, in_0_9, in_0_99, in_1_200, in_1_3, in_1_40, in_1_5, in_1_60, in_1_8, in_4_40, in_0e, RE_tell]
  intros
  (repeat' (first | with_reducible apply And.intro | with_reducible intro _)) <;> (try first | apply pR_some | apply pR_none) <;> first | grind [txb, pT, eqM, Post_X9_finds, Pre_X9_finds, up2_ap, cpr_ap, vp1, vp2, vp3, vp4, vp5, vp6, vp20, vp40, vp50, vp60, vp160, vp264, tnc, nIX, nIc, tncA, tncS, tncM, l56, eqM_rfl, up2_row, InvF, InvF0, dF1, dF2, sw0, sw1, InvT] | sorry

set_option maxHeartbeats 200000 in
theorem vc_X9_count : vcS_X9_count := by
  unfold vcS_X9_count
  simp only [wp_X9_count, pI_iff, pV_iff, pL_iff, Post_X9_count, Pre_X9_count, tn0, tn1, tn2, tn3, tn4, tn5, tn6, tn7, tn8, tn9, tn10, tn12, tn18, tn40, tn50, tn60, tn90, tn92, tn112, tn212, tnn1, ni0, ni1, ni2, ni3, ni4, ni5, ni6, ni7, er1, er2, er3, er4, er5, lg_cmp_lt, lg_cmp_le, lg_cmp_gt, lg_cmp_ge, lg_cmp_eq, in_m99_299, in_0_1, in_0_19999, in_0_2, in_0_200, in_0_3, in_0_30, in_0_4, in_0_6, in_0_60, in_0_69, in_0_9, in_0_99, in_1_200, in_1_3, in_1_40, in_1_5, in_1_60, in_1_8, in_4_40, in_0e, RE_count]
  intros
  (repeat' (first | with_reducible apply And.intro | with_reducible intro _)) <;> (try first | apply pR_some | apply pR_none) <;> first | grind [txb, pT, eqM, Post_X9_finds, Pre_X9_finds, up2_ap, cpr_ap, vp1, vp2, vp3, vp4, vp5, vp6, vp20, vp40, vp50, vp60, vp160, vp264, tnc, nIX, nIc, tncA, tncS, tncM, l56, eqM_rfl, up2_row, InvF, InvF0, dF1, dF2, sw0, sw1, InvT] | sorry

set_option maxHeartbeats 200000 in
theorem vc_X9_told : vcS_X9_told := by
  unfold vcS_X9_told
  simp only [wp_X9_told, pI_iff, pV_iff, pL_iff, Post_X9_told, Pre_X9_told, tn0, tn1, tn2, tn3, tn4, tn5, tn6, tn7, tn8, tn9, tn10, tn12, tn18, tn40, tn50, tn60, tn90, tn92, tn112, tn212, tnn1, ni0, ni1, ni2, ni3, ni4, ni5, ni6, ni7, er1, er2, er3, er4, er5, lg_cmp_lt, lg_cmp_le, lg_cmp_gt, lg_cmp_ge, lg_cmp_eq, in_m99_299, in_0_1, in_0_19999, in_0_2, in_0_200, in_0_3, in_0_30, in_0_4, in_0_6, in_0_60, in_0_69, in_0_9, in_0_99, in_1_200, in_1_3, in_1_40, in_1_5, in_1_60, in_1_8, in_4_40, in_0e, RE_told]
  intros
  (repeat' (first | with_reducible apply And.intro | with_reducible intro _)) <;> (try first | apply pR_some | apply pR_none) <;> first | grind [txb, pT, eqM, Val_X9_in, Post_X9_finds, Pre_X9_finds, up2_ap, cpr_ap, vp1, vp2, vp3, vp4, vp5, vp6, vp20, vp40, vp50, vp60, vp160, vp264, tnc, nIX, nIc, tncA, tncS, tncM, l56, eqM_rfl, up2_row, InvF, InvF0, dF1, dF2, sw0, sw1, InvT] | sorry

