set_option maxHeartbeats 200000 in
theorem vc_X8_sheetOf : vcS_X8_sheetOf := by
  unfold vcS_X8_sheetOf
  simp only [wp_X8_sheetOf, pI_iff, pV_iff, pL_iff, Val_X8_sheetOf, tn0, tn1, tn2, tn3, tn4, tn5, tn6, tn7, tn8, tn9, tn10, tn12, tn18, tn40, tn50, tn60, tn90, tn92, tn112, tn212, tnn1, ni0, ni1, ni2, ni3, ni4, ni5, ni6, ni7, lg_cmp_lt, lg_cmp_le, lg_cmp_gt, lg_cmp_ge, lg_cmp_eq]
  intros
  (repeat' (first | with_reducible apply And.intro | with_reducible intro _)) <;> (try first | apply pR_some | apply pR_none) <;> first | grind [Val_X8_within, wthI, up2_ap, vp1, vp2, vp3, vp4, vp5, vp6, vp20, vp40, vp50, vp60, tnc, tncA, tncS, tncM, eqM_rfl, up2_row, InvF, InvF0, dF2, sw0, sw1, InvT, → flyerS, → flyerN, → startV, → err1, → err2, → err3, → err4, → err5, → sheetS, → sheetN, → swingS, → swingN, → lawS, → lawN, → CplEqT, → CplTFr, → CplW, → CplSw, → orNf, → flIs, → swIs, → lawIs, → shIs, ← CplUp, ← CplFlV, → CplFl, → swVC, → givesC] | sorry

set_option maxHeartbeats 200000 in
theorem vc_X8_isKindAndNumber : vcS_X8_isKindAndNumber := by
  unfold vcS_X8_isKindAndNumber
  simp only [wp_X8_isKindAndNumber, pI_iff, pV_iff, pL_iff, Val_X8_isKindAndNumber, tn0, tn1, tn2, tn3, tn4, tn5, tn6, tn7, tn8, tn9, tn10, tn12, tn18, tn40, tn50, tn60, tn90, tn92, tn112, tn212, tnn1, ni0, ni1, ni2, ni3, ni4, ni5, ni6, ni7, lg_cmp_lt, lg_cmp_le, lg_cmp_gt, lg_cmp_ge, lg_cmp_eq]
  intros
  (repeat' (first | with_reducible apply And.intro | with_reducible intro _)) <;> (try first | apply pR_some | apply pR_none) <;> first | grind [Val_X8_isKindAndNumber, wthI, Val_X8_within, up2_ap, vp1, vp2, vp3, vp4, vp5, vp6, vp20, vp40, vp50, vp60, tnc, tncA, tncS, tncM, eqM_rfl, up2_row, InvF, InvF0, dF2, sw0, sw1, InvT, → flyerS, → flyerN, → startV, → err1, → err2, → err3, → err4, → err5, → sheetS, → sheetN, → swingS, → swingN, → lawS, → lawN, → CplEqT, → CplTFr, → CplW, → CplSw, → orNf, → flIs, → swIs, → lawIs, → shIs, ← CplUp, ← CplFlV, → CplFl, → swVC, → givesC] | sorry

set_option maxHeartbeats 200000 in
theorem vc_X8_goToldAt : vcS_X8_goToldAt := by
  unfold vcS_X8_goToldAt
  simp only [wp_X8_goToldAt, pI_iff, pV_iff, pL_iff, Post_X8_goToldAt, Pre_X8_goToldAt, tn0, tn1, tn2, tn3, tn4, tn5, tn6, tn7, tn8, tn9, tn10, tn12, tn18, tn40, tn50, tn60, tn90, tn92, tn112, tn212, tnn1, ni0, ni1, ni2, ni3, ni4, ni5, ni6, ni7, lg_cmp_lt, lg_cmp_le, lg_cmp_gt, lg_cmp_ge, lg_cmp_eq]
  intros
  (repeat' (first | with_reducible apply And.intro | with_reducible intro _)) <;> (try first | apply pR_some | apply pR_none) <;> first | grind [minI, rowL, rpn, rpS, joinI, remI, isPartI, maxI, quin, qd4, quad, tr3, tri, vY, vV, vP, vN, fmodI, absI, vL, vW, vF, Val_J9_min_7cf53, Val_J9_abs_0f7a4, Val_X0_harm, Post_X5_isCaught, bI, up2_ap, vp1, vp2, vp3, vp4, vp5, vp6, vp20, vp40, vp50, vp60, tnc, tncA, tncS, tncM, eqM_rfl, up2_row, InvF, InvF0, dF2, sw0, sw1, InvT, → flyerS, → flyerN, → startV, → err1, → err2, → err3, → err4, → err5, → sheetS, → sheetN, → swingS, → swingN, → lawS, → lawN, → CplEqT, → CplTFr, → CplW, → CplSw, → orNf, → flIs, → swIs, → lawIs, → shIs, ← CplUp, ← CplFlV, → CplFl, → swVC, → givesC] | sorry

set_option maxHeartbeats 200000 in
theorem vc_X8_swing : vcS_X8_swing := by
  unfold vcS_X8_swing
  simp only [wp_X8_swing_L25, wp_X8_swing, pI_iff, pV_iff, pL_iff, Post_X8_swing, Pre_X8_swing, tn0, tn1, tn2, tn3, tn4, tn5, tn6, tn7, tn8, tn9, tn10, tn12, tn18, tn40, tn50, tn60, tn90, tn92, tn112, tn212, tnn1, ni0, ni1, ni2, ni3, ni4, ni5, ni6, ni7, lg_cmp_lt, lg_cmp_le, lg_cmp_gt, lg_cmp_ge, lg_cmp_eq, RE_swing]
  intros
  (repeat' (first | with_reducible apply And.intro | with_reducible intro _)) <;> (try first | apply pR_some | apply pR_none) <;> first | grind [txb, pT, lawHi, lawLo, fl4, remI, Val_X4_takes, wthI, Post_X4_change, swCh, maxI, up2_ap, vp1, vp2, vp3, vp4, vp5, vp6, vp20, vp40, vp50, vp60, tnc, tncA, tncS, tncM, eqM_rfl, up2_row, InvF, InvF0, dF2, sw0, sw1, InvT, → flyerS, → flyerN, → startV, → err1, → err2, → err3, → err4, → err5, → sheetS, → sheetN, → swingS, → swingN, → lawS, → lawN, → CplEqT, → CplTFr, → CplW, → CplSw, → orNf, → flIs, → swIs, → lawIs, → shIs, ← CplUp, ← CplFlV, → CplFl, → swVC, → givesC] | sorry

set_option maxHeartbeats 200000 in
theorem vc_X8_bar : vcS_X8_bar := by
  unfold vcS_X8_bar
  simp only [wp_X8_bar_L24, wp_X8_bar, pI_iff, pV_iff, pL_iff, Post_X8_bar, Pre_X8_bar, tn0, tn1, tn2, tn3, tn4, tn5, tn6, tn7, tn8, tn9, tn10, tn12, tn18, tn40, tn50, tn60, tn90, tn92, tn112, tn212, tnn1, ni0, ni1, ni2, ni3, ni4, ni5, ni6, ni7, lg_cmp_lt, lg_cmp_le, lg_cmp_gt, lg_cmp_ge, lg_cmp_eq, RE_bar]
  intros
  (repeat' (first | with_reducible apply And.intro | with_reducible intro _)) <;> (try first | apply pR_some | apply pR_none) <;> first | grind [txb, pT, lawHi, lawLo, fl4, tri, fmodI, remI, absI, Val_X8_within, wthI, Val_X4_placeAt, up2_ap, vp1, vp2, vp3, vp4, vp5, vp6, vp20, vp40, vp50, vp60, tnc, tncA, tncS, tncM, eqM_rfl, up2_row, InvF, InvF0, dF2, sw0, sw1, InvT, → flyerS, → flyerN, → startV, → err1, → err2, → err3, → err4, → err5, → sheetS, → sheetN, → swingS, → swingN, → lawS, → lawN, → CplEqT, → CplTFr, → CplW, → CplSw, → orNf, → flIs, → swIs, → lawIs, → shIs, ← CplUp, ← CplFlV, → CplFl, → swVC, → givesC] | sorry

set_option maxHeartbeats 200000 in
theorem vc_X8_flyer : vcS_X8_flyer := by
  unfold vcS_X8_flyer
  simp only [wp_X8_flyer_L70, wp_X8_flyer, pI_iff, pV_iff, pL_iff, Post_X8_flyer, Pre_X8_flyer, tn0, tn1, tn2, tn3, tn4, tn5, tn6, tn7, tn8, tn9, tn10, tn12, tn18, tn40, tn50, tn60, tn90, tn92, tn112, tn212, tnn1, ni0, ni1, ni2, ni3, ni4, ni5, ni6, ni7, lg_cmp_lt, lg_cmp_le, lg_cmp_gt, lg_cmp_ge, lg_cmp_eq, RE_flyer]
  intros
  (repeat' (first | with_reducible apply And.intro | with_reducible intro _)) <;> (try first | apply pR_some | apply pR_none) <;> first | grind [txb, pT, lawHi, lawLo, fl4, remI, Val_X8_isKindAndNumber, wthI, Post_X0_begin, flT, up2_ap, vp1, vp2, vp3, vp4, vp5, vp6, vp20, vp40, vp50, vp60, tnc, tncA, tncS, tncM, eqM_rfl, up2_row, InvF, InvF0, dF2, sw0, sw1, InvT, → flyerS, → flyerN, → startV, → err1, → err2, → err3, → err4, → err5, → sheetS, → sheetN, → swingS, → swingN, → lawS, → lawN, → CplEqT, → CplTFr, → CplW, → CplSw, → orNf, → flIs, → swIs, → lawIs, → shIs, ← CplUp, ← CplFlV, → CplFl, → swVC, → givesC] | sorry

set_option maxHeartbeats 200000 in
theorem vc_X8_ofFlyer : vcS_X8_ofFlyer := by
  unfold vcS_X8_ofFlyer
  simp only [wp_X8_ofFlyer_L23, wp_X8_ofFlyer, pI_iff, pV_iff, pL_iff, Post_X8_ofFlyer, Pre_X8_ofFlyer, tn0, tn1, tn2, tn3, tn4, tn5, tn6, tn7, tn8, tn9, tn10, tn12, tn18, tn40, tn50, tn60, tn90, tn92, tn112, tn212, tnn1, ni0, ni1, ni2, ni3, ni4, ni5, ni6, ni7, lg_cmp_lt, lg_cmp_le, lg_cmp_gt, lg_cmp_ge, lg_cmp_eq, RE_ofFlyer]
  intros
  (repeat' (first | with_reducible apply And.intro | with_reducible intro _)) <;> (try first | apply pR_some | apply pR_none) <;> first | grind [txb, pT, lawHi, lawLo, fl4, maxI, lagM, remI, Val_X8_within, wthI, Val_X0_harm, Val_X0_holds, Val_X0_lag, up2_ap, vp1, vp2, vp3, vp4, vp5, vp6, vp20, vp40, vp50, vp60, tnc, tncA, tncS, tncM, eqM_rfl, up2_row, InvF, InvF0, dF2, sw0, sw1, InvT, → flyerS, → flyerN, → startV, → err1, → err2, → err3, → err4, → err5, → sheetS, → sheetN, → swingS, → swingN, → lawS, → lawN, → CplEqT, → CplTFr, → CplW, → CplSw, → orNf, → flIs, → swIs, → lawIs, → shIs, ← CplUp, ← CplFlV, → CplFl, → swVC, → givesC] | sorry

set_option maxHeartbeats 200000 in
theorem vc_X8_become : vcS_X8_become := by
  unfold vcS_X8_become
  simp only [wp_X8_become_L20, wp_X8_become, pI_iff, pV_iff, pL_iff, Post_X8_become, Pre_X8_become, tn0, tn1, tn2, tn3, tn4, tn5, tn6, tn7, tn8, tn9, tn10, tn12, tn18, tn40, tn50, tn60, tn90, tn92, tn112, tn212, tnn1, ni0, ni1, ni2, ni3, ni4, ni5, ni6, ni7, lg_cmp_lt, lg_cmp_le, lg_cmp_gt, lg_cmp_ge, lg_cmp_eq, RE_become]
  intros
  (repeat' (first | with_reducible apply And.intro | with_reducible intro _)) <;> (try first | apply pR_some | apply pR_none) <;> first | grind [txb, pT, lawHi, lawLo, fl4, remI, Val_X8_isKindAndNumber, wthI, Post_X0_take, flT, up2_ap, vp1, vp2, vp3, vp4, vp5, vp6, vp20, vp40, vp50, vp60, tnc, tncA, tncS, tncM, eqM_rfl, up2_row, InvF, InvF0, dF2, sw0, sw1, InvT, → flyerS, → flyerN, → startV, → err1, → err2, → err3, → err4, → err5, → sheetS, → sheetN, → swingS, → swingN, → lawS, → lawN, → CplEqT, → CplTFr, → CplW, → CplSw, → orNf, → flIs, → swIs, → lawIs, → shIs, ← CplUp, ← CplFlV, → CplFl, → swVC, → givesC] | sorry

set_option maxHeartbeats 200000 in
theorem vc_X8_as : vcS_X8_as := by
  unfold vcS_X8_as
  simp only [wp_X8_as_L23, wp_X8_as, pI_iff, pV_iff, pL_iff, Post_X8_as, Pre_X8_as, tn0, tn1, tn2, tn3, tn4, tn5, tn6, tn7, tn8, tn9, tn10, tn12, tn18, tn40, tn50, tn60, tn90, tn92, tn112, tn212, tnn1, ni0, ni1, ni2, ni3, ni4, ni5, ni6, ni7, lg_cmp_lt, lg_cmp_le, lg_cmp_gt, lg_cmp_ge, lg_cmp_eq, RE_as]
  intros
  (repeat' (first | with_reducible apply And.intro | with_reducible intro _)) <;> (try first | apply pR_some | apply pR_none) <;> first | grind [txb, pT, lawHi, lawLo, fl4, abvI, Val_X8_within, wthI, Val_X0_isOf, isOfI, kAb, Pre_X0_isOf, kOK, up2_ap, vp1, vp2, vp3, vp4, vp5, vp6, vp20, vp40, vp50, vp60, tnc, tncA, tncS, tncM, eqM_rfl, up2_row, InvF, InvF0, dF2, sw0, sw1, InvT, → flyerS, → flyerN, → startV, → err1, → err2, → err3, → err4, → err5, → sheetS, → sheetN, → swingS, → swingN, → lawS, → lawN, → CplEqT, → CplTFr, → CplW, → CplSw, → orNf, → flIs, → swIs, → lawIs, → shIs, ← CplUp, ← CplFlV, → CplFl, → swVC, → givesC] | sorry

set_option maxHeartbeats 200000 in
theorem vc_X8_text : vcS_X8_text := by
  unfold vcS_X8_text
  simp only [wp_X8_text, pI_iff, pV_iff, pL_iff, Post_X8_text, Pre_X8_text, tn0, tn1, tn2, tn3, tn4, tn5, tn6, tn7, tn8, tn9, tn10, tn12, tn18, tn40, tn50, tn60, tn90, tn92, tn112, tn212, tnn1, ni0, ni1, ni2, ni3, ni4, ni5, ni6, ni7, lg_cmp_lt, lg_cmp_le, lg_cmp_gt, lg_cmp_ge, lg_cmp_eq, RE_text]
  intros
  (repeat' (first | with_reducible apply And.intro | with_reducible intro _)) <;> (try first | apply pR_some | apply pR_none) <;> first | grind [txb, pT, lawHi, lawLo, fl4, Post_X1_take, minI, Post_X2_readTape, Pre_X2_readTape, up2_ap, vp1, vp2, vp3, vp4, vp5, vp6, vp20, vp40, vp50, vp60, tnc, tncA, tncS, tncM, eqM_rfl, up2_row, InvF, InvF0, dF2, sw0, sw1, InvT, → flyerS, → flyerN, → startV, → err1, → err2, → err3, → err4, → err5, → sheetS, → sheetN, → swingS, → swingN, → lawS, → lawN, → CplEqT, → CplTFr, → CplW, → CplSw, → orNf, → flIs, → swIs, → lawIs, → shIs, ← CplUp, ← CplFlV, → CplFl, → swVC, → givesC] | sorry

set_option maxHeartbeats 200000 in
theorem vc_X8_law : vcS_X8_law := by
  unfold vcS_X8_law
  simp only [wp_X8_law, pI_iff, pV_iff, pL_iff, Post_X8_law, Pre_X8_law, tn0, tn1, tn2, tn3, tn4, tn5, tn6, tn7, tn8, tn9, tn10, tn12, tn18, tn40, tn50, tn60, tn90, tn92, tn112, tn212, tnn1, ni0, ni1, ni2, ni3, ni4, ni5, ni6, ni7, lg_cmp_lt, lg_cmp_le, lg_cmp_gt, lg_cmp_ge, lg_cmp_eq, RE_law]
  intros
  (repeat' (first | with_reducible apply And.intro | with_reducible intro _)) <;> (try first | apply pR_some | apply pR_none) <;> first | grind [txb, pT, lawHi, lawLo, fl4, rpn, rpS, joinI, remI, isPartI, heldI, rowL, minI, maxI, up2_ap, vp1, vp2, vp3, vp4, vp5, vp6, vp20, vp40, vp50, vp60, tnc, tncA, tncS, tncM, eqM_rfl, up2_row, InvF, InvF0, dF2, sw0, sw1, InvT, → flyerS, → flyerN, → startV, → err1, → err2, → err3, → err4, → err5, → sheetS, → sheetN, → swingS, → swingN, → lawS, → lawN, → CplEqT, → CplTFr, → CplW, → CplSw, → orNf, → flIs, → swIs, → lawIs, → shIs, ← CplUp, ← CplFlV, → CplFl, → swVC, → givesC] | sorry

set_option maxHeartbeats 200000 in
theorem vc_X8_go : vcS_X8_go := by
  unfold vcS_X8_go
  simp only [wp_X8_go, pI_iff, pV_iff, pL_iff, Post_X8_go, Pre_X8_go, tn0, tn1, tn2, tn3, tn4, tn5, tn6, tn7, tn8, tn9, tn10, tn12, tn18, tn40, tn50, tn60, tn90, tn92, tn112, tn212, tnn1, ni0, ni1, ni2, ni3, ni4, ni5, ni6, ni7, lg_cmp_lt, lg_cmp_le, lg_cmp_gt, lg_cmp_ge, lg_cmp_eq, RE_go]
  intros
  (repeat' (first | with_reducible apply And.intro | with_reducible intro _)) <;> (try first | apply pR_some | apply pR_none) <;> first | grind [txb, pT, lawHi, lawLo, fl4, heldI, rpn, rpS, joinI, remI, isPartI, lagM, quin, flq, quad, tri, vW, vY, vV, vP, vN, fmodI, absI, vL, hmM, vF, maxI, Post_X8_goToldAt, minI, rowL, qd4, tr3, Pre_X8_goToldAt, up2_ap, vp1, vp2, vp3, vp4, vp5, vp6, vp20, vp40, vp50, vp60, tnc, tncA, tncS, tncM, eqM_rfl, up2_row, InvF, InvF0, dF2, sw0, sw1, InvT, → flyerS, → flyerN, → startV, → err1, → err2, → err3, → err4, → err5, → sheetS, → sheetN, → swingS, → swingN, → lawS, → lawN, → CplEqT, → CplTFr, → CplW, → CplSw, → orNf, → flIs, → swIs, → lawIs, → shIs, ← CplUp, ← CplFlV, → CplFl, → swVC, → givesC] | sorry

set_option maxHeartbeats 200000 in
theorem vc_X8_then : vcS_X8_then := by
  unfold vcS_X8_then
  simp only [wp_X8_then_L34, wp_X8_then, pI_iff, pV_iff, pL_iff, Post_X8_then, Pre_X8_then, tn0, tn1, tn2, tn3, tn4, tn5, tn6, tn7, tn8, tn9, tn10, tn12, tn18, tn40, tn50, tn60, tn90, tn92, tn112, tn212, tnn1, ni0, ni1, ni2, ni3, ni4, ni5, ni6, ni7, lg_cmp_lt, lg_cmp_le, lg_cmp_gt, lg_cmp_ge, lg_cmp_eq, RE_then]
  intros
  (repeat' (first | with_reducible apply And.intro | with_reducible intro _)) <;> (try first | apply pR_some | apply pR_none) <;> first | grind [txb, pT, lawHi, lawLo, fl4, rpn, rpS, joinI, remI, isPartI, heldI, lagM, quin, flq, quad, tri, vW, vY, vV, vP, vN, fmodI, absI, vL, hmM, vF, maxI, bI, Val_X8_within, wthI, Val_J9_abs_0f7a4, Val_X0_harm, Val_X5_off, Post_X5_isCaught, rowL, minI, qd4, tr3, up2_ap, vp1, vp2, vp3, vp4, vp5, vp6, vp20, vp40, vp50, vp60, tnc, tncA, tncS, tncM, eqM_rfl, up2_row, InvF, InvF0, dF2, sw0, sw1, InvT, → flyerS, → flyerN, → startV, → err1, → err2, → err3, → err4, → err5, → sheetS, → sheetN, → swingS, → swingN, → lawS, → lawN, → CplEqT, → CplTFr, → CplW, → CplSw, → orNf, → flIs, → swIs, → lawIs, → shIs, ← CplUp, ← CplFlV, → CplFl, → swVC, → givesC] | sorry

set_option maxHeartbeats 200000 in
theorem vc_X8_odds : vcS_X8_odds := by
  unfold vcS_X8_odds
  simp only [wp_X8_odds_L34, wp_X8_odds, pI_iff, pV_iff, pL_iff, Post_X8_odds, Pre_X8_odds, tn0, tn1, tn2, tn3, tn4, tn5, tn6, tn7, tn8, tn9, tn10, tn12, tn18, tn40, tn50, tn60, tn90, tn92, tn112, tn212, tnn1, ni0, ni1, ni2, ni3, ni4, ni5, ni6, ni7, lg_cmp_lt, lg_cmp_le, lg_cmp_gt, lg_cmp_ge, lg_cmp_eq, RE_odds]
  intros
  (repeat' (first | with_reducible apply And.intro | with_reducible intro _)) <;> (try first | apply pR_some | apply pR_none) <;> first | grind [txb, pT, lawHi, lawLo, fl4, rpn, rpS, joinI, remI, isPartI, heldI, lagM, quin, flq, quad, tri, vW, vY, vV, vP, vN, fmodI, absI, vL, vF, maxI, bI, frcI, Val_X8_within, wthI, Val_X8_partOf, Pre_X8_partOf, Post_X5_casesCaught, rowL, minI, qd4, tr3, up2_ap, vp1, vp2, vp3, vp4, vp5, vp6, vp20, vp40, vp50, vp60, tnc, tncA, tncS, tncM, eqM_rfl, up2_row, InvF, InvF0, dF2, sw0, sw1, InvT, → flyerS, → flyerN, → startV, → err1, → err2, → err3, → err4, → err5, → sheetS, → sheetN, → swingS, → swingN, → lawS, → lawN, → CplEqT, → CplTFr, → CplW, → CplSw, → orNf, → flIs, → swIs, → lawIs, → shIs, ← CplUp, ← CplFlV, → CplFl, → swVC, → givesC] | sorry

set_option maxHeartbeats 200000 in
theorem vc_X8_pumped : vcS_X8_pumped := by
  unfold vcS_X8_pumped
  simp only [wp_X8_pumped_L20, wp_X8_pumped, pI_iff, pV_iff, pL_iff, Post_X8_pumped, Pre_X8_pumped, tn0, tn1, tn2, tn3, tn4, tn5, tn6, tn7, tn8, tn9, tn10, tn12, tn18, tn40, tn50, tn60, tn90, tn92, tn112, tn212, tnn1, ni0, ni1, ni2, ni3, ni4, ni5, ni6, ni7, lg_cmp_lt, lg_cmp_le, lg_cmp_gt, lg_cmp_ge, lg_cmp_eq, RE_pumped]
  intros
  (repeat' (first | with_reducible apply And.intro | with_reducible intro _)) <;> (try first | apply pR_some | apply pR_none) <;> first | grind [txb, pT, lawHi, lawLo, fl4, rpn, rpS, joinI, remI, isPartI, heldI, lagM, quin, flq, quad, tri, vN, minI, vL, vW, vY, vF, vV, vP, fmodI, absI, maxI, Val_X8_isSpan, wthI, Post_X5_leastPumps, rowL, qd4, tr3, Pre_X5_leastPumps, up2_ap, vp1, vp2, vp3, vp4, vp5, vp6, vp20, vp40, vp50, vp60, tnc, tncA, tncS, tncM, eqM_rfl, up2_row, InvF, InvF0, dF2, sw0, sw1, InvT, → flyerS, → flyerN, → startV, → err1, → err2, → err3, → err4, → err5, → sheetS, → sheetN, → swingS, → swingN, → lawS, → lawN, → CplEqT, → CplTFr, → CplW, → CplSw, → orNf, → flIs, → swIs, → lawIs, → shIs, ← CplUp, ← CplFlV, → CplFl, → swVC, → givesC] | sorry

set_option maxHeartbeats 200000 in
theorem vc_X8_inStep : vcS_X8_inStep := by
  unfold vcS_X8_inStep
  simp only [wp_X8_inStep_L20, wp_X8_inStep, pI_iff, pV_iff, pL_iff, Post_X8_inStep, Pre_X8_inStep, tn0, tn1, tn2, tn3, tn4, tn5, tn6, tn7, tn8, tn9, tn10, tn12, tn18, tn40, tn50, tn60, tn90, tn92, tn112, tn212, tnn1, ni0, ni1, ni2, ni3, ni4, ni5, ni6, ni7, lg_cmp_lt, lg_cmp_le, lg_cmp_gt, lg_cmp_ge, lg_cmp_eq, RE_inStep]
  intros
  (repeat' (first | with_reducible apply And.intro | with_reducible intro _)) <;> (try first | apply pR_some | apply pR_none) <;> first | grind [txb, pT, lawHi, lawLo, fl4, rpn, rpS, joinI, remI, isPartI, heldI, lagM, quin, flq, quad, tri, vF, vL, vW, vY, vN, vV, vP, fmodI, absI, maxI, Val_X8_isSpan, wthI, Post_X5_leastSteps, rowL, minI, qd4, tr3, Pre_X5_leastSteps, up2_ap, vp1, vp2, vp3, vp4, vp5, vp6, vp20, vp40, vp50, vp60, tnc, tncA, tncS, tncM, eqM_rfl, up2_row, InvF, InvF0, dF2, sw0, sw1, InvT, → flyerS, → flyerN, → startV, → err1, → err2, → err3, → err4, → err5, → sheetS, → sheetN, → swingS, → swingN, → lawS, → lawN, → CplEqT, → CplTFr, → CplW, → CplSw, → orNf, → flIs, → swIs, → lawIs, → shIs, ← CplUp, ← CplFlV, → CplFl, → swVC, → givesC] | sorry

set_option maxHeartbeats 200000 in
theorem vc_X8_mend : vcS_X8_mend := by
  unfold vcS_X8_mend
  simp only [wp_X8_mend_L46, wp_X8_mend, pI_iff, pV_iff, pL_iff, Post_X8_mend, Pre_X8_mend, tn0, tn1, tn2, tn3, tn4, tn5, tn6, tn7, tn8, tn9, tn10, tn12, tn18, tn40, tn50, tn60, tn90, tn92, tn112, tn212, tnn1, ni0, ni1, ni2, ni3, ni4, ni5, ni6, ni7, lg_cmp_lt, lg_cmp_le, lg_cmp_gt, lg_cmp_ge, lg_cmp_eq, RE_mend]
  intros
  (repeat' (first | with_reducible apply And.intro | with_reducible intro _)) <;> (try first | apply pR_some | apply pR_none) <;> first | grind [txb, pT, lawHi, lawLo, fl4, rpn, rpS, joinI, remI, isPartI, heldI, lagM, quin, flq, quad, tri, vW, vY, vV, vP, vN, fmodI, absI, vL, vF, mndI, Val_X8_within, wthI, Val_X5_off, Post_X5_fly, rowL, minI, maxI, qd4, tr3, up2_ap, vp1, vp2, vp3, vp4, vp5, vp6, vp20, vp40, vp50, vp60, tnc, tncA, tncS, tncM, eqM_rfl, up2_row, InvF, InvF0, dF2, sw0, sw1, InvT, → flyerS, → flyerN, → startV, → err1, → err2, → err3, → err4, → err5, → sheetS, → sheetN, → swingS, → swingN, → lawS, → lawN, → CplEqT, → CplTFr, → CplW, → CplSw, → orNf, → flIs, → swIs, → lawIs, → shIs, ← CplUp, ← CplFlV, → CplFl, → swVC, → givesC] | sorry

set_option maxHeartbeats 200000 in
theorem vc_X8_again : vcS_X8_again := by
  unfold vcS_X8_again
  simp only [wp_X8_again_L65, wp_X8_again_L53, wp_X8_again_L52, wp_X8_again_L53_1, wp_X8_again_L52_1, wp_X8_again, pI_iff, pV_iff, pL_iff, Post_X8_again, Pre_X8_again, tn0, tn1, tn2, tn3, tn4, tn5, tn6, tn7, tn8, tn9, tn10, tn12, tn18, tn40, tn50, tn60, tn90, tn92, tn112, tn212, tnn1, ni0, ni1, ni2, ni3, ni4, ni5, ni6, ni7, lg_cmp_lt, lg_cmp_le, lg_cmp_gt, lg_cmp_ge, lg_cmp_eq, RE_again]
  intros
  (repeat' (first | with_reducible apply And.intro | with_reducible intro _)) <;> (try first | apply pR_some | apply pR_none) <;> first | grind [txb, pT, lawHi, lawLo, fl4, rpn, rpS, joinI, remI, isPartI, heldI, lagM, quin, flq, quad, tri, vW, vY, vV, vP, vN, fmodI, absI, vL, vF, maxI, bI, agnI, frcI, Val_J9_max_7cf53, Val_X8_partOf, Pre_X8_partOf, Post_X5_casesCaught, rowL, minI, qd4, tr3, Post_X5_surestWait, Val_X8_within, wthI, Val_X8_isSpan, up2_ap, vp1, vp2, vp3, vp4, vp5, vp6, vp20, vp40, vp50, vp60, tnc, tncA, tncS, tncM, eqM_rfl, up2_row, InvF, InvF0, dF2, sw0, sw1, InvT, → flyerS, → flyerN, → startV, → err1, → err2, → err3, → err4, → err5, → sheetS, → sheetN, → swingS, → swingN, → lawS, → lawN, → CplEqT, → CplTFr, → CplW, → CplSw, → orNf, → flIs, → swIs, → lawIs, → shIs, ← CplUp, ← CplFlV, → CplFl, → swVC, → givesC] | sorry

set_option maxHeartbeats 200000 in
theorem vc_X8_net : vcS_X8_net := by
  unfold vcS_X8_net
  simp only [wp_X8_net_L31, wp_X8_net, pI_iff, pV_iff, pL_iff, Post_X8_net, Pre_X8_net, tn0, tn1, tn2, tn3, tn4, tn5, tn6, tn7, tn8, tn9, tn10, tn12, tn18, tn40, tn50, tn60, tn90, tn92, tn112, tn212, tnn1, ni0, ni1, ni2, ni3, ni4, ni5, ni6, ni7, lg_cmp_lt, lg_cmp_le, lg_cmp_gt, lg_cmp_ge, lg_cmp_eq, RE_net]
  intros
  (repeat' (first | with_reducible apply And.intro | with_reducible intro _)) <;> (try first | apply pR_some | apply pR_none) <;> first | grind [txb, pT, lawHi, lawLo, fl4, rpn, rpS, joinI, remI, isPartI, heldI, lagM, quin, flq, quad, tri, hmM, absI, Val_X8_within, wthI, Val_X5_leastHarmPlace, rowL, Val_X5_harmTogether, Pre_X5_harmTogether, Pre_X5_leastHarmPlace, Post_X5_gatherFalls, minI, maxI, qd4, tr3, Pre_X5_gatherFalls, Val_X8_isSpan, up2_ap, vp1, vp2, vp3, vp4, vp5, vp6, vp20, vp40, vp50, vp60, tnc, tncA, tncS, tncM, eqM_rfl, up2_row, InvF, InvF0, dF2, sw0, sw1, InvT, → flyerS, → flyerN, → startV, → err1, → err2, → err3, → err4, → err5, → sheetS, → sheetN, → swingS, → swingN, → lawS, → lawN, → CplEqT, → CplTFr, → CplW, → CplSw, → orNf, → flIs, → swIs, → lawIs, → shIs, ← CplUp, ← CplFlV, → CplFl, → swVC, → givesC] | sorry

set_option maxHeartbeats 200000 in
theorem vc_X8_phases : vcS_X8_phases := by
  unfold vcS_X8_phases
  simp only [wp_X8_phases_L36, wp_X8_phases_L86, wp_X8_phases, pI_iff, pV_iff, pL_iff, Post_X8_phases, Pre_X8_phases, tn0, tn1, tn2, tn3, tn4, tn5, tn6, tn7, tn8, tn9, tn10, tn12, tn18, tn40, tn50, tn60, tn90, tn92, tn112, tn212, tnn1, ni0, ni1, ni2, ni3, ni4, ni5, ni6, ni7, lg_cmp_lt, lg_cmp_le, lg_cmp_gt, lg_cmp_ge, lg_cmp_eq, RE_phases]
  intros
  (repeat' (first | with_reducible apply And.intro | with_reducible intro _)) <;> (try first | apply pR_some | apply pR_none) <;> first | grind [txb, pT, lawHi, lawLo, fl4, shN, rpn, rpS, joinI, remI, isPartI, heldI, lagM, quin, flq, quad, tri, vL, vW, vY, vF, vN, Val_X8_within, wthI, Val_X3_isMissing, Post_X5_howManyPhases, rowL, minI, maxI, qd4, tr3, Pre_X5_howManyPhases, Post_X5_firstPhase, Pre_X5_firstPhase, up2_ap, vp1, vp2, vp3, vp4, vp5, vp6, vp20, vp40, vp50, vp60, tnc, tncA, tncS, tncM, eqM_rfl, up2_row, InvF, InvF0, dF2, sw0, sw1, InvT, → flyerS, → flyerN, → startV, → err1, → err2, → err3, → err4, → err5, → sheetS, → sheetN, → swingS, → swingN, → lawS, → lawN, → CplEqT, → CplTFr, → CplW, → CplSw, → orNf, → flIs, → swIs, → lawIs, → shIs, ← CplUp, ← CplFlV, → CplFl, → swVC, → givesC] | sorry

set_option maxHeartbeats 200000 in
theorem vc_X8_late : vcS_X8_late := by
  unfold vcS_X8_late
  simp only [wp_X8_late_L25, wp_X8_late, pI_iff, pV_iff, pL_iff, Post_X8_late, Pre_X8_late, tn0, tn1, tn2, tn3, tn4, tn5, tn6, tn7, tn8, tn9, tn10, tn12, tn18, tn40, tn50, tn60, tn90, tn92, tn112, tn212, tnn1, ni0, ni1, ni2, ni3, ni4, ni5, ni6, ni7, lg_cmp_lt, lg_cmp_le, lg_cmp_gt, lg_cmp_ge, lg_cmp_eq, RE_late]
  intros
  (repeat' (first | with_reducible apply And.intro | with_reducible intro _)) <;> (try first | apply pR_some | apply pR_none) <;> first | grind [txb, pT, lawHi, lawLo, fl4, shN, rpn, rpS, joinI, remI, isPartI, heldI, lagM, quin, flq, quad, tri, vL, vW, vY, vF, vN, Val_X3_isMissing, Post_X5_leastLag, rowL, minI, maxI, qd4, tr3, Pre_X5_leastLag, up2_ap, vp1, vp2, vp3, vp4, vp5, vp6, vp20, vp40, vp50, vp60, tnc, tncA, tncS, tncM, eqM_rfl, up2_row, InvF, InvF0, dF2, sw0, sw1, InvT, → flyerS, → flyerN, → startV, → err1, → err2, → err3, → err4, → err5, → sheetS, → sheetN, → swingS, → swingN, → lawS, → lawN, → CplEqT, → CplTFr, → CplW, → CplSw, → orNf, → flIs, → swIs, → lawIs, → shIs, ← CplUp, ← CplFlV, → CplFl, → swVC, → givesC] | sorry

set_option maxHeartbeats 200000 in
theorem vc_X8_seed : vcS_X8_seed := by
  unfold vcS_X8_seed
  simp only [wp_X8_seed, pI_iff, pV_iff, pL_iff, Post_X8_seed, Pre_X8_seed, tn0, tn1, tn2, tn3, tn4, tn5, tn6, tn7, tn8, tn9, tn10, tn12, tn18, tn40, tn50, tn60, tn90, tn92, tn112, tn212, tnn1, ni0, ni1, ni2, ni3, ni4, ni5, ni6, ni7, lg_cmp_lt, lg_cmp_le, lg_cmp_gt, lg_cmp_ge, lg_cmp_eq, RE_seed]
  intros
  (repeat' (first | with_reducible apply And.intro | with_reducible intro _)) <;> (try first | apply pR_some | apply pR_none) <;> first | grind [txb, pT, lawHi, lawLo, fl4, up2_ap, vp1, vp2, vp3, vp4, vp5, vp6, vp20, vp40, vp50, vp60, tnc, tncA, tncS, tncM, eqM_rfl, up2_row, InvF, InvF0, dF2, sw0, sw1, InvT, → flyerS, → flyerN, → startV, → err1, → err2, → err3, → err4, → err5, → sheetS, → sheetN, → swingS, → swingN, → lawS, → lawN, → CplEqT, → CplTFr, → CplW, → CplSw, → orNf, → flIs, → swIs, → lawIs, → shIs, ← CplUp, ← CplFlV, → CplFl, → swVC, → givesC] | sorry

set_option maxHeartbeats 200000 in
theorem vc_X8_voice : vcS_X8_voice := by
  unfold vcS_X8_voice
  simp only [wp_X8_voice_L24, wp_X8_voice, pI_iff, pV_iff, pL_iff, Post_X8_voice, Pre_X8_voice, tn0, tn1, tn2, tn3, tn4, tn5, tn6, tn7, tn8, tn9, tn10, tn12, tn18, tn40, tn50, tn60, tn90, tn92, tn112, tn212, tnn1, ni0, ni1, ni2, ni3, ni4, ni5, ni6, ni7, lg_cmp_lt, lg_cmp_le, lg_cmp_gt, lg_cmp_ge, lg_cmp_eq, RE_voice]
  intros
  (repeat' (first | with_reducible apply And.intro | with_reducible intro _)) <;> (try first | apply pR_some | apply pR_none) <;> first | grind [txb, pT, lawHi, lawLo, fl4, Val_X8_within, wthI, Post_X6_speak, Pre_X6_speak, actOK, kOK, up2_ap, vp1, vp2, vp3, vp4, vp5, vp6, vp20, vp40, vp50, vp60, tnc, tncA, tncS, tncM, eqM_rfl, up2_row, InvF, InvF0, dF2, sw0, sw1, InvT, → flyerS, → flyerN, → startV, → err1, → err2, → err3, → err4, → err5, → sheetS, → sheetN, → swingS, → swingN, → lawS, → lawN, → CplEqT, → CplTFr, → CplW, → CplSw, → orNf, → flIs, → swIs, → lawIs, → shIs, ← CplUp, ← CplFlV, → CplFl, → swVC, → givesC] | sorry

set_option maxHeartbeats 200000 in
theorem vc_X8_trace : vcS_X8_trace := by
  unfold vcS_X8_trace
  simp only [wp_X8_trace, pI_iff, pV_iff, pL_iff, Post_X8_trace, Pre_X8_trace, tn0, tn1, tn2, tn3, tn4, tn5, tn6, tn7, tn8, tn9, tn10, tn12, tn18, tn40, tn50, tn60, tn90, tn92, tn112, tn212, tnn1, ni0, ni1, ni2, ni3, ni4, ni5, ni6, ni7, lg_cmp_lt, lg_cmp_le, lg_cmp_gt, lg_cmp_ge, lg_cmp_eq, RE_trace]
  intros
  (repeat' (first | with_reducible apply And.intro | with_reducible intro _)) <;> (try first | apply pR_some | apply pR_none) <;> first | grind [txb, pT, lawHi, lawLo, fl4, Val_X8_within, wthI, Val_X6_bodyAt, up2_ap, vp1, vp2, vp3, vp4, vp5, vp6, vp20, vp40, vp50, vp60, tnc, tncA, tncS, tncM, eqM_rfl, up2_row, InvF, InvF0, dF2, sw0, sw1, InvT, → flyerS, → flyerN, → startV, → err1, → err2, → err3, → err4, → err5, → sheetS, → sheetN, → swingS, → swingN, → lawS, → lawN, → CplEqT, → CplTFr, → CplW, → CplSw, → orNf, → flIs, → swIs, → lawIs, → shIs, ← CplUp, ← CplFlV, → CplFl, → swVC, → givesC] | sorry

set_option maxHeartbeats 200000 in
theorem vc_X8_sheet : vcS_X8_sheet := by
  unfold vcS_X8_sheet
  simp only [wp_X8_sheet_L34, wp_X8_sheet_L70, wp_X8_sheet_L54, wp_X8_sheet_L40, wp_X8_sheet, pI_iff, pV_iff, pL_iff, Post_X8_sheet, Pre_X8_sheet, tn0, tn1, tn2, tn3, tn4, tn5, tn6, tn7, tn8, tn9, tn10, tn12, tn18, tn40, tn50, tn60, tn90, tn92, tn112, tn212, tnn1, ni0, ni1, ni2, ni3, ni4, ni5, ni6, ni7, lg_cmp_lt, lg_cmp_le, lg_cmp_gt, lg_cmp_ge, lg_cmp_eq, RE_sheet]
  intros
  (repeat' (first | with_reducible apply And.intro | with_reducible intro _)) <;> (try first | apply pR_some | apply pR_none) <;> first | grind [txb, pT, lawHi, lawLo, fl4, Post_X3_begin, minI, maxI, up2_ap, vp1, vp2, vp3, vp4, vp5, vp6, vp20, vp40, vp50, vp60, tnc, tncA, tncS, tncM, eqM_rfl, up2_row, InvF, InvF0, dF2, sw0, sw1, InvT, → flyerS, → flyerN, → startV, → err1, → err2, → err3, → err4, → err5, → sheetS, → sheetN, → swingS, → swingN, → lawS, → lawN, → CplEqT, → CplTFr, → CplW, → CplSw, → orNf, → flIs, → swIs, → lawIs, → shIs, ← CplUp, ← CplFlV, → CplFl, → swVC, → givesC] | sorry

set_option maxHeartbeats 200000 in
theorem vc_X8_put : vcS_X8_put := by
  unfold vcS_X8_put
  simp only [wp_X8_put, pI_iff, pV_iff, pL_iff, Post_X8_put, Pre_X8_put, tn0, tn1, tn2, tn3, tn4, tn5, tn6, tn7, tn8, tn9, tn10, tn12, tn18, tn40, tn50, tn60, tn90, tn92, tn112, tn212, tnn1, ni0, ni1, ni2, ni3, ni4, ni5, ni6, ni7, lg_cmp_lt, lg_cmp_le, lg_cmp_gt, lg_cmp_ge, lg_cmp_eq, RE_put]
  intros
  (repeat' (first | with_reducible apply And.intro | with_reducible intro _)) <;> (try first | apply pR_some | apply pR_none) <;> first | grind [txb, pT, lawHi, lawLo, fl4, narI, Val_X3_isMissing, Val_X8_within, wthI, Post_X3_write, Pre_X3_write, up2_ap, vp1, vp2, vp3, vp4, vp5, vp6, vp20, vp40, vp50, vp60, tnc, tncA, tncS, tncM, eqM_rfl, up2_row, InvF, InvF0, dF2, sw0, sw1, InvT, → flyerS, → flyerN, → startV, → err1, → err2, → err3, → err4, → err5, → sheetS, → sheetN, → swingS, → swingN, → lawS, → lawN, → CplEqT, → CplTFr, → CplW, → CplSw, → orNf, → flIs, → swIs, → lawIs, → shIs, ← CplUp, ← CplFlV, → CplFl, → swVC, → givesC] | sorry

set_option maxHeartbeats 200000 in
theorem vc_X8_move : vcS_X8_move := by
  unfold vcS_X8_move
  simp only [wp_X8_move_L24, wp_X8_move_L46, wp_X8_move_L94, wp_X8_move, pI_iff, pV_iff, pL_iff, Post_X8_move, Pre_X8_move, tn0, tn1, tn2, tn3, tn4, tn5, tn6, tn7, tn8, tn9, tn10, tn12, tn18, tn40, tn50, tn60, tn90, tn92, tn112, tn212, tnn1, ni0, ni1, ni2, ni3, ni4, ni5, ni6, ni7, lg_cmp_lt, lg_cmp_le, lg_cmp_gt, lg_cmp_ge, lg_cmp_eq, RE_move]
  intros
  (repeat' (first | with_reducible apply And.intro | with_reducible intro _)) <;> (try first | apply pR_some | apply pR_none) <;> first | grind [txb, pT, lawHi, lawLo, fl4, Val_X3_isMissing, Val_X3_hasRow, up2_ap, vp1, vp2, vp3, vp4, vp5, vp6, vp20, vp40, vp50, vp60, tnc, tncA, tncS, tncM, eqM_rfl, up2_row, InvF, InvF0, dF2, sw0, sw1, InvT, → flyerS, → flyerN, → startV, → err1, → err2, → err3, → err4, → err5, → sheetS, → sheetN, → swingS, → swingN, → lawS, → lawN, → CplEqT, → CplTFr, → CplW, → CplSw, → orNf, → flIs, → swIs, → lawIs, → shIs, ← CplUp, ← CplFlV, → CplFl, → swVC, → givesC] | sorry

set_option maxHeartbeats 200000 in
theorem vc_X8_image : vcS_X8_image := by
  unfold vcS_X8_image
  simp only [wp_X8_image, pI_iff, pV_iff, pL_iff, Post_X8_image, Pre_X8_image, tn0, tn1, tn2, tn3, tn4, tn5, tn6, tn7, tn8, tn9, tn10, tn12, tn18, tn40, tn50, tn60, tn90, tn92, tn112, tn212, tnn1, ni0, ni1, ni2, ni3, ni4, ni5, ni6, ni7, lg_cmp_lt, lg_cmp_le, lg_cmp_gt, lg_cmp_ge, lg_cmp_eq, RE_image]
  intros
  (repeat' (first | with_reducible apply And.intro | with_reducible intro _)) <;> (try first | apply pR_some | apply pR_none) <;> first | grind [txb, pT, lawHi, lawLo, fl4, Post_X7_copyA, wcp, minI, up2_ap, vp1, vp2, vp3, vp4, vp5, vp6, vp20, vp40, vp50, vp60, tnc, tncA, tncS, tncM, eqM_rfl, up2_row, InvF, InvF0, dF2, sw0, sw1, InvT, → flyerS, → flyerN, → startV, → err1, → err2, → err3, → err4, → err5, → sheetS, → sheetN, → swingS, → swingN, → lawS, → lawN, → CplEqT, → CplTFr, → CplW, → CplSw, → orNf, → flIs, → swIs, → lawIs, → shIs, ← CplUp, ← CplFlV, → CplFl, → swVC, → givesC] | sorry

set_option maxHeartbeats 200000 in
theorem vc_X8_restore : vcS_X8_restore := by
  unfold vcS_X8_restore
  simp only [wp_X8_restore, pI_iff, pV_iff, pL_iff, Post_X8_restore, Pre_X8_restore, tn0, tn1, tn2, tn3, tn4, tn5, tn6, tn7, tn8, tn9, tn10, tn12, tn18, tn40, tn50, tn60, tn90, tn92, tn112, tn212, tnn1, ni0, ni1, ni2, ni3, ni4, ni5, ni6, ni7, lg_cmp_lt, lg_cmp_le, lg_cmp_gt, lg_cmp_ge, lg_cmp_eq, RE_restore]
  intros
  (repeat' (first | with_reducible apply And.intro | with_reducible intro _)) <;> (try first | apply pR_some | apply pR_none) <;> first | grind [txb, pT, lawHi, lawLo, fl4, Post_X7_copyB, wcp, minI, up2_ap, vp1, vp2, vp3, vp4, vp5, vp6, vp20, vp40, vp50, vp60, tnc, tncA, tncS, tncM, eqM_rfl, up2_row, InvF, InvF0, dF2, sw0, sw1, InvT, → flyerS, → flyerN, → startV, → err1, → err2, → err3, → err4, → err5, → sheetS, → sheetN, → swingS, → swingN, → lawS, → lawN, → CplEqT, → CplTFr, → CplW, → CplSw, → orNf, → flIs, → swIs, → lawIs, → shIs, ← CplUp, ← CplFlV, → CplFl, → swVC, → givesC] | sorry

set_option maxHeartbeats 200000 in
theorem vc_X8_tell : vcS_X8_tell := by
  unfold vcS_X8_tell
  simp only [wp_X8_tell, pI_iff, pV_iff, pL_iff, Post_X8_tell, Pre_X8_tell, tn0, tn1, tn2, tn3, tn4, tn5, tn6, tn7, tn8, tn9, tn10, tn12, tn18, tn40, tn50, tn60, tn90, tn92, tn112, tn212, tnn1, ni0, ni1, ni2, ni3, ni4, ni5, ni6, ni7, lg_cmp_lt, lg_cmp_le, lg_cmp_gt, lg_cmp_ge, lg_cmp_eq, RE_tell]
  intros
  (repeat' (first | with_reducible apply And.intro | with_reducible intro _)) <;> (try first | apply pR_some | apply pR_none) <;> first | grind [txb, pT, lawHi, lawLo, fl4, Post_X7_addWaiting, up2_ap, vp1, vp2, vp3, vp4, vp5, vp6, vp20, vp40, vp50, vp60, tnc, tncA, tncS, tncM, eqM_rfl, up2_row, InvF, InvF0, dF2, sw0, sw1, InvT, → flyerS, → flyerN, → startV, → err1, → err2, → err3, → err4, → err5, → sheetS, → sheetN, → swingS, → swingN, → lawS, → lawN, → CplEqT, → CplTFr, → CplW, → CplSw, → orNf, → flIs, → swIs, → lawIs, → shIs, ← CplUp, ← CplFlV, → CplFl, → swVC, → givesC] | sorry

set_option maxHeartbeats 200000 in
theorem vc_X8_count : vcS_X8_count := by
  unfold vcS_X8_count
  simp only [wp_X8_count, pI_iff, pV_iff, pL_iff, Post_X8_count, Pre_X8_count, tn0, tn1, tn2, tn3, tn4, tn5, tn6, tn7, tn8, tn9, tn10, tn12, tn18, tn40, tn50, tn60, tn90, tn92, tn112, tn212, tnn1, ni0, ni1, ni2, ni3, ni4, ni5, ni6, ni7, lg_cmp_lt, lg_cmp_le, lg_cmp_gt, lg_cmp_ge, lg_cmp_eq, RE_count]
  intros
  (repeat' (first | with_reducible apply And.intro | with_reducible intro _)) <;> (try first | apply pR_some | apply pR_none) <;> first | grind [txb, pT, lawHi, lawLo, fl4, up2_ap, vp1, vp2, vp3, vp4, vp5, vp6, vp20, vp40, vp50, vp60, tnc, tncA, tncS, tncM, eqM_rfl, up2_row, InvF, InvF0, dF2, sw0, sw1, InvT, → flyerS, → flyerN, → startV, → err1, → err2, → err3, → err4, → err5, → sheetS, → sheetN, → swingS, → swingN, → lawS, → lawN, → CplEqT, → CplTFr, → CplW, → CplSw, → orNf, → flIs, → swIs, → lawIs, → shIs, ← CplUp, ← CplFlV, → CplFl, → swVC, → givesC] | sorry

set_option maxHeartbeats 200000 in
theorem vc_X8_told : vcS_X8_told := by
  unfold vcS_X8_told
  simp only [wp_X8_told, pI_iff, pV_iff, pL_iff, Post_X8_told, Pre_X8_told, tn0, tn1, tn2, tn3, tn4, tn5, tn6, tn7, tn8, tn9, tn10, tn12, tn18, tn40, tn50, tn60, tn90, tn92, tn112, tn212, tnn1, ni0, ni1, ni2, ni3, ni4, ni5, ni6, ni7, lg_cmp_lt, lg_cmp_le, lg_cmp_gt, lg_cmp_ge, lg_cmp_eq, RE_told]
  intros
  (repeat' (first | with_reducible apply And.intro | with_reducible intro _)) <;> (try first | apply pR_some | apply pR_none) <;> first | grind [txb, pT, lawHi, lawLo, fl4, Val_X8_within, wthI, up2_ap, vp1, vp2, vp3, vp4, vp5, vp6, vp20, vp40, vp50, vp60, tnc, tncA, tncS, tncM, eqM_rfl, up2_row, InvF, InvF0, dF2, sw0, sw1, InvT, → flyerS, → flyerN, → startV, → err1, → err2, → err3, → err4, → err5, → sheetS, → sheetN, → swingS, → swingN, → lawS, → lawN, → CplEqT, → CplTFr, → CplW, → CplSw, → orNf, → flIs, → swIs, → lawIs, → shIs, ← CplUp, ← CplFlV, → CplFl, → swVC, → givesC] | sorry

