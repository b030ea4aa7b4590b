set_option maxHeartbeats 200000 in
theorem vc_X9_finds : vcS_X9_finds := by
  unfold vcS_X9_finds
  simp only [wp_X9_finds, pI_iff, pV_iff, pL_iff, Post_X9_finds, Pre_X9_finds, tn0, tn1, tn2, tn3, tn4, tn5, tn6, tn7, tn8, tn9, tn10, tn12, tn18, tn40, tn50, tn60, tn90, tn92, tn112, tn212, tnn1, ni0, ni1, ni2, ni3, ni4, ni5, ni6, ni7, er1, er2, er3, er4, er5, lg_cmp_lt, lg_cmp_le, lg_cmp_gt, lg_cmp_ge, lg_cmp_eq, in_m99_299, in_0_1, in_0_19999, in_0_2, in_0_200, in_0_3, in_0_30, in_0_4, in_0_6, in_0_60, in_0_69, in_0_9, in_0_99, in_1_200, in_1_3, in_1_40, in_1_5, in_1_60, in_1_8, in_4_40, in_0e]
  intros
  (repeat' (first | with_reducible apply And.intro | with_reducible intro _)) <;> (try first | apply pR_some | apply pR_none) <;> first | grind [up2_ap, cpr_ap, vp1, vp2, vp3, vp4, vp5, vp6, vp20, vp40, vp50, vp60, vp160, vp264, tnc, nIX, nIc, tncA, tncS, tncM, l56, eqM_rfl, up2_row, InvF, InvF0, dF1, dF2, sw0, sw1, InvT]
set_option maxHeartbeats 200000 in
theorem vc_X9_in : vcS_X9_in := by
  unfold vcS_X9_in
  simp only [wp_X9_in, pI_iff, pV_iff, pL_iff, Val_X9_in, tn0, tn1, tn2, tn3, tn4, tn5, tn6, tn7, tn8, tn9, tn10, tn12, tn18, tn40, tn50, tn60, tn90, tn92, tn112, tn212, tnn1, ni0, ni1, ni2, ni3, ni4, ni5, ni6, ni7, er1, er2, er3, er4, er5, lg_cmp_lt, lg_cmp_le, lg_cmp_gt, lg_cmp_ge, lg_cmp_eq, in_m99_299, in_0_1, in_0_19999, in_0_2, in_0_200, in_0_3, in_0_30, in_0_4, in_0_6, in_0_60, in_0_69, in_0_9, in_0_99, in_1_200, in_1_3, in_1_40, in_1_5, in_1_60, in_1_8, in_4_40, in_0e]
  intros
  (repeat' (first | with_reducible apply And.intro | with_reducible intro _)) <;> (try first | apply pR_some | apply pR_none) <;> first | grind [Val_X9_in, up2_ap, cpr_ap, vp1, vp2, vp3, vp4, vp5, vp6, vp20, vp40, vp50, vp60, vp160, vp264, tnc, nIX, nIc, tncA, tncS, tncM, l56, eqM_rfl, up2_row, InvF, InvF0, dF1, dF2, sw0, sw1, InvT]
set_option maxHeartbeats 200000 in
theorem vc_X9_held : vcS_X9_held := by
  unfold vcS_X9_held
  simp only [wp_X9_held, pI_iff, pV_iff, pL_iff, Val_X9_held, tn0, tn1, tn2, tn3, tn4, tn5, tn6, tn7, tn8, tn9, tn10, tn12, tn18, tn40, tn50, tn60, tn90, tn92, tn112, tn212, tnn1, ni0, ni1, ni2, ni3, ni4, ni5, ni6, ni7, er1, er2, er3, er4, er5, lg_cmp_lt, lg_cmp_le, lg_cmp_gt, lg_cmp_ge, lg_cmp_eq, in_m99_299, in_0_1, in_0_19999, in_0_2, in_0_200, in_0_3, in_0_30, in_0_4, in_0_6, in_0_60, in_0_69, in_0_9, in_0_99, in_1_200, in_1_3, in_1_40, in_1_5, in_1_60, in_1_8, in_4_40, in_0e]
  intros
  (repeat' (first | with_reducible apply And.intro | with_reducible intro _)) <;> (try first | apply pR_some | apply pR_none) <;> first | grind [Val_X9_held, heldI, up2_ap, cpr_ap, vp1, vp2, vp3, vp4, vp5, vp6, vp20, vp40, vp50, vp60, vp160, vp264, tnc, nIX, nIc, tncA, tncS, tncM, l56, eqM_rfl, up2_row, InvF, InvF0, dF1, dF2, sw0, sw1, InvT]
set_option maxHeartbeats 200000 in
theorem vc_X9_isFlyer : vcS_X9_isFlyer := by
  unfold vcS_X9_isFlyer
  simp only [wp_X9_isFlyer, pI_iff, pV_iff, pL_iff, Val_X9_isFlyer, tn0, tn1, tn2, tn3, tn4, tn5, tn6, tn7, tn8, tn9, tn10, tn12, tn18, tn40, tn50, tn60, tn90, tn92, tn112, tn212, tnn1, ni0, ni1, ni2, ni3, ni4, ni5, ni6, ni7, er1, er2, er3, er4, er5, lg_cmp_lt, lg_cmp_le, lg_cmp_gt, lg_cmp_ge, lg_cmp_eq, in_m99_299, in_0_1, in_0_19999, in_0_2, in_0_200, in_0_3, in_0_30, in_0_4, in_0_6, in_0_60, in_0_69, in_0_9, in_0_99, in_1_200, in_1_3, in_1_40, in_1_5, in_1_60, in_1_8, in_4_40, in_0e]
  intros
  (repeat' (first | with_reducible apply And.intro | with_reducible intro _)) <;> (try first | apply pR_some | apply pR_none) <;> first | grind [Val_X9_isFlyer, Val_X9_in, up2_ap, cpr_ap, vp1, vp2, vp3, vp4, vp5, vp6, vp20, vp40, vp50, vp60, vp160, vp264, tnc, nIX, nIc, tncA, tncS, tncM, l56, eqM_rfl, up2_row, InvF, InvF0, dF1, dF2, sw0, sw1, InvT]
set_option maxHeartbeats 200000 in
theorem vc_X9_of : vcS_X9_of := by
  unfold vcS_X9_of
  simp only [wp_X9_of, pI_iff, pV_iff, pL_iff, Val_X9_of, Pre_X9_of, tn0, tn1, tn2, tn3, tn4, tn5, tn6, tn7, tn8, tn9, tn10, tn12, tn18, tn40, tn50, tn60, tn90, tn92, tn112, tn212, tnn1, ni0, ni1, ni2, ni3, ni4, ni5, ni6, ni7, er1, er2, er3, er4, er5, lg_cmp_lt, lg_cmp_le, lg_cmp_gt, lg_cmp_ge, lg_cmp_eq, in_m99_299, in_0_1, in_0_19999, in_0_2, in_0_200, in_0_3, in_0_30, in_0_4, in_0_6, in_0_60, in_0_69, in_0_9, in_0_99, in_1_200, in_1_3, in_1_40, in_1_5, in_1_60, in_1_8, in_4_40, in_0e]
  intros
  (repeat' (first | with_reducible apply And.intro | with_reducible intro _)) <;> (try first | apply pR_some | apply pR_none) <;> first | grind [Val_X9_of, fl4, up2_ap, cpr_ap, vp1, vp2, vp3, vp4, vp5, vp6, vp20, vp40, vp50, vp60, vp160, vp264, tnc, nIX, nIc, tncA, tncS, tncM, l56, eqM_rfl, up2_row, InvF, InvF0, dF1, dF2, sw0, sw1, InvT]
set_option maxHeartbeats 200000 in
theorem vc_X9_sets : vcS_X9_sets := by
  unfold vcS_X9_sets
  simp only [wp_X9_sets, pI_iff, pV_iff, pL_iff, Post_X9_sets, Pre_X9_sets, tn0, tn1, tn2, tn3, tn4, tn5, tn6, tn7, tn8, tn9, tn10, tn12, tn18, tn40, tn50, tn60, tn90, tn92, tn112, tn212, tnn1, ni0, ni1, ni2, ni3, ni4, ni5, ni6, ni7, er1, er2, er3, er4, er5, lg_cmp_lt, lg_cmp_le, lg_cmp_gt, lg_cmp_ge, lg_cmp_eq, in_m99_299, in_0_1, in_0_19999, in_0_2, in_0_200, in_0_3, in_0_30, in_0_4, in_0_6, in_0_60, in_0_69, in_0_9, in_0_99, in_1_200, in_1_3, in_1_40, in_1_5, in_1_60, in_1_8, in_4_40, in_0e]
  intros
  (repeat' (first | with_reducible apply And.intro | with_reducible intro _)) <;> (try first | apply pR_some | apply pR_none) <;> first | grind [fl4, up2_ap, cpr_ap, vp1, vp2, vp3, vp4, vp5, vp6, vp20, vp40, vp50, vp60, vp160, vp264, tnc, nIX, nIc, tncA, tncS, tncM, l56, eqM_rfl, up2_row, InvF, InvF0, dF1, dF2, sw0, sw1, InvT]
set_option maxHeartbeats 200000 in
theorem vc_X9_here : vcS_X9_here := by
  unfold vcS_X9_here
  simp only [wp_X9_here, pI_iff, pV_iff, pL_iff, Val_X9_here, Pre_X9_here, tn0, tn1, tn2, tn3, tn4, tn5, tn6, tn7, tn8, tn9, tn10, tn12, tn18, tn40, tn50, tn60, tn90, tn92, tn112, tn212, tnn1, ni0, ni1, ni2, ni3, ni4, ni5, ni6, ni7, er1, er2, er3, er4, er5, lg_cmp_lt, lg_cmp_le, lg_cmp_gt, lg_cmp_ge, lg_cmp_eq, in_m99_299, in_0_1, in_0_19999, in_0_2, in_0_200, in_0_3, in_0_30, in_0_4, in_0_6, in_0_60, in_0_69, in_0_9, in_0_99, in_1_200, in_1_3, in_1_40, in_1_5, in_1_60, in_1_8, in_4_40, in_0e]
  intros
  (repeat' (first | with_reducible apply And.intro | with_reducible intro _)) <;> (try first | apply pR_some | apply pR_none) <;> first | grind [Val_X9_here, up2_ap, cpr_ap, vp1, vp2, vp3, vp4, vp5, vp6, vp20, vp40, vp50, vp60, vp160, vp264, tnc, nIX, nIc, tncA, tncS, tncM, l56, eqM_rfl, up2_row, InvF, InvF0, dF1, dF2, sw0, sw1, InvT]
set_option maxHeartbeats 200000 in
theorem vc_X9_wrong : vcS_X9_wrong := by
  unfold vcS_X9_wrong
  simp only [wp_X9_wrong_L19, wp_X9_wrong, pI_iff, pV_iff, pL_iff, Post_X9_wrong, tn0, tn1, tn2, tn3, tn4, tn5, tn6, tn7, tn8, tn9, tn10, tn12, tn18, tn40, tn50, tn60, tn90, tn92, tn112, tn212, tnn1, ni0, ni1, ni2, ni3, ni4, ni5, ni6, ni7, er1, er2, er3, er4, er5, lg_cmp_lt, lg_cmp_le, lg_cmp_gt, lg_cmp_ge, lg_cmp_eq, in_m99_299, in_0_1, in_0_19999, in_0_2, in_0_200, in_0_3, in_0_30, in_0_4, in_0_6, in_0_60, in_0_69, in_0_9, in_0_99, in_1_200, in_1_3, in_1_40, in_1_5, in_1_60, in_1_8, in_4_40, in_0e]
  intros
  (repeat' (first | with_reducible apply And.intro | with_reducible intro _)) <;> (try first | apply pR_some | apply pR_none) <;> first | grind [up2_ap, cpr_ap, vp1, vp2, vp3, vp4, vp5, vp6, vp20, vp40, vp50, vp60, vp160, vp264, tnc, nIX, nIc, tncA, tncS, tncM, l56, eqM_rfl, up2_row, InvF, InvF0, dF1, dF2, sw0, sw1, InvT]
set_option maxHeartbeats 200000 in
theorem vc_X9_takes : vcS_X9_takes := by
  unfold vcS_X9_takes
  simp only [wp_X9_takes, pI_iff, pV_iff, pL_iff, Post_X9_takes, Pre_X9_takes, tn0, tn1, tn2, tn3, tn4, tn5, tn6, tn7, tn8, tn9, tn10, tn12, tn18, tn40, tn50, tn60, tn90, tn92, tn112, tn212, tnn1, ni0, ni1, ni2, ni3, ni4, ni5, ni6, ni7, er1, er2, er3, er4, er5, lg_cmp_lt, lg_cmp_le, lg_cmp_gt, lg_cmp_ge, lg_cmp_eq, in_m99_299, in_0_1, in_0_19999, in_0_2, in_0_200, in_0_3, in_0_30, in_0_4, in_0_6, in_0_60, in_0_69, in_0_9, in_0_99, in_1_200, in_1_3, in_1_40, in_1_5, in_1_60, in_1_8, in_4_40, in_0e]
  intros
  (repeat' (first | with_reducible apply And.intro | with_reducible intro _)) <;> (try first | apply pR_some | apply pR_none) <;> first | grind [Val_X9_here, Pre_X9_here, up2_ap, cpr_ap, vp1, vp2, vp3, vp4, vp5, vp6, vp20, vp40, vp50, vp60, vp160, vp264, tnc, nIX, nIc, tncA, tncS, tncM, l56, eqM_rfl, up2_row, InvF, InvF0, dF1, dF2, sw0, sw1, InvT]
set_option maxHeartbeats 200000 in
theorem vc_X9_nameOf : vcS_X9_nameOf := by
  unfold vcS_X9_nameOf
  simp only [wp_X9_nameOf, pI_iff, pV_iff, pL_iff, Val_X9_nameOf, tn0, tn1, tn2, tn3, tn4, tn5, tn6, tn7, tn8, tn9, tn10, tn12, tn18, tn40, tn50, tn60, tn90, tn92, tn112, tn212, tnn1, ni0, ni1, ni2, ni3, ni4, ni5, ni6, ni7, er1, er2, er3, er4, er5, lg_cmp_lt, lg_cmp_le, lg_cmp_gt, lg_cmp_ge, lg_cmp_eq, in_m99_299, in_0_1, in_0_19999, in_0_2, in_0_200, in_0_3, in_0_30, in_0_4, in_0_6, in_0_60, in_0_69, in_0_9, in_0_99, in_1_200, in_1_3, in_1_40, in_1_5, in_1_60, in_1_8, in_4_40, in_0e]
  intros
  (repeat' (first | with_reducible apply And.intro | with_reducible intro _)) <;> (try first | apply pR_some | apply pR_none) <;> first | grind [Val_X9_nameOf, up2_ap, cpr_ap, vp1, vp2, vp3, vp4, vp5, vp6, vp20, vp40, vp50, vp60, vp160, vp264, tnc, nIX, nIc, tncA, tncS, tncM, l56, eqM_rfl, up2_row, InvF, InvF0, dF1, dF2, sw0, sw1, InvT]
theorem vc_X9_either : vcS_X9_either := by
  intro f hp
  obtain ⟨bs, n, p, op, h⟩ := hp
  refine ⟨by show 8 * (5 - ix (f 0 8)) + 7 < 48; omega, ?_⟩
  simp only [wp_X9_either, wp_X9_either_L5]
  refine ⟨⟨bs, n, p, op, h⟩, by show 8 * (5 - ix (f 0 8)) + 6 < 8 * (5 - ix (f 0 8)) + 7; omega, fun r3 f4 s => ⟨fun (f' : Fn) (x : Int32) => pmLI f bs n p op 0 f' x, fun f' _ => pmMu f', pm_first h s, ?_⟩⟩
  rintro g x I
  simp only [wpb_X9_either_L5, wp_X9_either_L32, wp_X9_either_L27, pI_iff]
  have pr := pm_pre h I
  refine ⟨pr, fun r7 f8 t => ?_⟩
  unfold Post_X9_takes at t
  by_cases c : Val_X9_here g = 124
  · rw [if_pos c] at t
    obtain ⟨t1, t2⟩ := t
    obtain ⟨g1, g2, g3⟩ := pm_go (lv := 0) h I (by decide) c (by decide)
    rw [t1]
    refine ⟨fun e => absurd e (by decide), fun _ => ?_⟩
    rw [t2]
    refine ⟨g1, by show 8 * (5 - ix (up2 g 0 5 (g 0 5 + 1) 0 8)) + 6 < 8 * (5 - ix (f 0 8)) + 7; rw [up2_off _ _ (by decide), g2]; omega, fun r13 f14 s => ?_⟩
    have st := g3 f14 r13 s
    have jE : joinI x 124 r13 = (if ¬ x = 0 ∨ ¬ r13 = 0 then 1 else 0) := rfl
    rw [jE] at st
    refine ⟨fun e => by rwa [if_pos (Or.inl e)] at st, fun e => ⟨fun e2 => ?_, fun e2 => by rwa [if_pos (Or.inr e2)] at st⟩⟩
    rwa [if_neg (fun q => q.elim (fun z => z e) (fun z => z e2))] at st
  · rw [if_neg c] at t
    obtain ⟨t1, t2⟩ := t
    rw [t1]
    refine ⟨fun _ => ?_, fun e => absurd rfl e⟩
    rw [t2]
    exact pm_exit h I (by decide) (by decide) (fun e => c (lv0 e))
theorem vc_X9_both : vcS_X9_both := by
  intro f hp
  obtain ⟨bs, n, p, op, h⟩ := hp
  refine ⟨by show 8 * (5 - ix (f 0 8)) + 6 < 48; omega, ?_⟩
  simp only [wp_X9_both, wp_X9_both_L5]
  refine ⟨⟨bs, n, p, op, h⟩, by show 8 * (5 - ix (f 0 8)) + 5 < 8 * (5 - ix (f 0 8)) + 6; omega, fun r3 f4 s => ⟨fun (f' : Fn) (x : Int32) => pmLI f bs n p op 1 f' x, fun f' _ => pmMu f', pm_first h s, ?_⟩⟩
  rintro g x I
  simp only [wpb_X9_both_L5, wp_X9_both_L32, wp_X9_both_L31, pI_iff]
  have pr := pm_pre h I
  refine ⟨pr, fun r7 f8 t => ?_⟩
  unfold Post_X9_takes at t
  by_cases c : Val_X9_here g = 38
  · rw [if_pos c] at t
    obtain ⟨t1, t2⟩ := t
    obtain ⟨g1, g2, g3⟩ := pm_go (lv := 1) h I (by decide) c (by decide)
    rw [t1]
    refine ⟨fun e => absurd e (by decide), fun _ => ?_⟩
    rw [t2]
    refine ⟨g1, by show 8 * (5 - ix (up2 g 0 5 (g 0 5 + 1) 0 8)) + 5 < 8 * (5 - ix (f 0 8)) + 6; rw [up2_off _ _ (by decide), g2]; omega, fun r13 f14 s => ?_⟩
    have st := g3 f14 r13 s
    have jE : joinI x 38 r13 = (if ¬ x = 0 ∧ ¬ r13 = 0 then 1 else 0) := rfl
    rw [jE] at st
    refine ⟨fun e => by rwa [if_neg (fun q => q.1 e)] at st, fun e => ⟨fun e2 => by rwa [if_neg (fun q => q.2 e2)] at st, fun e2 => by rwa [if_pos ⟨e, e2⟩] at st⟩⟩
  · rw [if_neg c] at t
    obtain ⟨t1, t2⟩ := t
    rw [t1]
    refine ⟨fun _ => ?_, fun e => absurd rfl e⟩
    rw [t2]
    exact pm_exit h I (by decide) (by decide) (fun e => c (lv1 e))
theorem vc_X9_compared : vcS_X9_compared := by
  intro f hp
  obtain ⟨bs, n, p, op, h⟩ := hp
  refine ⟨by show 8 * (5 - ix (f 0 8)) + 5 < 48; omega, ?_⟩
  simp only [wp_X9_compared]
  refine ⟨⟨bs, n, p, op, h⟩, by show 8 * (5 - ix (f 0 8)) + 4 < 8 * (5 - ix (f 0 8)) + 5; omega, fun x g s => ?_⟩
  have i1 := pm_in s h
  have rh := rep_here h i1
  have n50 := h.2.1
  have PE := PS_lo (bOf f bs) n 2 op p (by decide) h.2.2.2.1
  rw [if_pos rfl] at PE
  have out : (¬ Val_X9_here g = 60 → ¬ Val_X9_here g = 61 → ¬ Val_X9_here g = 62 → pmPost f g 2 x) := fun a b c => by
    refine pm_mk (by decide) h ?_
    rw [PE, pLoop_z]
    · exact i1
    · intro z
      rw [rh.2.1 z.1] at a b c
      rcases lv2 z.2 with e | e | e
      · exact a e
      · exact b e
      · exact c e
  have main : ∀ c, Val_X9_here g = c → (c = 60 ∨ c = 61 ∨ c = 62) → wp_X9_compared_L30 (mu_X9_compared f) g x c (pI (Post_X9_compared f)) := by
    intro c hc hcc
    have hv : lvI c = nI 2 := by rcases hcc with e | e | e <;> subst e <;> decide
    have ok : (PS (bOf f bs) n 3 op p).2.1 = false := Classical.byContradiction fun no => by
      have := rh.2.2 no
      rw [hc] at this
      rcases hcc with e | e | e <;> subst e <;> exact absurd this (by decide)
    have hn : nxI (bOf f bs) n (PS (bOf f bs) n 3 op p).1 = c := (rh.2.1 ok).symm.trans hc
    have hv2 : lvI (nxI (bOf f bs) n (PS (bOf f bs) n 3 op p).1) = nI 2 := by rw [hn]; exact hv
    obtain ⟨a, e1, eb⟩ := rep_at h i1 ok
    have l := lv_in hv2 (by decide)
    have q4 := i1.2.2.2
    rw [if_pos ok] at q4
    simp only [wp_X9_compared_L30, pI_iff]
    refine ⟨⟨bs, n, _, op, at_next a l⟩, ?_, fun y f11 s2 => ?_⟩
    · show 8 * (5 - ix (up2 g 0 5 (g 0 5 + 1) 0 8)) + 4 < 8 * (5 - ix (f 0 8)) + 5
      rw [up2_off _ _ (by decide), q4.2.2.1]; omega
    have st := pm_step h i1 ok hv2 (by decide) s2
    rw [hn] at st
    have fin : pmPost f f11 2 (joinI x c y) := by
      refine pm_mk (by decide) h ?_
      rw [PE, show (1 : Nat) = 0 + 1 from rfl, pLoop_s ⟨ok, hv2⟩, hn]
      exact st
    refine ⟨fun n60 => ⟨fun n61 => ⟨fun e => ?_, fun e => ?_⟩, fun e61 => ⟨fun e => ?_, fun e => ?_⟩⟩, fun e60 => ⟨fun e => ?_, fun e => ?_⟩⟩
    · have : c = 62 := by rcases hcc with e | e | e; exact absurd e n60; exact absurd e n61; exact e
      subst this
      have jE : joinI x 62 y = if y < x then 1 else 0 := rfl
      rw [jE, if_neg (Int32.not_lt.mpr e)] at fin
      exact fin
    · have : c = 62 := by rcases hcc with e | e | e; exact absurd e n60; exact absurd e n61; exact e
      subst this
      have jE : joinI x 62 y = if y < x then 1 else 0 := rfl
      rw [jE, if_pos (Int32.not_le.mp e)] at fin
      exact fin
    · subst e61
      have jE : joinI x 61 y = if x = y then 1 else 0 := rfl
      rw [jE, if_neg e] at fin
      exact fin
    · subst e61
      have jE : joinI x 61 y = if x = y then 1 else 0 := rfl
      rw [jE, if_pos e] at fin
      exact fin
    · subst e60
      have jE : joinI x 60 y = if x < y then 1 else 0 := rfl
      rw [jE, if_neg (Int32.not_lt.mpr e)] at fin
      exact fin
    · subst e60
      have jE : joinI x 60 y = if x < y then 1 else 0 := rfl
      rw [jE, if_pos (Int32.not_le.mp e)] at fin
      exact fin
  refine ⟨rh.1, fun c => ?_, fun c => ⟨fun c2 => ?_, fun c2 => ⟨fun c3 => ?_, fun c3 => ?_⟩⟩⟩
  · exact main _ rfl (Or.inl c)
  · exact main _ rfl (Or.inr (Or.inl c2))
  · exact main _ rfl (Or.inr (Or.inr c3))
  · rw [pI_iff]; exact out c c2 c3
theorem vc_X9_sum : vcS_X9_sum := by
  intro f hp
  obtain ⟨bs, n, p, op, h⟩ := hp
  refine ⟨by show 8 * (5 - ix (f 0 8)) + 4 < 48; omega, ?_⟩
  simp only [wp_X9_sum, wp_X9_sum_L5]
  refine ⟨⟨bs, n, p, op, h⟩, by show 8 * (5 - ix (f 0 8)) + 3 < 8 * (5 - ix (f 0 8)) + 4; omega, fun r3 f4 s => ⟨fun (f' : Fn) (x : Int32) => pmLI f bs n p op 3 f' x, fun f' _ => pmMu f', pm_first h s, ?_⟩⟩
  rintro g x I
  simp only [wpb_X9_sum_L5, wp_X9_sum_L23, wp_X9_sum_L58, pI_iff]
  have pr := pm_pre h I
  have go : ∀ c, Val_X9_here g = c → lvI c = nI 3 → Pre_X9_product (up2 g 0 5 (g 0 5 + 1)) ∧ mu_X9_product (up2 g 0 5 (g 0 5 + 1)) < mu_X9_sum f ∧ ∀ (r11 : Int32) (f12 : Fn), Post_X9_product (up2 g 0 5 (g 0 5 + 1)) r11 f12 → pmLI f bs n p op 3 f12 (joinI x c r11) ∧ pmMu f12 < pmMu g := fun c hc hv => by
    obtain ⟨g1, g2, g3⟩ := pm_go (lv := 3) h I (by decide) hc hv
    refine ⟨g1, ?_, fun r f q => g3 f r q⟩
    show 8 * (5 - ix (up2 g 0 5 (g 0 5 + 1) 0 8)) + 3 < 8 * (5 - ix (f 0 8)) + 4
    rw [up2_off _ _ (by decide), g2]; omega
  refine ⟨pr, fun c => ?_, fun c => ⟨pr, fun c2 => ?_, fun c2 => ?_⟩⟩
  · obtain ⟨g1, g2, g3⟩ := go 43 c (by decide)
    exact ⟨pr, g1, g2, fun r11 f12 q => ⟨fun e => absurd c e, fun _ => g3 r11 f12 q⟩⟩
  · exact pm_exit h I (by decide) (by decide) (fun e => by rcases lv3 e with e | e; exact c e; exact c2 e)
  · obtain ⟨g1, g2, g3⟩ := go 45 c2 (by decide)
    exact ⟨pr, g1, g2, fun r11 f12 q => ⟨fun _ => g3 r11 f12 q, fun e => absurd e c⟩⟩
theorem vc_X9_product : vcS_X9_product := by
  intro f hp
  obtain ⟨bs, n, p, op, h⟩ := hp
  refine ⟨by show 8 * (5 - ix (f 0 8)) + 3 < 48; omega, ?_⟩
  simp only [wp_X9_product, wp_X9_product_L5]
  refine ⟨⟨bs, n, p, op, h⟩, by show 8 * (5 - ix (f 0 8)) + 2 < 8 * (5 - ix (f 0 8)) + 3; omega, fun r3 f4 s => ⟨fun (f' : Fn) (x : Int32) => pmLI f bs n p op 4 f' x, fun f' _ => pmMu f', pm_first h s, ?_⟩⟩
  rintro g x I
  simp only [wpb_X9_product_L5]
  have pr := pm_pre h I
  have go : ∀ c, Val_X9_here g = c → lvI c = nI 4 → Pre_X9_unit (up2 g 0 5 (g 0 5 + 1)) ∧ mu_X9_unit (up2 g 0 5 (g 0 5 + 1)) < mu_X9_product f ∧ ∀ (r11 : Int32) (f12 : Fn), Post_X9_unit (up2 g 0 5 (g 0 5 + 1)) r11 f12 → pmLI f bs n p op 4 f12 (joinI x c r11) ∧ pmMu f12 < pmMu g := fun c hc hv => by
    obtain ⟨g1, g2, g3⟩ := pm_go (lv := 4) h I (by decide) hc hv
    refine ⟨g1, ?_, fun r f q => g3 f r q⟩
    show 8 * (5 - ix (up2 g 0 5 (g 0 5 + 1) 0 8)) + 2 < 8 * (5 - ix (f 0 8)) + 3
    rw [up2_off _ _ (by decide), g2]; omega
  have main : ∀ c, Val_X9_here g = c → (c = 42 ∨ c = 47 ∨ c = 37) → wp_X9_product_L32 (mu_X9_product f) (fun f9 x19 => pmLI f bs n p op 4 f9 x19 ∧ pmMu f9 < pmMu g) g x (pI (Post_X9_product f)) := by
    intro c hc hcc
    obtain ⟨g1, g2, g3⟩ := go c hc (by rcases hcc with e | e | e <;> subst e <;> decide)
    simp only [wp_X9_product_L32, wp_X9_product_L87]
    rw [hc]
    refine ⟨pr, g1, g2, fun r11 f12 q => ?_⟩
    have st := g3 r11 f12 q
    refine ⟨fun n42 => ⟨fun n0 => ⟨fun n47 => ⟨n0, ?_⟩, fun e47 => ⟨n0, ?_⟩⟩, fun e0 => ?_⟩, fun e42 => ?_⟩
    · have : c = 37 := by rcases hcc with e | e | e; exact absurd e n42; exact absurd e n47; exact e
      subst this
      have jE : joinI x 37 r11 = if r11 = 0 then 0 else remI x r11 := rfl
      rw [jE, if_neg n0] at st
      exact st
    · subst e47
      have jE : joinI x 47 r11 = if r11 = 0 then 0 else x / r11 := rfl
      rw [jE, if_neg n0] at st
      exact st
    · have jE : joinI x c r11 = 0 := by
        rcases hcc with e | e | e
        · exact absurd e n42
        · subst e; show (if r11 = 0 then 0 else x / r11) = 0; rw [if_pos e0]
        · subst e; show (if r11 = 0 then 0 else remI x r11) = 0; rw [if_pos e0]
      rw [jE] at st
      exact st
    · subst e42
      exact st
  refine ⟨pr, fun c => main 42 c (Or.inl rfl), fun c => ⟨pr, fun c2 => main 47 c2 (Or.inr (Or.inl rfl)), fun c2 => ⟨pr, fun c3 => ?_, fun c3 => main 37 c3 (Or.inr (Or.inr rfl))⟩⟩⟩
  rw [pI_iff]
  exact pm_exit h I (by decide) (by decide) (fun e => by rcases lv4 e with e | e | e; exact c e; exact c2 e; exact c3 e)
theorem in_dg (f : Fn) (x : Int32) : Val_X9_in f x.toInt64 48 57 = if dgI x = true then 1 else 0 := by
  have e : Val_X9_in f x.toInt64 48 57 = if 48 ≤ x ∧ x ≤ 57 then 1 else 0 := inG f x 48 57 _ _ (by decide) (by decide)
  rw [e]
  by_cases q : 48 ≤ x ∧ x ≤ 57
  · rw [if_pos q, if_pos (dgF.mpr q)]
  · rw [if_neg q, if_neg (fun z => q (dgF.mp z))]
set_option maxHeartbeats 400000 in
theorem vc_X9_unit : vcS_X9_unit := by
  intro f hp
  obtain ⟨bs, n, p, op, h⟩ := hp
  refine ⟨by show 8 * (5 - ix (f 0 8)) + 2 < 48; omega, ?_⟩
  obtain ⟨a1, a2, a3, a4, a5, a6, a7, a8, a9⟩ := id h
  have hh := pm_here h
  have e8 : ix (f 0 8) = op := by rw [a9]; exact nI_clamp (by omega)
  obtain ⟨c, hc⟩ : ∃ c, c = nxI (bOf f bs) n p := ⟨_, rfl⟩
  have P5 := PS_5 (bOf f bs) n op p a4
  rw [← hc] at P5
  have hc' : Val_X9_here f = c := hh.1.trans hc.symm
  -- a failure here and now
  have wr : PS (bOf f bs) n 5 op p = (p, true, []) → ∀ r g, Post_X9_wrong f r g → pmPost f g 5 r := fun e r g z => by
    obtain ⟨z1, z2⟩ := z
    rw [a8, if_pos (by decide)] at z2
    subst z2
    refine pm_mk (by decide) h ?_
    rw [e]
    exact ⟨fun a x => up2_row _ _ _ _ _ x, fun j x5 x7 x8 => up2_off _ _ x7, a3, by
      rw [if_neg (show ¬ (true : Bool) = false by decide), up2_at]; exact a7⟩
  have m17 : (c = 33 ∨ c = 40) → wp_X9_unit_L17 (mu_X9_unit f) f c (pI (Post_X9_unit f)) := by
    intro hcc
    have l : p < n := by rcases hcc with e | e <;> rw [e] at hc <;> exact nx_in hc.symm (by decide)
    have nd : ¬ dgI c = true := by rcases hcc with e | e <;> rw [e] <;> decide
    have nn : ¬ (c = 107 ∨ c = 118 ∨ c = 109) := by rcases hcc with e | e <;> rw [e] <;> decide
    rw [if_neg nd, if_neg nn] at P5
    simp only [wp_X9_unit_L17]
    obtain ⟨g, hg⟩ : ∃ g, g = up2 (up2 f 0 8 (f 0 8 + 1)) 0 5 (f 0 5 + 1) := ⟨_, rfl⟩
    have g1 : ∀ a, ¬ a = 0 → g a = f a := fun a x => by rw [hg, up2_row _ _ _ _ _ x, up2_row _ _ _ _ _ x]
    have g0 : ∀ j, ¬ j = 5 → ¬ j = 8 → g 0 j = f 0 j := fun j x5 x8 => by rw [hg, up2_off _ _ x5, up2_off _ _ x8]
    have e5 : up2 f 0 8 (f 0 8 + 1) 0 5 = f 0 5 := up2_off _ _ (by decide)
    have eb : bOf g bs = bOf f bs := by unfold bOf; rw [g1 1 (by decide)]
    have g08 : g 0 8 = nI (op + 1) := by rw [hg, up2_off _ _ (by decide), up2_at, a9, nI_1]
    have gat : op < 5 → pmAt g bs n (p + 1) (op + 1) := fun o5 => ⟨a1, a2, l, by omega, (g0 4 (by decide) (by decide)).trans a5, (g0 6 (by decide) (by decide)).trans a6, by rw [hg, up2_at, a7, nI_1], (g0 7 (by decide) (by decide)).trans a8, g08⟩
    have ev : ∀ S xs, evS g S xs = evS f S xs := fun S xs => by unfold evS; rw [g1 4 (by decide)]
    rw [← hg]
    refine ⟨fun h5 => ?_, fun h5 r26 f27 z => ?_⟩
    rotate_left
    · have o5 : ¬ op < 5 := fun q => by
        rw [a9] at h5
        have : nI op = nI 5 := h5
        rw [nI_eq (by omega) (by decide)] at this
        omega
      rw [if_neg (fun q => o5 q.2), if_neg (fun q => o5 q.2)] at P5
      rw [pI_iff]
      exact wr P5 _ _ z
    have o5 : op < 5 := by
      have : ¬ op = 5 := fun q => h5 (by rw [a9, q]; rfl)
      omega
    have muE : ∀ k, k < 8 → 8 * (5 - ix (g 0 8)) + k < 8 * (5 - ix (f 0 8)) + 2 ∨ k = 10 := fun k hk => by
      left
      rw [e8, g08, show ix (nI (op + 1)) = op + 1 from nI_clamp (by omega)]; omega
    have back : ∀ f2 : Fn, f2 0 8 = g 0 8 → f2 0 8 - 1 = f 0 8 := fun f2 e => by rw [e, g08, a9, ← nI_1]; grind
    refine ⟨fun n40 => ?_, fun e40 => ?_⟩
    · have e33 : c = 33 := by rcases hcc with e | e; exact e; exact absurd e n40
      rw [if_pos ⟨e33, o5⟩] at P5
      refine ⟨⟨bs, n, p + 1, op + 1, gat o5⟩, (muE 2 (by omega)).elim id (fun z => absurd z (by omega)), fun r7 f8 s => ?_⟩
      have q := pm_in s (gat o5)
      rw [eb] at q
      obtain ⟨q1, q2, q3, q4⟩ := q
      generalize PS (bOf f bs) n 5 (op + 1) (p + 1) = w at q3 q4 P5
      simp only [wp_X9_unit_L67, wp_X9_unit_L88, pI_iff]
      have fin : ∀ v : Int32, v = (if r7 = 0 then 1 else 0) → pmPost f (up2 f8 0 8 (f8 0 8 - 1)) 5 v := fun v hv => by
        refine pm_mk (by decide) h ?_
        rw [P5]
        refine ⟨fun a x => by rw [up2_row _ _ _ _ _ x, q1 a x, g1 a x], fun j x5 x7 x8 => by rw [up2_off _ _ x8, q2 j x5 x7 x8, g0 j x5 x8], q3, ?_⟩
        by_cases ok : w.2.1 = false
        · rw [if_pos ok] at q4
          rw [if_pos ok]
          refine ⟨(up2_off _ _ (by decide)).trans q4.1, (up2_off _ _ (by decide)).trans q4.2.1, by rw [up2_at]; exact back f8 q4.2.2.1, fun S => ?_⟩
          have v1 := q4.2.2.2 S
          rw [ev] at v1
          unfold evS at v1 ⊢
          rw [List.foldl_append, v1, hv]
          exact rpNot (f 4 0) (f 4 1) (f 4 2) r7 S
        · rw [if_neg ok] at q4
          rw [if_neg ok]
          exact (up2_off _ _ (by decide)).trans q4
      exact ⟨fun _ => ⟨fun _ => ⟨fun e => fin 0 (by rw [if_neg e]), fun e => fin 1 (by rw [if_pos e])⟩, fun e => absurd e n40⟩, fun e => absurd e n40⟩
    · have n33 : ¬ (c = 33 ∧ op < 5) := fun z => by rw [e40] at z; exact absurd z.1 (by decide)
      rw [if_neg n33, if_pos ⟨e40, o5⟩] at P5
      refine ⟨⟨bs, n, p + 1, op + 1, gat o5⟩, (muE 7 (by omega)).elim id (fun z => absurd z (by omega)), fun r23 f24 s => ?_⟩
      have q := pm_in s (gat o5)
      rw [eb] at q
      have rh := rep_here (gat o5) q
      rw [eb] at rh
      obtain ⟨q1, q2, q3, q4⟩ := id q
      generalize PS (bOf f bs) n 0 (op + 1) (p + 1) = w at q q3 q4 P5 rh
      simp only [wp_X9_unit_L67, wp_X9_unit_L88, pI_iff]
      refine ⟨fun e => absurd e40 e, fun _ => ⟨rh.1, fun r14 f15 t => ?_⟩⟩
      unfold Post_X9_takes at t
      by_cases c41 : Val_X9_here f24 = 41
      · rw [if_pos c41] at t
        obtain ⟨t1, t2⟩ := t
        have ok : w.2.1 = false := Classical.byContradiction fun no => by
          rw [rh.2.2 no] at c41; exact absurd c41 (by decide)
        have n41 : nxI (bOf f bs) n w.1 = 41 := (rh.2.1 ok).symm.trans c41
        have lw := nx_in n41 (by decide)
        rw [if_pos ⟨ok, n41⟩] at P5
        rw [if_pos ok] at q4
        rw [t1]
        refine ⟨fun _ => ⟨fun e => absurd e40 e, fun _ => ?_⟩, fun e => absurd e (by decide)⟩
        refine pm_mk (by decide) h ?_
        rw [P5, t2]
        refine ⟨fun a x => by rw [up2_row _ _ _ _ _ x, up2_row _ _ _ _ _ x, q1 a x, g1 a x], fun j x5 x7 x8 => by rw [up2_off _ _ x8, up2_off _ _ x5, q2 j x5 x7 x8, g0 j x5 x8], lw, ?_⟩
        rw [if_pos rfl]
        refine ⟨by rw [up2_off _ _ (by decide), up2_at, q4.1, nI_1], by rw [up2_off _ _ (by decide), up2_off _ _ (by decide)]; exact q4.2.1, ?_, fun S => by rw [← ev]; exact q4.2.2.2 S⟩
        rw [up2_at, up2_off _ _ (by decide)]; exact back f24 q4.2.2.1
      · rw [if_neg c41] at t
        obtain ⟨t1, t2⟩ := t
        have n5 : ¬ (w.2.1 = false ∧ nxI (bOf f bs) n w.1 = 41) := fun z => c41 ((rh.2.1 z.1).trans z.2)
        rw [if_neg n5] at P5
        rw [t1]
        refine ⟨fun e => absurd rfl e, fun _ r18 f19 z => ?_⟩
        obtain ⟨z1, z2⟩ := z
        rw [t2] at z2
        refine pm_mk (by decide) h ?_
        rw [P5, z2]
        refine ⟨fun a x => by rw [up2_row _ _ _ _ _ x, q1 a x, g1 a x], fun j x5 x7 x8 => by rw [up2_off _ _ x7, q2 j x5 x7 x8, g0 j x5 x8], q3, ?_⟩
        rw [if_neg (show ¬ (true : Bool) = false by decide), up2_at]
        by_cases ok : w.2.1 = false
        · rw [if_pos ok] at q4
          rw [q4.2.1, if_pos (by decide)]; exact q4.1
        · rw [if_neg ok] at q4
          rw [q4, if_neg (nI_pos (by omega))]
  have m149 : ¬ (c = 33) → ¬ (c = 40) → ¬ (c = 107 ∨ c = 118 ∨ c = 109) → wp_X9_unit_L149 (mu_X9_unit f) f 0 0 (pI (Post_X9_unit f)) := by
    intro n33 n40 nn
    have nA : ¬ (c = 33 ∧ op < 5) := fun z => n33 z.1
    have nB : ¬ (c = 40 ∧ op < 5) := fun z => n40 z.1
    rw [if_neg nn, if_neg nA, if_neg nB] at P5
    simp only [wp_X9_unit_L149]
    refine ⟨fun (g : Fn) (x3 x4 : Int32) => ∃ k : Nat, k ≤ 4 ∧ x4 = nI k ∧ numK (bOf f bs) n p k = (k, x3) ∧ pmAt g bs n (p + k) op ∧ (∀ a, ¬ a = 0 → g a = f a) ∧ (∀ j, ¬ j = 5 → ¬ j = 7 → ¬ j = 8 → g 0 j = f 0 j), fun _ _ x4 => 10 - x4.toNatClampNeg, ⟨0, by omega, rfl, rfl, h, fun _ _ => rfl, fun _ _ _ _ => rfl⟩, ?_⟩
    rintro g x3 x4 ⟨k, k4, rfl, nk, gat, g1, g0⟩
    have eb : bOf g bs = bOf f bs := by unfold bOf; rw [g1 1 (by decide)]
    have gh := pm_here gat
    rw [eb] at gh
    obtain ⟨b1, b2, b3, b4, b5, b6, b7, b8, b9⟩ := id gat
    have out : numK (bOf f bs) n p 4 = (k, x3) → wp_X9_unit_L201 (mu_X9_unit f) g x3 (nI k) (pI (Post_X9_unit f)) := by
      intro e4
      have i9 := numK4 (bOf f bs) n p
      rw [e4] at i9
      simp only [wp_X9_unit_L201, pI_iff]
      refine ⟨fun kz => ?_, fun kz r33 f34 z => ?_⟩
      · have k0 : 0 < k := by
          rcases Nat.eq_zero_or_pos k with e | e
          · exact absurd (by rw [e]; rfl) kz
          · exact e
        have dg : dgI c = true := Classical.byContradiction fun nd => by
          have := numK_z (b := bOf f bs) (n := n) (p := p) (k := 0) rfl (by rw [Nat.add_zero, ← hc]; exact nd) 4 (by omega)
          rw [e4] at this
          have : k = 0 := congrArg Prod.fst this
          omega
        rw [if_pos dg, e4] at P5
        refine pm_mk (by decide) h ?_
        rw [P5]
        refine ⟨g1, g0, b3, ?_⟩
        rw [if_pos rfl]
        refine ⟨b7, b8, b9.trans a9.symm, fun S => ?_⟩
        have := rpPart (f 4 0) (f 4 1) (f 4 2) (isPnn i9.1) S
        show rpS _ _ _ S x3 = x3 :: S
        rw [this, if_pos i9.1]
      · have k0 : k = 0 := by
          have : nI k = nI 0 := kz
          rwa [nI_eq (by omega) (by omega)] at this
        subst k0
        have nd : ¬ dgI c = true := fun dg => by
          have := numK_1 (b := bOf f bs) (n := n) (p := p) (by rw [← hc]; exact dg) 3
          rw [e4] at this
          have : 1 ≤ 0 := this
          omega
        rw [if_neg nd] at P5
        obtain ⟨z1, z2⟩ := z
        rw [b8, if_pos (by decide)] at z2
        refine pm_mk (by decide) h ?_
        rw [P5, z2]
        exact ⟨fun a x => by rw [up2_row _ _ _ _ _ x]; exact g1 a x, fun j x5 x7 x8 => by rw [up2_off _ _ x7]; exact g0 j x5 x7 x8, a3, by
          rw [if_neg (show ¬ (true : Bool) = false by decide), up2_at, b7]; rfl⟩
    simp only [wpb_X9_unit_L149, in_dg]
    have l4 : (4 : Int32) ≤ nI k ↔ 4 ≤ k := nI_leI (a := 4) (by decide) (by omega)
    refine ⟨fun h4 => out ?_, fun h4 => ⟨gh.2, fun h5 => out ?_, fun h5 => ⟨gh.2, ⟨k + 1, ?_, by rw [nI_1], ?_, ?_, ?_, ?_⟩, ?_⟩⟩⟩
    · have : k = 4 := by have := l4.mp h4; omega
      rw [← this]; rw [this] at nk ⊢; exact nk
    · have nd : ¬ dgI (nxI (bOf f bs) n (p + k)) = true := fun q => by
        rw [gh.1, if_pos q] at h5; cases h5
      rw [numK_z (by rw [nk]) nd 4 k4, nk]
    · exact Nat.lt_of_not_le (fun q => h4 (l4.mpr q))
    · have dg : dgI (nxI (bOf f bs) n (p + k)) = true := Classical.byContradiction fun nd => h5 (by rw [gh.1, if_neg nd])
      rw [numK_s, nk, if_pos ⟨rfl, dg⟩, gh.1]
      have : (10 : Int32) * x3 = x3 * 10 := by grind
      rw [this]
    · have dg : dgI (nxI (bOf f bs) n (p + k)) = true := Classical.byContradiction fun nd => h5 (by rw [gh.1, if_neg nd])
      exact at_next gat (dg_in dg)
    · intro a x; rw [up2_row _ _ _ _ _ x]; exact g1 a x
    · intro j x5 x7 x8; rw [up2_off _ _ x5]; exact g0 j x5 x7 x8
    · have : k < 4 := Nat.lt_of_not_le (fun q => h4 (l4.mpr q))
      rw [nI_1, nI_clamp (by omega), nI_clamp (by omega)]; omega
  simp only [wp_X9_unit]
  rw [hc']
  refine ⟨hh.2, fun e => m17 (Or.inl e), fun n33 => ⟨fun n40 => ⟨fun nm => m149 n33 n40 ?_, fun nm => ?_⟩, fun e => m17 (Or.inr e)⟩⟩
  · intro z
    rcases z with e | e | e <;> rw [e] at nm <;> exact absurd nm (by unfold Val_X9_nameOf; decide)
  · have cc : c = 107 ∨ c = 118 ∨ c = 109 := by
      have : Val_X9_nameOf f c = if c = 107 then 0 else if c = 118 then 1 else if c = 109 then 2 else -1 := rfl
      rw [this] at nm
      grind
    have nd : ¬ dgI c = true := by rcases cc with e | e | e <;> rw [e] <;> decide
    have l : p < n := by rcases cc with e | e | e <;> rw [e] at hc <;> exact nx_in hc.symm (by decide)
    rw [if_neg nd, if_pos cc] at P5
    have fin : ∀ v : Int32, (∀ S, rpS (f 4 0) (f 4 1) (f 4 2) S (-c) = v :: S) → pmPost f (up2 f 0 5 (f 0 5 + 1)) 5 v := fun v hv => by
      refine pm_mk (by decide) h ?_
      rw [P5]
      refine ⟨fun a x => up2_row _ _ _ _ _ x, fun j x5 x7 x8 => up2_off _ _ x5, l, ?_⟩
      rw [if_pos rfl]
      exact ⟨by rw [up2_at, a7, nI_1], (up2_off _ _ (by decide)).trans a8, up2_off _ _ (by decide), fun S => hv S⟩
    rw [pI_iff]
    rcases cc with e | e | e <;> subst e
    · refine ⟨by unfold Val_X9_nameOf vp_in; decide, fin _ fun S => ?_⟩
      rw [rpPart _ _ _ (by decide) S, show (Val_X9_nameOf f 107).toNatClampNeg = 0 by unfold Val_X9_nameOf; decide]; rfl
    · refine ⟨by unfold Val_X9_nameOf vp_in; decide, fin _ fun S => ?_⟩
      rw [rpPart _ _ _ (by decide) S, show (Val_X9_nameOf f 118).toNatClampNeg = 1 by unfold Val_X9_nameOf; decide]; rfl
    · refine ⟨by unfold Val_X9_nameOf vp_in; decide, fin _ fun S => ?_⟩
      rw [rpPart _ _ _ (by decide) S, show (Val_X9_nameOf f 109).toNatClampNeg = 2 by unfold Val_X9_nameOf; decide]; rfl
theorem vc_X9_worked : vcS_X9_worked := by
  intro f a1 a2 a3 hp
  obtain ⟨bs, n, rfl, rfl, h264, h50⟩ := hp
  simp only [wp_X9_worked]
  obtain ⟨g, hg⟩ : ∃ g, g = up2 (up2 (up2 (up2 (up2 f 0 4 (nI bs)) 0 5 0) 0 6 (nI n)) 0 7 (-1)) 0 8 0 := ⟨_, rfl⟩
  rw [← hg]
  have g1 : ∀ a, ¬ a = 0 → g a = f a := fun a x => by rw [hg, up2_row _ _ _ _ _ x, up2_row _ _ _ _ _ x, up2_row _ _ _ _ _ x, up2_row _ _ _ _ _ x, up2_row _ _ _ _ _ x]
  have g0 : ∀ j, ¬ j = 4 → ¬ j = 5 → ¬ j = 6 → ¬ j = 7 → ¬ j = 8 → g 0 j = f 0 j := fun j x4 x5 x6 x7 x8 => by rw [hg, up2_off _ _ x8, up2_off _ _ x7, up2_off _ _ x6, up2_off _ _ x5, up2_off _ _ x4]
  have at0 : pmAt g bs n 0 0 := ⟨h264, h50, by omega, by omega, by rw [hg, up2_off _ _ (by decide), up2_off _ _ (by decide), up2_off _ _ (by decide), up2_off _ _ (by decide), up2_at], by rw [hg, up2_off _ _ (by decide), up2_off _ _ (by decide), up2_at], by rw [hg, up2_off _ _ (by decide), up2_off _ _ (by decide), up2_off _ _ (by decide), up2_at]; rfl, by rw [hg, up2_off _ _ (by decide), up2_at], by rw [hg, up2_at]; rfl⟩
  have eb : bOf g bs = bOf f bs := by unfold bOf; rw [g1 1 (by decide)]
  refine ⟨⟨bs, n, 0, 0, at0⟩, fun r2 f3 s => ?_⟩
  have q := pm_in s at0
  have bd := PS_bd (bOf g bs) 0 0 (Nat.zero_le n)
  rw [eb, ← pT_PS] at q bd
  obtain ⟨q1, q2, q3, q4⟩ := q
  generalize hw : pT (bOf f bs) n = w at q3 q4 bd
  have hw' : pT (fun j => f 1 (bs + j)) n = w := hw
  have uq : ∀ bs2 n2 : Nat, nI bs = nI bs2 → nI n = nI n2 → bs2 + n2 ≤ 264 → n2 ≤ 50 → bs2 = bs ∧ n2 = n := fun bs2 n2 e1 e2 e3 e4 => by
    rw [nI_eq (by omega) (by omega)] at e1 e2; omega
  have r3 : ∀ a, ¬ a = 0 → f3 a = f a := fun a x => (q1 a x).trans (g1 a x)
  have r30 : ∀ j, ¬ j = 4 → ¬ j = 5 → ¬ j = 6 → ¬ j = 7 → ¬ j = 8 → f3 0 j = f 0 j := fun j x4 x5 x6 x7 x8 => (q2 j x5 x7 x8).trans (g0 j x4 x5 x6 x7 x8)
  have ev : ∀ S xs, evS g S xs = evS f S xs := fun S xs => by unfold evS; rw [g1 4 (by decide)]
  have e6 : f3 0 6 = nI n := (q2 6 (by decide) (by decide) (by decide)).trans at0.2.2.2.2.2.1
  refine ⟨fun h1 => ?_, fun h1 => ⟨fun h2 => ?_, fun h2 r7 f8 z => ?_⟩⟩
  · rw [pI_iff]
    intro bs2 n2 e1 e2 e3 e4
    obtain ⟨rfl, rfl⟩ := uq bs2 n2 e1 e2 e3 e4
    rw [hw']
    refine ⟨r3, r30, q3, ?_⟩
    by_cases ok : w.2.1 = false
    · rw [if_pos ok] at q4
      rw [q4.2.1] at h1
      exact absurd h1 (by decide)
    · rw [if_neg ok] at q4
      rw [if_neg (fun z => ok z.1)]; exact q4
  · rw [pI_iff]
    intro bs2 n2 e1 e2 e3 e4
    obtain ⟨rfl, rfl⟩ := uq bs2 n2 e1 e2 e3 e4
    rw [hw']
    refine ⟨r3, r30, q3, ?_⟩
    by_cases ok : w.2.1 = false
    · rw [if_pos ok] at q4
      have wn : w.1 = n2 := by
        rw [e6, q4.1, nI_leI (by omega) (by omega)] at h2
        omega
      rw [if_pos ⟨ok, wn⟩]
      exact ⟨q4.2.1, fun S => by rw [← ev]; exact q4.2.2.2 S⟩
    · rw [if_neg ok] at q4
      rw [q4] at h1
      exact absurd (Int32.not_lt.mp (nI_pos (by omega))) h1
  · rw [pI_iff]
    intro bs2 n2 e1 e2 e3 e4
    obtain ⟨rfl, rfl⟩ := uq bs2 n2 e1 e2 e3 e4
    rw [hw']
    obtain ⟨z1, z2⟩ := z
    by_cases ok : w.2.1 = false
    · rw [if_pos ok] at q4
      have wn : ¬ w.1 = n2 := fun e => by
        rw [e6, q4.1, e] at h2
        exact h2 (Int32.le_refl _)
      rw [q4.2.1, if_pos (by decide)] at z2
      subst z2
      refine ⟨fun a x => by rw [up2_row _ _ _ _ _ x]; exact r3 a x, fun j x4 x5 x6 x7 x8 => by rw [up2_off _ _ x7]; exact r30 j x4 x5 x6 x7 x8, q3, ?_⟩
      rw [if_neg (fun z => wn z.2), up2_at]; exact q4.1
    · rw [if_neg ok] at q4
      rw [q4] at h1
      exact absurd (Int32.not_lt.mp (nI_pos (by omega))) h1
theorem vc_X9_feed : vcS_X9_feed := by
  intro f0 a1 a2 hp
  unfold Pre_X9_feed at hp
  obtain ⟨m, m50, hm⟩ : ∃ n : Nat, n ≤ 50 ∧ f0 1 9 = nI n := by
    obtain ⟨-, -, -, -, -, -, -, -, -, h, -⟩ := hp.1; exact h
  simp only [wp_X9_feed, in_1_8]
  refine ⟨fun h => ⟨fun h2 => ?_, fun h2 => ⟨pf4 _, fun r f p => ?_⟩⟩, fun h => ⟨pf1 _, fun r f p => ?_⟩⟩
  rotate_left
  · have c : inP a2 1 8 := Classical.byContradiction fun hn => h (if_neg hn)
    have R : RE_feed f0 a1 a2 = er f0 4 := by unfold RE_feed; rw [if_pos c, if_pos (Int32.not_le.mp h2)]
    rw [pI_iff]; unfold Post_X9_feed; rw [R]; exact fi4 p
  · have c : ¬ inP a2 1 8 := fun hn => by rw [if_pos hn] at h; cases h
    have R : RE_feed f0 a1 a2 = er f0 1 := by unfold RE_feed; rw [if_neg c]
    rw [pI_iff]; unfold Post_X9_feed; rw [R]; exact fi1 p
  have c : inP a2 1 8 := Classical.byContradiction fun hn => h (if_neg hn)
  obtain ⟨n, n8, rfl⟩ := nI_of2 (M := 8) (n := 8) (by decide) (by have := c.1; grind) c.2
  have mn : m + n ≤ 50 := by
    rw [hm, nI_add] at h2
    have : nI (m + n) ≤ nI 50 := h2
    rwa [nI_leI (by omega) (by decide)] at this
  have R : RE_feed f0 a1 (nI n) = (nI (m + n), fun a => if a = 1 then (fun j => if j = 9 then nI (m + n) else if 212 + m ≤ j ∧ j < 212 + m + n then byteM a1 (j - (212 + m)) else f0 1 j) else f0 a) := by
    unfold RE_feed
    rw [if_pos c, hm, nI_add, if_neg (by show ¬ nI 50 < nI (m + n); rw [nI_ltI (by decide) (by omega)]; omega), show ix (nI m) = m from nI_clamp (by omega), show ix (nI n) = n from nI_clamp (by omega)]
  simp only [wp_X9_feed_L41]
  refine ⟨fun (f : Fn) (x1 : Int64) (x3 x4 : Int32) => x1 = a1 ∧ x3 = nI n ∧ ∃ k : Nat, k ≤ n ∧ x4 = nI k ∧ ∀ a j, f a j = if a = 1 then (if j = 9 then nI (m + k) else if 212 + m ≤ j ∧ j < 212 + m + k then byteM a1 (j - (212 + m)) else f0 1 j) else f0 a j, fun _ _ _ x4 => 100 - x4.toNatClampNeg, ⟨rfl, rfl, 0, by omega, rfl, fun a j => ?_⟩, ?_⟩
  · by_cases ha : a = 1
    · rw [if_pos ha, ha]
      by_cases hj : j = 9
      · rw [if_pos hj, hj, hm]; rfl
      · rw [if_neg hj, if_neg (by omega)]
    · rw [if_neg ha]
  · rintro f x1 x3 x4 ⟨rfl, rfl, k, hk, rfl, hI⟩
    simp only [wpb_X9_feed_L41, pI_iff]
    rw [nI_leI (by omega) (by omega)]
    have e9 : f 1 9 = nI (m + k) := by rw [hI, if_pos rfl, if_pos rfl]
    refine ⟨fun h3 => ?_, fun h3 => ?_⟩
    · have : k = n := by omega
      subst this
      unfold Post_X9_feed
      rw [R]
      refine ⟨e9, ?_⟩
      have : f = fun a => if a = 1 then (fun j => if j = 9 then nI (m + k) else if 212 + m ≤ j ∧ j < 212 + m + k then byteM x1 (j - (212 + m)) else f0 1 j) else f0 a := by
        funext a j
        rw [hI]
        by_cases ha : a = 1
        · simp only [if_pos ha]
        · simp only [if_neg ha]
      rw [this]; exact eqM_rfl _
    · have e212 : ((212 : Int32) + f 1 9) = nI (212 + (m + k)) := by rw [e9]; exact nI_add 212 _
      rw [e212, nI_clamp (by omega)]
      have off : up2 f 1 (212 + (m + k)) ((x1 >>> (((8 : Int32) * nI k).toInt64 &&& 63)) &&& (255 : Int64)).toInt32 1 9 = nI (m + k) := by rw [up2_off _ _ (by omega), e9]
      rw [off]
      refine ⟨vp_in_nI (by omega) (by omega), ⟨trivial, trivial, k + 1, by omega, by rw [nI_1], fun a j => ?_⟩, ?_⟩
      · rw [up2_ap, up2_ap, hI]
        by_cases ha : a = 1
        · simp only [if_pos ha]
          by_cases hj : j = 9
          · simp only [if_pos hj]; rw [nI_1]; congr 1
          · simp only [if_neg hj]
            by_cases hj2 : j = 212 + (m + k)
            · rw [if_pos hj2, if_pos (by omega), hj2, show 212 + (m + k) - (212 + m) = k by omega]; rfl
            · rw [if_neg hj2]
              by_cases hj3 : 212 + m ≤ j ∧ j < 212 + m + k
              · rw [if_pos hj3, if_pos (by omega)]
              · rw [if_neg hj3, if_neg (by omega)]
        · simp only [if_neg ha]
      · rw [nI_1, nI_clamp (by omega), nI_clamp (by omega)]; omega
theorem vc_X9_text : vcS_X9_text := by
  intro f0 a1 hp
  unfold Pre_X9_text at hp
  obtain ⟨m, m50, hm⟩ : ∃ n : Nat, n ≤ 50 ∧ f0 1 9 = nI n := by
    obtain ⟨-, -, -, -, -, -, -, -, -, h, -⟩ := hp.1; exact h
  simp only [wp_X9_text, in_0_1]
  refine ⟨fun h => ?_, fun h => ⟨pf1 _, fun r f p => ?_⟩⟩
  rotate_left
  · have c : ¬ inP a1 0 1 := fun hn => by rw [if_pos hn] at h; cases h
    have R : RE_text f0 a1 = er f0 1 := by unfold RE_text; rw [if_neg c]
    rw [pI_iff]; unfold Post_X9_text; rw [R]; exact fi1 p
  have c : inP a1 0 1 := Classical.byContradiction fun hn => h (if_neg hn)
  obtain ⟨u, u1, rfl⟩ := nI_of2 (M := 1) (n := 1) (by decide) (Int32.not_lt.mpr c.1) c.2
  have ixm : ix (nI m) = m := nI_clamp (by omega)
  have ixu : ix (nI u) = u := nI_clamp (by omega)
  refine ⟨⟨212, m, rfl, hm, by omega, m50⟩, fun r3 f4 s => ?_⟩
  obtain ⟨s1, s2, s3, s4⟩ := s 212 m rfl hm (by omega) m50
  obtain ⟨w, hw⟩ : ∃ w, w = pT (fun j => f0 1 (212 + j)) m := ⟨_, rfl⟩
  have hw2 : pT (fun j => up2 f0 1 9 0 1 (212 + j)) m = w := by
    rw [hw]
    exact pT_c fun j _ => up2_off _ _ (by omega)
  rw [hw2] at s3 s4
  have R : RE_text f0 (nI u) = if w.2.1 = false ∧ w.1 = m then (1, fun a => if a = 1 then (fun j => if j = 9 then 0 else if j = 90 + u then nI m else if 112 + 50 * u ≤ j ∧ j < 112 + 50 * u + m then f0 1 (212 + (j - (112 + 50 * u))) else f0 1 j) else f0 a) else (-10 - nI w.1, up2 f0 1 9 0) := by
    unfold RE_text; rw [if_pos c, hm, ixm, ixu, ← hw]
  have em : eqM (up2 f0 1 9 0) f4 := by
    refine ⟨s1 1 (by decide), s1 2 (by decide), s1 3 (by decide), s1 6 (by decide), s1 7 (by decide), s1 8 (by decide), s1 9 (by decide), s2 2 (by decide) (by decide) (by decide) (by decide) (by decide), s2 10 (by decide) (by decide) (by decide) (by decide) (by decide), s2 20 (by decide) (by decide) (by decide) (by decide) (by decide)⟩
  refine ⟨fun h7 => ?_, fun h7 => ?_⟩
  rotate_left
  · have no : ¬ (w.2.1 = false ∧ w.1 = m) := fun z => by
      rw [if_pos z] at s4; rw [s4.1] at h7; exact h7 (by decide)
    rw [if_neg no] at s4 R
    rw [pI_iff]; unfold Post_X9_text; rw [R, s4]
    exact ⟨rfl, em⟩
  have ok : w.2.1 = false ∧ w.1 = m := Classical.byContradiction fun z => by
    rw [if_neg z] at s4
    rw [s4] at h7
    exact nI_pos (by omega) h7
  rw [if_pos ok] at R
  have e90 : (90 : Int32) + nI u = nI (90 + u) := nI_add 90 u
  rw [e90, nI_clamp (by omega), hm]
  refine ⟨vp_in_nI (by omega) (by omega), ?_⟩
  simp only [wp_X9_text_L70]
  have f41 : ∀ j, f4 1 j = if j = 9 then 0 else f0 1 j := fun j => by
    rw [s1 1 (by decide), up2_ap, if_pos rfl]
  refine ⟨fun (f : Fn) (x1 x2 x4 : Int32) => x1 = nI u ∧ x2 = nI m ∧ ∃ k : Nat, k ≤ m ∧ x4 = nI k ∧ (∀ a, ¬ a = 1 → f a = f4 a) ∧ ∀ j, f 1 j = if j = 9 then 0 else if j = 90 + u then nI m else if 112 + 50 * u ≤ j ∧ j < 112 + 50 * u + k then f0 1 (212 + (j - (112 + 50 * u))) else f0 1 j, fun _ _ _ x4 => 100 - x4.toNatClampNeg, ⟨rfl, rfl, 0, by omega, rfl, fun a x => up2_row _ _ _ _ _ x, fun j => ?_⟩, ?_⟩
  · rw [up2_ap, if_pos rfl, f41]
    by_cases h9 : j = 9
    · rw [if_pos h9, if_neg (by omega), if_pos h9]
    · by_cases h90 : j = 90 + u
      · rw [if_pos h90, if_neg h9, if_pos h90]
      · rw [if_neg h90, if_neg h9, if_neg h9, if_neg h90, if_neg (by omega)]
  · rintro f x1 x2 x4 ⟨rfl, rfl, k, hk, rfl, hf, hI⟩
    simp only [wpb_X9_text_L70, pI_iff]
    rw [nI_leI (by omega) (by omega)]
    refine ⟨fun h3 => ?_, fun h3 => ?_⟩
    · have : k = m := by omega
      subst this
      unfold Post_X9_text
      rw [R]
      obtain ⟨-, em2, em3, em4, em5, em6, em7, em8, em9, em10⟩ := em
      refine ⟨rfl, ?_, ?_, ?_, ?_, ?_, ?_, ?_, ?_, ?_, ?_⟩
      · funext j; rw [hI]; rfl
      · rw [hf 2 (by decide), em2, up2_row _ _ _ _ _ (by decide)]; rfl
      · rw [hf 3 (by decide), em3, up2_row _ _ _ _ _ (by decide)]; rfl
      · rw [hf 6 (by decide), em4, up2_row _ _ _ _ _ (by decide)]; rfl
      · rw [hf 7 (by decide), em5, up2_row _ _ _ _ _ (by decide)]; rfl
      · rw [hf 8 (by decide), em6, up2_row _ _ _ _ _ (by decide)]; rfl
      · rw [hf 9 (by decide), em7, up2_row _ _ _ _ _ (by decide)]; rfl
      · rw [hf 0 (by decide), em8, up2_row _ _ _ _ _ (by decide)]; rfl
      · rw [hf 0 (by decide), em9, up2_row _ _ _ _ _ (by decide)]; rfl
      · rw [hf 0 (by decide), em10, up2_row _ _ _ _ _ (by decide)]; rfl
    · have e212 : (212 : Int32) + nI k = nI (212 + k) := nI_add 212 k
      have e112 : (112 : Int32) + 50 * nI u + nI k = nI (112 + 50 * u + k) := by
        rw [← nI_add, ← nI_add, ← nImul]; rfl
      rw [e212, e112, nI_clamp (by omega), nI_clamp (by omega)]
      have eB : f 1 (212 + k) = f0 1 (212 + k) := by rw [hI, if_neg (by omega), if_neg (by omega), if_neg (by omega)]
      rw [eB]
      refine ⟨vp_in_nI (by omega) (by omega), vp_in_nI (by omega) (by omega), ⟨trivial, trivial, k + 1, by omega, by rw [nI_1], fun a x => by rw [up2_row _ _ _ _ _ x]; exact hf a x, fun j => ?_⟩, ?_⟩
      · rw [up2_ap, if_pos rfl, hI]
        by_cases hj : j = 112 + 50 * u + k
        · rw [if_pos hj, if_neg (by omega), if_neg (by omega), if_pos (by omega), hj, show 112 + 50 * u + k - (112 + 50 * u) = k by omega]
        · rw [if_neg hj]
          by_cases h9 : j = 9
          · rw [if_pos h9, if_pos h9]
          · rw [if_neg h9, if_neg h9]
            by_cases h90 : j = 90 + u
            · rw [if_pos h90, if_pos h90]
            · rw [if_neg h90, if_neg h90]
              by_cases h112 : 112 + 50 * u ≤ j ∧ j < 112 + 50 * u + k
              · rw [if_pos h112, if_pos (by omega)]
              · rw [if_neg h112, if_neg (by omega)]
      · rw [nI_1, nI_clamp (by omega), nI_clamp (by omega)]; omega
set_option maxHeartbeats 400000 in
theorem vc_X9_textGives : vcS_X9_textGives := by
  intro f a1 a2 a3 a4 hp
  obtain ⟨h2, ht⟩ := hp
  rw [vp2] at h2
  have h01 : a1 = 0 ∨ a1 = 1 := by grind
  simp only [wp_X9_textGives, wp_X9_textGives_L22, wp_X9_textGives_L81, pI_iff]
  rcases h01 with e | e <;> subst e
  · refine ⟨fun h => absurd rfl h, fun _ => ?_⟩
    have e90 : ((90 : Int32) + 0).toNatClampNeg = 90 + 0 := by decide
    rw [e90]
    refine ⟨by unfold vp_in; decide, fun h => ?_, fun h => ⟨by unfold vp_in; decide, ?_, fun r7 f8 p => ?_⟩⟩
    · refine ⟨fun h => absurd rfl h, fun _ => ?_⟩
      refine ⟨?_, fun _ _ _ => rfl, fun _ _ _ _ _ _ => rfl⟩
      show heldI _ _ _ = lawD (f 1) 0 a2 a3 a4
      unfold lawD
      rw [if_neg (Int32.not_lt.mpr h)]
      rfl
    · obtain e | ⟨n, n1, n2, n3, n4, n5⟩ := ht
      · exact absurd (show f 1 (90 + 0) ≤ 0 by rw [show f 1 (90 + 0) = 0 from e]; decide) h
      · exact ⟨112 + 50 * 0, n, by decide, n3, by omega, n2⟩
    · obtain e | ⟨n, n1, n2, n3, n4, n5⟩ := ht
      · exact absurd (show f 1 (90 + 0) ≤ 0 by rw [show f 1 (90 + 0) = 0 from e]; decide) h
      · have n3' : f 1 (90 + 0) = nI n := n3
        obtain ⟨q1, q2, q3, q4⟩ := p (112 + 50 * 0) n (by decide) n3' (by omega) n2
        have g1 : up2 (up2 (up2 f 4 0 a2) 4 1 a3) 4 2 a4 1 = f 1 := by rw [up2_row _ _ _ _ _ (by decide), up2_row _ _ _ _ _ (by decide), up2_row _ _ _ _ _ (by decide)]
        rw [g1] at q4
        have q4' := q4
        rw [if_pos ⟨n4, n5⟩] at q4'
        have ev := q4'.2 []
        have k0 : up2 (up2 (up2 f 4 0 a2) 4 1 a3) 4 2 a4 4 0 = a2 := by simp [up2_ap]
        have k1 : up2 (up2 (up2 f 4 0 a2) 4 1 a3) 4 2 a4 4 1 = a3 := by simp [up2_ap]
        have k2 : up2 (up2 (up2 f 4 0 a2) 4 1 a3) 4 2 a4 4 2 = a4 := by simp [up2_ap]
        unfold evS at ev
        rw [k0, k1, k2] at ev
        refine ⟨fun h => absurd rfl h, fun _ => ?_⟩
        refine ⟨?_, fun a p q => ?_, fun j p1 p2 p3 p4 p5 => ?_⟩
        · show heldI r7 _ _ = lawD (f 1) 0 a2 a3 a4
          unfold lawD
          rw [if_pos (by grind)]
          have en : (f 1 (90 + 0)).toNatClampNeg = n := by rw [n3']; exact nI_clamp (by omega)
          have ev2 : rpn a2 a3 a4 (pT (txb (f 1) 0) n).2.2 = [r7] := ev
          rw [en, ev2]
          rfl
        · rw [q1 a p, up2_row _ _ _ _ _ q, up2_row _ _ _ _ _ q, up2_row _ _ _ _ _ q]
        · rw [q2 j p1 p2 p3 p4 p5, up2_row _ _ _ _ _ (by decide), up2_row _ _ _ _ _ (by decide), up2_row _ _ _ _ _ (by decide)]
  · refine ⟨fun _ => ?_, fun h => absurd h (by decide)⟩
    have e90 : ((90 : Int32) + 1).toNatClampNeg = 90 + 1 := by decide
    rw [e90]
    refine ⟨by unfold vp_in; decide, fun h => ?_, fun h => ⟨by unfold vp_in; decide, ?_, fun r7 f8 p => ?_⟩⟩
    · refine ⟨fun _ => ?_, fun h => absurd h (by decide)⟩
      refine ⟨?_, fun _ _ _ => rfl, fun _ _ _ _ _ _ => rfl⟩
      show heldI _ _ _ = lawD (f 1) 1 a2 a3 a4
      unfold lawD
      rw [if_neg (Int32.not_lt.mpr h)]
      rfl
    · obtain e | ⟨n, n1, n2, n3, n4, n5⟩ := ht
      · exact absurd (show f 1 (90 + 1) ≤ 0 by rw [show f 1 (90 + 1) = 0 from e]; decide) h
      · exact ⟨112 + 50 * 1, n, by decide, n3, by omega, n2⟩
    · obtain e | ⟨n, n1, n2, n3, n4, n5⟩ := ht
      · exact absurd (show f 1 (90 + 1) ≤ 0 by rw [show f 1 (90 + 1) = 0 from e]; decide) h
      · have n3' : f 1 (90 + 1) = nI n := n3
        obtain ⟨q1, q2, q3, q4⟩ := p (112 + 50 * 1) n (by decide) n3' (by omega) n2
        have g1 : up2 (up2 (up2 f 4 0 a2) 4 1 a3) 4 2 a4 1 = f 1 := by rw [up2_row _ _ _ _ _ (by decide), up2_row _ _ _ _ _ (by decide), up2_row _ _ _ _ _ (by decide)]
        rw [g1] at q4
        have q4' := q4
        rw [if_pos ⟨n4, n5⟩] at q4'
        have ev := q4'.2 []
        have k0 : up2 (up2 (up2 f 4 0 a2) 4 1 a3) 4 2 a4 4 0 = a2 := by simp [up2_ap]
        have k1 : up2 (up2 (up2 f 4 0 a2) 4 1 a3) 4 2 a4 4 1 = a3 := by simp [up2_ap]
        have k2 : up2 (up2 (up2 f 4 0 a2) 4 1 a3) 4 2 a4 4 2 = a4 := by simp [up2_ap]
        unfold evS at ev
        rw [k0, k1, k2] at ev
        refine ⟨fun _ => ?_, fun h => absurd h (by decide)⟩
        refine ⟨?_, fun a p q => ?_, fun j p1 p2 p3 p4 p5 => ?_⟩
        · show heldI r7 _ _ = lawD (f 1) 1 a2 a3 a4
          unfold lawD
          rw [if_pos (by grind)]
          have en : (f 1 (90 + 1)).toNatClampNeg = n := by rw [n3']; exact nI_clamp (by omega)
          have ev2 : rpn a2 a3 a4 (pT (txb (f 1) 1) n).2.2 = [r7] := ev
          rw [en, ev2]
          rfl
        · rw [q1 a p, up2_row _ _ _ _ _ q, up2_row _ _ _ _ _ q, up2_row _ _ _ _ _ q]
        · rw [q2 j p1 p2 p3 p4 p5, up2_row _ _ _ _ _ (by decide), up2_row _ _ _ _ _ (by decide), up2_row _ _ _ _ _ (by decide)]
set_option maxHeartbeats 200000 in
theorem vc_X9_law : vcS_X9_law := by
  unfold vcS_X9_law
  simp only [wp_X9_law, pI_iff, pV_iff, pL_iff, Post_X9_law, Pre_X9_law, tn0, tn1, tn2, tn3, tn4, tn5, tn6, tn7, tn8, tn9, tn10, tn12, tn18, tn40, tn50, tn60, tn90, tn92, tn112, tn212, tnn1, ni0, ni1, ni2, ni3, ni4, ni5, ni6, ni7, lg_cmp_lt, lg_cmp_le, lg_cmp_gt, lg_cmp_ge, lg_cmp_eq, in_m99_299, in_0_1, in_0_19999, in_0_2, in_0_200, in_0_3, in_0_30, in_0_4, in_0_6, in_0_60, in_0_69, in_0_9, in_0_99, in_1_200, in_1_3, in_1_40, in_1_5, in_1_60, in_1_8, in_4_40, in_0e, RE_law, Post_X9_textGives]
  intros
  (repeat' (first | with_reducible apply And.intro | with_reducible intro _)) <;> (try subst_vars) <;> first | grind [txb, pT, lawHi, lawLo, rpn, rpS, joinI, remI, isPartI, Post_X9_textGives, Pre_X9_textGives, Val_X9_in, up2_ap, vp1, vp2, vp3, vp4, vp5, vp6, vp20, vp40, vp50, vp60, vp264, tnc, tncA, tncS, tncM, up2_row, dF2, sw0, sw1, InvT, → toldE, → fin1, → fin2, → fin3, → fin4, → fin5, pf1, pf2, pf3, pf4, pf5, VMtE, → isFv, → isFw, → fi1, → fi2, → fi3, → fi4, → fi5, → frGM, → frG1, → frG10, → frTM, bI01, oI_lt, → InvF, → InvF0, → eqM_t, eqM_rfl, ← eqMu, → swO, ← tx2]
set_option maxHeartbeats 200000 in
theorem vc_X9_isSwing : vcS_X9_isSwing := by
  unfold vcS_X9_isSwing
  simp only [wp_X9_isSwing, pI_iff, pV_iff, pL_iff, Val_X9_isSwing, tn0, tn1, tn2, tn3, tn4, tn5, tn6, tn7, tn8, tn9, tn10, tn12, tn18, tn40, tn50, tn60, tn90, tn92, tn112, tn212, tnn1, ni0, ni1, ni2, ni3, ni4, ni5, ni6, ni7, er1, er2, er3, er4, er5, lg_cmp_lt, lg_cmp_le, lg_cmp_gt, lg_cmp_ge, lg_cmp_eq, in_m99_299, in_0_1, in_0_19999, in_0_2, in_0_200, in_0_3, in_0_30, in_0_4, in_0_6, in_0_60, in_0_69, in_0_9, in_0_99, in_1_200, in_1_3, in_1_40, in_1_5, in_1_60, in_1_8, in_4_40, in_0e]
  intros
  (repeat' (first | with_reducible apply And.intro | with_reducible intro _)) <;> (try first | apply pR_some | apply pR_none) <;> first | grind [Val_X9_isSwing, Val_X9_in, up2_ap, cpr_ap, vp1, vp2, vp3, vp4, vp5, vp6, vp20, vp40, vp50, vp60, vp160, vp264, tnc, nIX, nIc, tncA, tncS, tncM, l56, eqM_rfl, up2_row, InvF, InvF0, dF1, dF2, sw0, sw1, InvT]
theorem swD {d : Nat → Int32} {s : Nat} (t : Int32) (h : swOK d s) : swV (sw3 d s) t = (let m := fmodI (t + d (12 + 3 * s + 2)) (d (12 + 3 * s)); 2 * d (12 + 3 * s + 1) * absI (2 * m - d (12 + 3 * s)) / d (12 + 3 * s) - d (12 + 3 * s + 1)) := by
  have := (swF h).1.1
  unfold swV
  rw [if_neg (show ¬ sw3 d s 0 < 4 by show ¬ d (12 + 3 * s) < 4; rw [Int32.not_lt]; exact this)]
  rfl
theorem barU {f : Fn} {s : Nat} {a1 a2 : Int32} (h : swOK (f 1) s) (e : a1 = nI s) (hs : s < 2) : wp_X9_barOf f a1 a2 (pI fun r9 f9 => r9 = swV (sw3 (f 1) s) a2 ∧ f9 = f) := by
  have w := swF h
  have e0 : ((12 : Int32) + 3 * a1).toNatClampNeg = 12 + 3 * s := by rw [e]; match s, hs with | 0, _ => decide | 1, _ => decide
  have e1 : ((12 : Int32) + 3 * a1 + 1).toNatClampNeg = 12 + 3 * s + 1 := by rw [e]; match s, hs with | 0, _ => decide | 1, _ => decide
  have e2 : ((12 : Int32) + 3 * a1 + 2).toNatClampNeg = 12 + 3 * s + 2 := by rw [e]; match s, hs with | 0, _ => decide | 1, _ => decide
  have v0 : vp_in ((12 : Int32) + 3 * a1) 264 ∧ vp_in ((12 : Int32) + 3 * a1 + 1) 264 ∧ vp_in ((12 : Int32) + 3 * a1 + 2) 264 := by
    rw [e]; unfold vp_in; match s, hs with | 0, _ => decide | 1, _ => decide
  simp only [wp_X9_barOf, wp_X9_barOf_L58, wp_X9_barOf_L86, pI_iff, e0, e1, e2, swD a2 h]
  have pp : 0 < f 1 (12 + 3 * s) := by grind
  have fm := (fmodP (x := a2 + f 1 (12 + 3 * s + 2)) pp).1
  unfold remI at fm
  have nz : ¬ f 1 (12 + 3 * s) = 0 := by grind
  refine ⟨v0.1, v0.2.1, v0.2.2, nz, fun h1 => ?_, fun h1 => ?_⟩
  · rw [if_pos h1] at fm
    rw [fm]
    have z : ∀ x : Int32, x + 0 = x := fun x => by grind
    rw [z]
    refine ⟨fun h2 => ⟨nz, ?_, trivial⟩, fun h2 => ⟨nz, ?_, trivial⟩⟩
    · unfold absI; rw [if_pos h2]
    · unfold absI; rw [if_neg h2]
  · rw [if_neg h1] at fm
    rw [fm]
    refine ⟨fun h2 => ⟨nz, ?_, trivial⟩, fun h2 => ⟨nz, ?_, trivial⟩⟩
    · unfold absI; rw [if_pos h2]
    · unfold absI; rw [if_neg h2]
theorem vc_X9_barOf : vcS_X9_barOf := by
  intro f a1 a2 hp
  obtain ⟨h2, h3, h4⟩ := hp
  rw [vp2] at h2
  have h01 : a1 = 0 ∨ a1 = 1 := by grind
  rcases h01 with e | e
  · subst e; exact barU h3 rfl (by decide)
  · subst e; exact barU h4 rfl (by decide)
set_option maxHeartbeats 200000 in
theorem vc_X9_catcherAt : vcS_X9_catcherAt := by
  unfold vcS_X9_catcherAt
  simp only [wp_X9_catcherAt, pI_iff, pV_iff, pL_iff, Val_X9_catcherAt, Pre_X9_catcherAt, tn0, tn1, tn2, tn3, tn4, tn5, tn6, tn7, tn8, tn9, tn10, tn12, tn18, tn40, tn50, tn60, tn90, tn92, tn112, tn212, tnn1, ni0, ni1, ni2, ni3, ni4, ni5, ni6, ni7, er1, er2, er3, er4, er5, lg_cmp_lt, lg_cmp_le, lg_cmp_gt, lg_cmp_ge, lg_cmp_eq, in_m99_299, in_0_1, in_0_19999, in_0_2, in_0_200, in_0_3, in_0_30, in_0_4, in_0_6, in_0_60, in_0_69, in_0_9, in_0_99, in_1_200, in_1_3, in_1_40, in_1_5, in_1_60, in_1_8, in_4_40, in_0e]
  intros
  (repeat' (first | with_reducible apply And.intro | with_reducible intro _)) <;> (try first | apply pR_some | apply pR_none) <;> first | grind [Val_X9_catcherAt, sw3, tri, fmodI, remI, absI, Val_X9_barOf, Pre_X9_barOf, up2_ap, cpr_ap, vp1, vp2, vp3, vp4, vp5, vp6, vp20, vp40, vp50, vp60, vp160, vp264, tnc, nIX, nIc, tncA, tncS, tncM, l56, eqM_rfl, up2_row, InvF, InvF0, dF1, dF2, sw0, sw1, InvT]
set_option maxHeartbeats 600000 in
theorem vc_X9_swing : vcS_X9_swing := by
  intro f a1 a2 a3 hp
  unfold Pre_X9_swing at hp
  have s0 := sw0 (dF1 hp.1).1
  have s1 := sw1 (dF1 hp.1).2.1
  have bad : ¬ (inP a1 0 1 ∧ inP a2 0 2) → Pre_X9_finds f 1 ∧ ∀ (r3 : Int32) (f4 : Fn), Post_X9_finds f 1 r3 f4 → Post_X9_swing f a1 a2 a3 r3 f4 := fun h => by
    have R : RE_swing f a1 a2 a3 = er f 1 := by unfold RE_swing; rw [if_neg (fun q => h q.1)]
    exact ⟨pf1 f, fun r f1 p => by unfold Post_X9_swing; rw [R]; exact fi1 p⟩
  simp only [wp_X9_swing, wp_X9_swing_L19, pI_iff]
  by_cases hs : inP a1 0 1
  · by_cases hw : inP a2 0 2
    · have es : a1 = 0 ∨ a1 = 1 := by have := hs.1; have := hs.2; grind
      have ew : a2 = 0 ∨ a2 = 1 ∨ a2 = 2 := by have := hw.1; have := hw.2; grind
      clear bad hs hw
      rcases es with es | es <;> rcases ew with ew | ew | ew
      · subst es ew
        have C : ((inP (0 : Int32) 0 1 ∧ inP (0 : Int32) 0 2) ∧ (((0 : Int32) = 0 ∧ inP a3 4 40) ∨ ((0 : Int32) = 1 ∧ inP a3 1 60) ∨ ((0 : Int32) = 2 ∧ inP a3 0 (f 1 (12 + 3 * ix 0) - 1)))) ↔ inP a3 4 40 := by
          constructor
          · rintro ⟨-, h⟩; rcases h with ⟨h, h2⟩ | ⟨h, h2⟩ | ⟨h, h2⟩ <;> first | exact h2 | exact absurd h (by decide)
          · intro h; exact ⟨⟨by decide, by decide⟩, Or.inl ⟨rfl, h⟩⟩
        have e0 : ((12 : Int32) + 3 * 0).toNatClampNeg = 12 := by decide
        have e1 : ((12 : Int32) + 3 * 0 + 0).toNatClampNeg = 12 + 0 := by decide
        have e2 : ((12 : Int32) + 3 * 0 + 2).toNatClampNeg = 12 + 2 := by decide
        have w0 : vp_in ((12 : Int32) + 3 * 0) 264 := by unfold vp_in; decide
        have w1 : vp_in ((12 : Int32) + 3 * 0 + 0) 264 := by unfold vp_in; decide
        have w2 : vp_in ((12 : Int32) + 3 * 0 + 2) 264 := by unfold vp_in; decide
        have G : ∀ s0 : Int32, s0 = (if inP a3 4 40 then 1 else 0) → wp_X9_swing_L84 f 0 a3 (12 + 3 * 0) s0 (pI (Post_X9_swing f 0 0 a3)) := by
          intro s0 hs0
          simp only [wp_X9_swing_L84, pI_iff, e0, e1, e2]
          unfold Post_X9_swing
          by_cases c : inP a3 4 40
          · rw [if_pos c] at hs0
            have R : RE_swing f 0 0 a3 = (f 1 (12 + 0), up2 (up2 f 1 (12 + 0) a3) 1 (12 + 2) (remI (up2 f 1 (12 + 0) a3 1 (12 + 2)) (up2 f 1 (12 + 0) a3 1 12))) := by
              unfold RE_swing; rw [if_pos (C.mpr c)]; rfl
            rw [R]
            refine ⟨fun _ => ⟨w1, w1, w2, w0, ?_, w2, rfl, eqM_rfl _⟩, fun h => by rw [hs0] at h; cases h⟩
            rw [up2_ap]; rw [if_pos rfl, if_pos rfl]; have := c.1; grind
          · rw [if_neg c] at hs0
            have R : RE_swing f 0 0 a3 = er f 1 := by unfold RE_swing; rw [if_neg (fun q => c (C.mp q))]
            rw [R]
            exact ⟨fun h => absurd hs0 h, fun _ => ⟨pf1 f, fun r f1 p => fi1 p⟩⟩
        have sN : ¬ Val_X9_isSwing f 0 = 0 := by unfold Val_X9_isSwing; decide
        have wN : ¬ Val_X9_in f (0 : Int32).toInt64 0 2 = 0 := by rw [in_0_2]; decide
        refine ⟨fun h => absurd h sN, fun _ => ⟨fun _ => ⟨fun h => absurd rfl h, fun _ => G _ (by rw [in_4_40])⟩, fun h => absurd h wN⟩⟩
      · subst es ew
        have C : ((inP (0 : Int32) 0 1 ∧ inP (1 : Int32) 0 2) ∧ (((1 : Int32) = 0 ∧ inP a3 4 40) ∨ ((1 : Int32) = 1 ∧ inP a3 1 60) ∨ ((1 : Int32) = 2 ∧ inP a3 0 (f 1 (12 + 3 * ix 0) - 1)))) ↔ inP a3 1 60 := by
          constructor
          · rintro ⟨-, h⟩; rcases h with ⟨h, h2⟩ | ⟨h, h2⟩ | ⟨h, h2⟩ <;> first | exact h2 | exact absurd h (by decide)
          · intro h; exact ⟨⟨by decide, by decide⟩, Or.inr (Or.inl ⟨rfl, h⟩)⟩
        have e0 : ((12 : Int32) + 3 * 0).toNatClampNeg = 12 := by decide
        have e1 : ((12 : Int32) + 3 * 0 + 1).toNatClampNeg = 12 + 1 := by decide
        have e2 : ((12 : Int32) + 3 * 0 + 2).toNatClampNeg = 12 + 2 := by decide
        have w0 : vp_in ((12 : Int32) + 3 * 0) 264 := by unfold vp_in; decide
        have w1 : vp_in ((12 : Int32) + 3 * 0 + 1) 264 := by unfold vp_in; decide
        have w2 : vp_in ((12 : Int32) + 3 * 0 + 2) 264 := by unfold vp_in; decide
        have G : ∀ s0 : Int32, s0 = (if inP a3 1 60 then 1 else 0) → wp_X9_swing_L84 f 1 a3 (12 + 3 * 0) s0 (pI (Post_X9_swing f 0 1 a3)) := by
          intro s0 hs0
          simp only [wp_X9_swing_L84, pI_iff, e0, e1, e2]
          unfold Post_X9_swing
          by_cases c : inP a3 1 60
          · rw [if_pos c] at hs0
            have R : RE_swing f 0 1 a3 = (f 1 (12 + 1), up2 (up2 f 1 (12 + 1) a3) 1 (12 + 2) (remI (up2 f 1 (12 + 1) a3 1 (12 + 2)) (up2 f 1 (12 + 1) a3 1 12))) := by
              unfold RE_swing; rw [if_pos (C.mpr c)]; rfl
            rw [R]
            refine ⟨fun _ => ⟨w1, w1, w2, w0, ?_, w2, rfl, eqM_rfl _⟩, fun h => by rw [hs0] at h; cases h⟩
            rw [up2_ap]; rw [if_pos rfl, if_neg (by decide)]; grind
          · rw [if_neg c] at hs0
            have R : RE_swing f 0 1 a3 = er f 1 := by unfold RE_swing; rw [if_neg (fun q => c (C.mp q))]
            rw [R]
            exact ⟨fun h => absurd hs0 h, fun _ => ⟨pf1 f, fun r f1 p => fi1 p⟩⟩
        have sN : ¬ Val_X9_isSwing f 0 = 0 := by unfold Val_X9_isSwing; decide
        have wN : ¬ Val_X9_in f (1 : Int32).toInt64 0 2 = 0 := by rw [in_0_2]; decide
        refine ⟨fun h => absurd h sN, fun _ => ⟨fun _ => ⟨fun _ => ⟨fun h => absurd rfl h, fun _ => G _ (by rw [in_1_60])⟩, fun h => absurd h (by decide)⟩, fun h => absurd h wN⟩⟩
      · subst es ew
        have C : ((inP (0 : Int32) 0 1 ∧ inP (2 : Int32) 0 2) ∧ (((2 : Int32) = 0 ∧ inP a3 4 40) ∨ ((2 : Int32) = 1 ∧ inP a3 1 60) ∨ ((2 : Int32) = 2 ∧ inP a3 0 (f 1 (12 + 3 * ix 0) - 1)))) ↔ inP a3 0 (f 1 12 - 1) := by
          constructor
          · rintro ⟨-, h⟩; rcases h with ⟨h, h2⟩ | ⟨h, h2⟩ | ⟨h, h2⟩ <;> first | exact h2 | exact absurd h (by decide)
          · intro h; exact ⟨⟨by decide, by decide⟩, Or.inr (Or.inr ⟨rfl, h⟩)⟩
        have e0 : ((12 : Int32) + 3 * 0).toNatClampNeg = 12 := by decide
        have e1 : ((12 : Int32) + 3 * 0 + 2).toNatClampNeg = 12 + 2 := by decide
        have e2 : ((12 : Int32) + 3 * 0 + 2).toNatClampNeg = 12 + 2 := by decide
        have w0 : vp_in ((12 : Int32) + 3 * 0) 264 := by unfold vp_in; decide
        have w1 : vp_in ((12 : Int32) + 3 * 0 + 2) 264 := by unfold vp_in; decide
        have w2 : vp_in ((12 : Int32) + 3 * 0 + 2) 264 := by unfold vp_in; decide
        have G : ∀ s0 : Int32, s0 = (if inP a3 0 (f 1 12 - 1) then 1 else 0) → wp_X9_swing_L84 f 2 a3 (12 + 3 * 0) s0 (pI (Post_X9_swing f 0 2 a3)) := by
          intro s0 hs0
          simp only [wp_X9_swing_L84, pI_iff, e0, e1, e2]
          unfold Post_X9_swing
          by_cases c : inP a3 0 (f 1 12 - 1)
          · rw [if_pos c] at hs0
            have R : RE_swing f 0 2 a3 = (f 1 (12 + 2), up2 (up2 f 1 (12 + 2) a3) 1 (12 + 2) (remI (up2 f 1 (12 + 2) a3 1 (12 + 2)) (up2 f 1 (12 + 2) a3 1 12))) := by
              unfold RE_swing; rw [if_pos (C.mpr c)]; rfl
            rw [R]
            refine ⟨fun _ => ⟨w1, w1, w2, w0, ?_, w2, rfl, eqM_rfl _⟩, fun h => by rw [hs0] at h; cases h⟩
            rw [up2_ap]; rw [if_pos rfl, if_neg (by decide)]; grind
          · rw [if_neg c] at hs0
            have R : RE_swing f 0 2 a3 = er f 1 := by unfold RE_swing; rw [if_neg (fun q => c (C.mp q))]
            rw [R]
            exact ⟨fun h => absurd hs0 h, fun _ => ⟨pf1 f, fun r f1 p => fi1 p⟩⟩
        have sN : ¬ Val_X9_isSwing f 0 = 0 := by unfold Val_X9_isSwing; decide
        have wN : ¬ Val_X9_in f (2 : Int32).toInt64 0 2 = 0 := by rw [in_0_2]; decide
        refine ⟨fun h => absurd h sN, fun _ => ⟨fun _ => ⟨fun _ => ⟨fun _ => ⟨w0, G _ (by rw [in_0e, e0])⟩, fun h => absurd h (by decide)⟩, fun h => absurd h (by decide)⟩, fun h => absurd h wN⟩⟩
      · subst es ew
        have C : ((inP (1 : Int32) 0 1 ∧ inP (0 : Int32) 0 2) ∧ (((0 : Int32) = 0 ∧ inP a3 4 40) ∨ ((0 : Int32) = 1 ∧ inP a3 1 60) ∨ ((0 : Int32) = 2 ∧ inP a3 0 (f 1 (12 + 3 * ix 1) - 1)))) ↔ inP a3 4 40 := by
          constructor
          · rintro ⟨-, h⟩; rcases h with ⟨h, h2⟩ | ⟨h, h2⟩ | ⟨h, h2⟩ <;> first | exact h2 | exact absurd h (by decide)
          · intro h; exact ⟨⟨by decide, by decide⟩, Or.inl ⟨rfl, h⟩⟩
        have e0 : ((12 : Int32) + 3 * 1).toNatClampNeg = 15 := by decide
        have e1 : ((12 : Int32) + 3 * 1 + 0).toNatClampNeg = 15 + 0 := by decide
        have e2 : ((12 : Int32) + 3 * 1 + 2).toNatClampNeg = 15 + 2 := by decide
        have w0 : vp_in ((12 : Int32) + 3 * 1) 264 := by unfold vp_in; decide
        have w1 : vp_in ((12 : Int32) + 3 * 1 + 0) 264 := by unfold vp_in; decide
        have w2 : vp_in ((12 : Int32) + 3 * 1 + 2) 264 := by unfold vp_in; decide
        have G : ∀ s0 : Int32, s0 = (if inP a3 4 40 then 1 else 0) → wp_X9_swing_L84 f 0 a3 (12 + 3 * 1) s0 (pI (Post_X9_swing f 1 0 a3)) := by
          intro s0 hs0
          simp only [wp_X9_swing_L84, pI_iff, e0, e1, e2]
          unfold Post_X9_swing
          by_cases c : inP a3 4 40
          · rw [if_pos c] at hs0
            have R : RE_swing f 1 0 a3 = (f 1 (15 + 0), up2 (up2 f 1 (15 + 0) a3) 1 (15 + 2) (remI (up2 f 1 (15 + 0) a3 1 (15 + 2)) (up2 f 1 (15 + 0) a3 1 15))) := by
              unfold RE_swing; rw [if_pos (C.mpr c)]; rfl
            rw [R]
            refine ⟨fun _ => ⟨w1, w1, w2, w0, ?_, w2, rfl, eqM_rfl _⟩, fun h => by rw [hs0] at h; cases h⟩
            rw [up2_ap]; rw [if_pos rfl, if_pos rfl]; have := c.1; grind
          · rw [if_neg c] at hs0
            have R : RE_swing f 1 0 a3 = er f 1 := by unfold RE_swing; rw [if_neg (fun q => c (C.mp q))]
            rw [R]
            exact ⟨fun h => absurd hs0 h, fun _ => ⟨pf1 f, fun r f1 p => fi1 p⟩⟩
        have sN : ¬ Val_X9_isSwing f 1 = 0 := by unfold Val_X9_isSwing; decide
        have wN : ¬ Val_X9_in f (0 : Int32).toInt64 0 2 = 0 := by rw [in_0_2]; decide
        refine ⟨fun h => absurd h sN, fun _ => ⟨fun _ => ⟨fun h => absurd rfl h, fun _ => G _ (by rw [in_4_40])⟩, fun h => absurd h wN⟩⟩
      · subst es ew
        have C : ((inP (1 : Int32) 0 1 ∧ inP (1 : Int32) 0 2) ∧ (((1 : Int32) = 0 ∧ inP a3 4 40) ∨ ((1 : Int32) = 1 ∧ inP a3 1 60) ∨ ((1 : Int32) = 2 ∧ inP a3 0 (f 1 (12 + 3 * ix 1) - 1)))) ↔ inP a3 1 60 := by
          constructor
          · rintro ⟨-, h⟩; rcases h with ⟨h, h2⟩ | ⟨h, h2⟩ | ⟨h, h2⟩ <;> first | exact h2 | exact absurd h (by decide)
          · intro h; exact ⟨⟨by decide, by decide⟩, Or.inr (Or.inl ⟨rfl, h⟩)⟩
        have e0 : ((12 : Int32) + 3 * 1).toNatClampNeg = 15 := by decide
        have e1 : ((12 : Int32) + 3 * 1 + 1).toNatClampNeg = 15 + 1 := by decide
        have e2 : ((12 : Int32) + 3 * 1 + 2).toNatClampNeg = 15 + 2 := by decide
        have w0 : vp_in ((12 : Int32) + 3 * 1) 264 := by unfold vp_in; decide
        have w1 : vp_in ((12 : Int32) + 3 * 1 + 1) 264 := by unfold vp_in; decide
        have w2 : vp_in ((12 : Int32) + 3 * 1 + 2) 264 := by unfold vp_in; decide
        have G : ∀ s0 : Int32, s0 = (if inP a3 1 60 then 1 else 0) → wp_X9_swing_L84 f 1 a3 (12 + 3 * 1) s0 (pI (Post_X9_swing f 1 1 a3)) := by
          intro s0 hs0
          simp only [wp_X9_swing_L84, pI_iff, e0, e1, e2]
          unfold Post_X9_swing
          by_cases c : inP a3 1 60
          · rw [if_pos c] at hs0
            have R : RE_swing f 1 1 a3 = (f 1 (15 + 1), up2 (up2 f 1 (15 + 1) a3) 1 (15 + 2) (remI (up2 f 1 (15 + 1) a3 1 (15 + 2)) (up2 f 1 (15 + 1) a3 1 15))) := by
              unfold RE_swing; rw [if_pos (C.mpr c)]; rfl
            rw [R]
            refine ⟨fun _ => ⟨w1, w1, w2, w0, ?_, w2, rfl, eqM_rfl _⟩, fun h => by rw [hs0] at h; cases h⟩
            rw [up2_ap]; rw [if_pos rfl, if_neg (by decide)]; grind
          · rw [if_neg c] at hs0
            have R : RE_swing f 1 1 a3 = er f 1 := by unfold RE_swing; rw [if_neg (fun q => c (C.mp q))]
            rw [R]
            exact ⟨fun h => absurd hs0 h, fun _ => ⟨pf1 f, fun r f1 p => fi1 p⟩⟩
        have sN : ¬ Val_X9_isSwing f 1 = 0 := by unfold Val_X9_isSwing; decide
        have wN : ¬ Val_X9_in f (1 : Int32).toInt64 0 2 = 0 := by rw [in_0_2]; decide
        refine ⟨fun h => absurd h sN, fun _ => ⟨fun _ => ⟨fun _ => ⟨fun h => absurd rfl h, fun _ => G _ (by rw [in_1_60])⟩, fun h => absurd h (by decide)⟩, fun h => absurd h wN⟩⟩
      · subst es ew
        have C : ((inP (1 : Int32) 0 1 ∧ inP (2 : Int32) 0 2) ∧ (((2 : Int32) = 0 ∧ inP a3 4 40) ∨ ((2 : Int32) = 1 ∧ inP a3 1 60) ∨ ((2 : Int32) = 2 ∧ inP a3 0 (f 1 (12 + 3 * ix 1) - 1)))) ↔ inP a3 0 (f 1 15 - 1) := by
          constructor
          · rintro ⟨-, h⟩; rcases h with ⟨h, h2⟩ | ⟨h, h2⟩ | ⟨h, h2⟩ <;> first | exact h2 | exact absurd h (by decide)
          · intro h; exact ⟨⟨by decide, by decide⟩, Or.inr (Or.inr ⟨rfl, h⟩)⟩
        have e0 : ((12 : Int32) + 3 * 1).toNatClampNeg = 15 := by decide
        have e1 : ((12 : Int32) + 3 * 1 + 2).toNatClampNeg = 15 + 2 := by decide
        have e2 : ((12 : Int32) + 3 * 1 + 2).toNatClampNeg = 15 + 2 := by decide
        have w0 : vp_in ((12 : Int32) + 3 * 1) 264 := by unfold vp_in; decide
        have w1 : vp_in ((12 : Int32) + 3 * 1 + 2) 264 := by unfold vp_in; decide
        have w2 : vp_in ((12 : Int32) + 3 * 1 + 2) 264 := by unfold vp_in; decide
        have G : ∀ s0 : Int32, s0 = (if inP a3 0 (f 1 15 - 1) then 1 else 0) → wp_X9_swing_L84 f 2 a3 (12 + 3 * 1) s0 (pI (Post_X9_swing f 1 2 a3)) := by
          intro s0 hs0
          simp only [wp_X9_swing_L84, pI_iff, e0, e1, e2]
          unfold Post_X9_swing
          by_cases c : inP a3 0 (f 1 15 - 1)
          · rw [if_pos c] at hs0
            have R : RE_swing f 1 2 a3 = (f 1 (15 + 2), up2 (up2 f 1 (15 + 2) a3) 1 (15 + 2) (remI (up2 f 1 (15 + 2) a3 1 (15 + 2)) (up2 f 1 (15 + 2) a3 1 15))) := by
              unfold RE_swing; rw [if_pos (C.mpr c)]; rfl
            rw [R]
            refine ⟨fun _ => ⟨w1, w1, w2, w0, ?_, w2, rfl, eqM_rfl _⟩, fun h => by rw [hs0] at h; cases h⟩
            rw [up2_ap]; rw [if_pos rfl, if_neg (by decide)]; grind
          · rw [if_neg c] at hs0
            have R : RE_swing f 1 2 a3 = er f 1 := by unfold RE_swing; rw [if_neg (fun q => c (C.mp q))]
            rw [R]
            exact ⟨fun h => absurd hs0 h, fun _ => ⟨pf1 f, fun r f1 p => fi1 p⟩⟩
        have sN : ¬ Val_X9_isSwing f 1 = 0 := by unfold Val_X9_isSwing; decide
        have wN : ¬ Val_X9_in f (2 : Int32).toInt64 0 2 = 0 := by rw [in_0_2]; decide
        refine ⟨fun h => absurd h sN, fun _ => ⟨fun _ => ⟨fun _ => ⟨fun _ => ⟨w0, G _ (by rw [in_0e, e0])⟩, fun h => absurd h (by decide)⟩, fun h => absurd h (by decide)⟩, fun h => absurd h wN⟩⟩
    · have wN : Val_X9_in f a2.toInt64 0 2 = 0 := by rw [in_0_2, if_neg hw]
      exact ⟨fun _ => bad fun q => hw q.2, fun _ => ⟨fun h => absurd wN h, fun _ => bad fun q => hw q.2⟩⟩
  · have sN : Val_X9_isSwing f a1 = 0 := by unfold Val_X9_isSwing; rw [if_neg hs]
    exact ⟨fun _ => bad fun q => hs q.1, fun h => absurd sN h⟩
set_option maxHeartbeats 200000 in
theorem vc_X9_bar : vcS_X9_bar := by
  unfold vcS_X9_bar
  simp only [wp_X9_bar_L28, wp_X9_bar, pI_iff, pV_iff, pL_iff, Post_X9_bar, Pre_X9_bar, tn0, tn1, tn2, tn3, tn4, tn5, tn6, tn7, tn8, tn9, tn10, tn12, tn18, tn40, tn50, tn60, tn90, tn92, tn112, tn212, tnn1, ni0, ni1, ni2, ni3, ni4, ni5, ni6, ni7, er1, er2, er3, er4, er5, lg_cmp_lt, lg_cmp_le, lg_cmp_gt, lg_cmp_ge, lg_cmp_eq, in_m99_299, in_0_1, in_0_19999, in_0_2, in_0_200, in_0_3, in_0_30, in_0_4, in_0_6, in_0_60, in_0_69, in_0_9, in_0_99, in_1_200, in_1_3, in_1_40, in_1_5, in_1_60, in_1_8, in_4_40, in_0e, RE_bar]
  intros
  (repeat' (first | with_reducible apply And.intro | with_reducible intro _)) <;> (try first | apply pR_some | apply pR_none) <;> first | grind [txb, pT, sw3, tri, fmodI, remI, absI, eqM, Val_X9_barOf, Pre_X9_barOf, Val_X9_in, Post_X9_finds, Pre_X9_finds, Val_X9_isSwing, up2_ap, cpr_ap, vp1, vp2, vp3, vp4, vp5, vp6, vp20, vp40, vp50, vp60, vp160, vp264, tnc, nIX, nIc, tncA, tncS, tncM, l56, eqM_rfl, up2_row, InvF, InvF0, dF1, dF2, sw0, sw1, InvT]
set_option maxHeartbeats 200000 in
theorem vc_X9_set : vcS_X9_set := by
  unfold vcS_X9_set
  simp only [wp_X9_set_L57, wp_X9_set_L56, wp_X9_set, pI_iff, pV_iff, pL_iff, Post_X9_set, Pre_X9_set, tn0, tn1, tn2, tn3, tn4, tn5, tn6, tn7, tn8, tn9, tn10, tn12, tn18, tn40, tn50, tn60, tn90, tn92, tn112, tn212, tnn1, ni0, ni1, ni2, ni3, ni4, ni5, ni6, ni7, er1, er2, er3, er4, er5, lg_cmp_lt, lg_cmp_le, lg_cmp_gt, lg_cmp_ge, lg_cmp_eq, in_m99_299, in_0_1, in_0_19999, in_0_2, in_0_200, in_0_3, in_0_30, in_0_4, in_0_6, in_0_60, in_0_69, in_0_9, in_0_99, in_1_200, in_1_3, in_1_40, in_1_5, in_1_60, in_1_8, in_4_40, in_0e, RE_set]
  intros
  (repeat' (first | with_reducible apply And.intro | with_reducible intro _)) <;> (try first | apply pR_some | apply pR_none) <;> first | grind [txb, pT, eqM, Val_X9_in, Post_X9_finds, Pre_X9_finds, up2_ap, cpr_ap, vp1, vp2, vp3, vp4, vp5, vp6, vp20, vp40, vp50, vp60, vp160, vp264, tnc, nIX, nIc, tncA, tncS, tncM, l56, eqM_rfl, up2_row, InvF, InvF0, dF1, dF2, sw0, sw1, InvT]
set_option maxHeartbeats 200000 in
theorem vc_X9_lagOf : vcS_X9_lagOf := by
  unfold vcS_X9_lagOf
  simp only [wp_X9_lagOf_L70, wp_X9_lagOf, pI_iff, pV_iff, pL_iff, Val_X9_lagOf, Pre_X9_lagOf, tn0, tn1, tn2, tn3, tn4, tn5, tn6, tn7, tn8, tn9, tn10, tn12, tn18, tn40, tn50, tn60, tn90, tn92, tn112, tn212, tnn1, ni0, ni1, ni2, ni3, ni4, ni5, ni6, ni7, er1, er2, er3, er4, er5, lg_cmp_lt, lg_cmp_le, lg_cmp_gt, lg_cmp_ge, lg_cmp_eq, in_m99_299, in_0_1, in_0_19999, in_0_2, in_0_200, in_0_3, in_0_30, in_0_4, in_0_6, in_0_60, in_0_69, in_0_9, in_0_99, in_1_200, in_1_3, in_1_40, in_1_5, in_1_60, in_1_8, in_4_40, in_0e]
  intros
  (repeat' (first | with_reducible apply And.intro | with_reducible intro _)) <;> (try first | apply pR_some | apply pR_none) <;> first | grind [Val_X9_lagOf, lagM, lagI, remI, Val_X9_of, fl4, Pre_X9_of, up2_ap, cpr_ap, vp1, vp2, vp3, vp4, vp5, vp6, vp20, vp40, vp50, vp60, vp160, vp264, tnc, nIX, nIc, tncA, tncS, tncM, l56, eqM_rfl, up2_row, InvF, InvF0, dF1, dF2, sw0, sw1, InvT]
set_option maxHeartbeats 200000 in
theorem vc_X9_holdsOf : vcS_X9_holdsOf := by
  unfold vcS_X9_holdsOf
  simp only [wp_X9_holdsOf_L79, wp_X9_holdsOf, pI_iff, pV_iff, pL_iff, Val_X9_holdsOf, Pre_X9_holdsOf, tn0, tn1, tn2, tn3, tn4, tn5, tn6, tn7, tn8, tn9, tn10, tn12, tn18, tn40, tn50, tn60, tn90, tn92, tn112, tn212, tnn1, ni0, ni1, ni2, ni3, ni4, ni5, ni6, ni7, er1, er2, er3, er4, er5, lg_cmp_lt, lg_cmp_le, lg_cmp_gt, lg_cmp_ge, lg_cmp_eq, in_m99_299, in_0_1, in_0_19999, in_0_2, in_0_200, in_0_3, in_0_30, in_0_4, in_0_6, in_0_60, in_0_69, in_0_9, in_0_99, in_1_200, in_1_3, in_1_40, in_1_5, in_1_60, in_1_8, in_4_40, in_0e]
  intros
  (repeat' (first | with_reducible apply And.intro | with_reducible intro _)) <;> (try first | apply pR_some | apply pR_none) <;> first | grind [Val_X9_holdsOf, fl4, holdsI, maxI, Val_X9_of, Pre_X9_of, up2_ap, cpr_ap, vp1, vp2, vp3, vp4, vp5, vp6, vp20, vp40, vp50, vp60, vp160, vp264, tnc, nIX, nIc, tncA, tncS, tncM, l56, eqM_rfl, up2_row, InvF, InvF0, dF1, dF2, sw0, sw1, InvT]
set_option maxHeartbeats 200000 in
theorem vc_X9_harmOf : vcS_X9_harmOf := by
  unfold vcS_X9_harmOf
  simp only [wp_X9_harmOf, pI_iff, pV_iff, pL_iff, Val_X9_harmOf, Pre_X9_harmOf, tn0, tn1, tn2, tn3, tn4, tn5, tn6, tn7, tn8, tn9, tn10, tn12, tn18, tn40, tn50, tn60, tn90, tn92, tn112, tn212, tnn1, ni0, ni1, ni2, ni3, ni4, ni5, ni6, ni7, er1, er2, er3, er4, er5, lg_cmp_lt, lg_cmp_le, lg_cmp_gt, lg_cmp_ge, lg_cmp_eq, in_m99_299, in_0_1, in_0_19999, in_0_2, in_0_200, in_0_3, in_0_30, in_0_4, in_0_6, in_0_60, in_0_69, in_0_9, in_0_99, in_1_200, in_1_3, in_1_40, in_1_5, in_1_60, in_1_8, in_4_40, in_0e]
  intros
  (repeat' (first | with_reducible apply And.intro | with_reducible intro _)) <;> (try first | apply pR_some | apply pR_none) <;> first | grind [Val_X9_harmOf, hmM, fl4, harmI, Val_X9_of, Pre_X9_of, up2_ap, cpr_ap, vp1, vp2, vp3, vp4, vp5, vp6, vp20, vp40, vp50, vp60, vp160, vp264, tnc, nIX, nIc, tncA, tncS, tncM, l56, eqM_rfl, up2_row, InvF, InvF0, dF1, dF2, sw0, sw1, InvT]
set_option maxHeartbeats 200000 in
theorem vc_X9_flyer : vcS_X9_flyer := by
  unfold vcS_X9_flyer
  simp only [wp_X9_flyer, pI_iff, pV_iff, pL_iff, Post_X9_flyer, Pre_X9_flyer, tn0, tn1, tn2, tn3, tn4, tn5, tn6, tn7, tn8, tn9, tn10, tn12, tn18, tn40, tn50, tn60, tn90, tn92, tn112, tn212, tnn1, ni0, ni1, ni2, ni3, ni4, ni5, ni6, ni7, er1, er2, er3, er4, er5, lg_cmp_lt, lg_cmp_le, lg_cmp_gt, lg_cmp_ge, lg_cmp_eq, in_m99_299, in_0_1, in_0_19999, in_0_2, in_0_200, in_0_3, in_0_30, in_0_4, in_0_6, in_0_60, in_0_69, in_0_9, in_0_99, in_1_200, in_1_3, in_1_40, in_1_5, in_1_60, in_1_8, in_4_40, in_0e, RE_flyer]
  intros
  (repeat' (first | with_reducible apply And.intro | with_reducible intro _)) <;> (try first | apply pR_some | apply pR_none) <;> first | grind [txb, pT, fl4, remI, eqM, Post_X9_finds, Pre_X9_finds, Val_X9_in, Post_X9_sets, Pre_X9_sets, up2_ap, cpr_ap, vp1, vp2, vp3, vp4, vp5, vp6, vp20, vp40, vp50, vp60, vp160, vp264, tnc, nIX, nIc, tncA, tncS, tncM, l56, eqM_rfl, up2_row, InvF, InvF0, dF1, dF2, sw0, sw1, InvT]
set_option maxHeartbeats 200000 in
theorem vc_X9_ofFlyer : vcS_X9_ofFlyer := by
  unfold vcS_X9_ofFlyer
  simp only [wp_X9_ofFlyer_L20, wp_X9_ofFlyer, pI_iff, pV_iff, pL_iff, Post_X9_ofFlyer, Pre_X9_ofFlyer, tn0, tn1, tn2, tn3, tn4, tn5, tn6, tn7, tn8, tn9, tn10, tn12, tn18, tn40, tn50, tn60, tn90, tn92, tn112, tn212, tnn1, ni0, ni1, ni2, ni3, ni4, ni5, ni6, ni7, er1, er2, er3, er4, er5, lg_cmp_lt, lg_cmp_le, lg_cmp_gt, lg_cmp_ge, lg_cmp_eq, in_m99_299, in_0_1, in_0_19999, in_0_2, in_0_200, in_0_3, in_0_30, in_0_4, in_0_6, in_0_60, in_0_69, in_0_9, in_0_99, in_1_200, in_1_3, in_1_40, in_1_5, in_1_60, in_1_8, in_4_40, in_0e, RE_ofFlyer]
  intros
  (repeat' (first | with_reducible apply And.intro | with_reducible intro _)) <;> (try first | apply pR_some | apply pR_none) <;> first | grind [txb, pT, fl4, harmI, holdsI, maxI, lagM, lagI, remI, eqM, Post_X9_finds, Pre_X9_finds, Val_X9_in, Val_X9_of, Pre_X9_of, Val_X9_harmOf, hmM, Pre_X9_harmOf, Val_X9_holdsOf, Pre_X9_holdsOf, Val_X9_lagOf, Pre_X9_lagOf, Val_X9_isFlyer, up2_ap, cpr_ap, vp1, vp2, vp3, vp4, vp5, vp6, vp20, vp40, vp50, vp60, vp160, vp264, tnc, nIX, nIc, tncA, tncS, tncM, l56, eqM_rfl, up2_row, InvF, InvF0, dF1, dF2, sw0, sw1, InvT]
set_option maxHeartbeats 200000 in
theorem vc_X9_become : vcS_X9_become := by
  unfold vcS_X9_become
  simp only [wp_X9_become_L20, wp_X9_become, pI_iff, pV_iff, pL_iff, Post_X9_become, Pre_X9_become, tn0, tn1, tn2, tn3, tn4, tn5, tn6, tn7, tn8, tn9, tn10, tn12, tn18, tn40, tn50, tn60, tn90, tn92, tn112, tn212, tnn1, ni0, ni1, ni2, ni3, ni4, ni5, ni6, ni7, er1, er2, er3, er4, er5, lg_cmp_lt, lg_cmp_le, lg_cmp_gt, lg_cmp_ge, lg_cmp_eq, in_m99_299, in_0_1, in_0_19999, in_0_2, in_0_200, in_0_3, in_0_30, in_0_4, in_0_6, in_0_60, in_0_69, in_0_9, in_0_99, in_1_200, in_1_3, in_1_40, in_1_5, in_1_60, in_1_8, in_4_40, in_0e, RE_become]
  intros
  (repeat' (first | with_reducible apply And.intro | with_reducible intro _)) <;> (try first | apply pR_some | apply pR_none) <;> first | grind [txb, pT, remI, fl4, eqM, Post_X9_finds, Pre_X9_finds, Val_X9_in, Val_X9_of, Post_X9_sets, Pre_X9_sets, Pre_X9_of, Val_X9_isFlyer, up2_ap, cpr_ap, vp1, vp2, vp3, vp4, vp5, vp6, vp20, vp40, vp50, vp60, vp160, vp264, tnc, nIX, nIc, tncA, tncS, tncM, l56, eqM_rfl, up2_row, InvF, InvF0, dF1, dF2, sw0, sw1, InvT]
set_option maxHeartbeats 200000 in
theorem vc_X9_above : vcS_X9_above := by
  unfold vcS_X9_above
  simp only [wp_X9_above, pI_iff, pV_iff, pL_iff, Val_X9_above, tn0, tn1, tn2, tn3, tn4, tn5, tn6, tn7, tn8, tn9, tn10, tn12, tn18, tn40, tn50, tn60, tn90, tn92, tn112, tn212, tnn1, ni0, ni1, ni2, ni3, ni4, ni5, ni6, ni7, er1, er2, er3, er4, er5, lg_cmp_lt, lg_cmp_le, lg_cmp_gt, lg_cmp_ge, lg_cmp_eq, in_m99_299, in_0_1, in_0_19999, in_0_2, in_0_200, in_0_3, in_0_30, in_0_4, in_0_6, in_0_60, in_0_69, in_0_9, in_0_99, in_1_200, in_1_3, in_1_40, in_1_5, in_1_60, in_1_8, in_4_40, in_0e]
  intros
  (repeat' (first | with_reducible apply And.intro | with_reducible intro _)) <;> (try first | apply pR_some | apply pR_none) <;> first | grind [Val_X9_above, abvI, up2_ap, cpr_ap, vp1, vp2, vp3, vp4, vp5, vp6, vp20, vp40, vp50, vp60, vp160, vp264, tnc, nIX, nIc, tncA, tncS, tncM, l56, eqM_rfl, up2_row, InvF, InvF0, dF1, dF2, sw0, sw1, InvT]
set_option maxHeartbeats 200000 in
theorem vc_X9_as : vcS_X9_as := by
  unfold vcS_X9_as
  simp only [wp_X9_as_L20, wp_X9_as_L50, wp_X9_as, pI_iff, pV_iff, pL_iff, Post_X9_as, Pre_X9_as, tn0, tn1, tn2, tn3, tn4, tn5, tn6, tn7, tn8, tn9, tn10, tn12, tn18, tn40, tn50, tn60, tn90, tn92, tn112, tn212, tnn1, ni0, ni1, ni2, ni3, ni4, ni5, ni6, ni7, er1, er2, er3, er4, er5, lg_cmp_lt, lg_cmp_le, lg_cmp_gt, lg_cmp_ge, lg_cmp_eq, in_m99_299, in_0_1, in_0_19999, in_0_2, in_0_200, in_0_3, in_0_30, in_0_4, in_0_6, in_0_60, in_0_69, in_0_9, in_0_99, in_1_200, in_1_3, in_1_40, in_1_5, in_1_60, in_1_8, in_4_40, in_0e, RE_as]
  intros
  (repeat' (first | with_reducible apply And.intro | with_reducible intro _)) <;> (try first | apply pR_some | apply pR_none) <;> first | grind [txb, pT, fl4, abvI, eqM, Post_X9_finds, Pre_X9_finds, Val_X9_in, Val_X9_of, Pre_X9_of, Val_X9_above, Val_X9_isFlyer, up2_ap, cpr_ap, vp1, vp2, vp3, vp4, vp5, vp6, vp20, vp40, vp50, vp60, vp160, vp264, tnc, nIX, nIc, tncA, tncS, tncM, l56, eqM_rfl, up2_row, InvF, InvF0, dF1, dF2, sw0, sw1, InvT]
set_option maxHeartbeats 200000 in
theorem vc_X9_turn : vcS_X9_turn := by
  unfold vcS_X9_turn
  simp only [wp_X9_turn_L20, wp_X9_turn, pI_iff, pV_iff, pL_iff, Post_X9_turn, Pre_X9_turn, tn0, tn1, tn2, tn3, tn4, tn5, tn6, tn7, tn8, tn9, tn10, tn12, tn18, tn40, tn50, tn60, tn90, tn92, tn112, tn212, tnn1, ni0, ni1, ni2, ni3, ni4, ni5, ni6, ni7, er1, er2, er3, er4, er5, lg_cmp_lt, lg_cmp_le, lg_cmp_gt, lg_cmp_ge, lg_cmp_eq, in_m99_299, in_0_1, in_0_19999, in_0_2, in_0_200, in_0_3, in_0_30, in_0_4, in_0_6, in_0_60, in_0_69, in_0_9, in_0_99, in_1_200, in_1_3, in_1_40, in_1_5, in_1_60, in_1_8, in_4_40, in_0e, RE_turn]
  intros
  (repeat' (first | with_reducible apply And.intro | with_reducible intro _)) <;> (try first | apply pR_some | apply pR_none) <;> first | grind [txb, pT, fl4, eqM, Post_X9_finds, Pre_X9_finds, Val_X9_in, Val_X9_of, Post_X9_sets, Pre_X9_sets, Pre_X9_of, Val_X9_isFlyer, up2_ap, cpr_ap, vp1, vp2, vp3, vp4, vp5, vp6, vp20, vp40, vp50, vp60, vp160, vp264, tnc, nIX, nIc, tncA, tncS, tncM, l56, eqM_rfl, up2_row, InvF, InvF0, dF1, dF2, sw0, sw1, InvT]
theorem vc_X9_letsGo : vcS_X9_letsGo := by
  intro f a1 a2 hp
  obtain ⟨hd, h6⟩ := hp
  have sw := swO hd
  have v0 : vp_in 0 2 := by unfold vp_in; decide
  have v1 : vp_in 1 2 := by unfold vp_in; decide
  have w1 : vp_in 1 4 := by unfold vp_in; decide
  have w2 : vp_in 2 4 := by unfold vp_in; decide
  have v := VMt_v f (ix a1)
  simp only [wp_X9_letsGo]
  refine ⟨⟨v0, sw⟩, ⟨v0, sw⟩, ⟨h6, w2⟩, ⟨h6, w1⟩, ⟨v0, tx2 hd v0⟩, fun r6 f7 p => ?_⟩
  obtain ⟨p1, p2⟩ := p
  have e1 : up2 f7 0 11 (a2 + r6) 1 = f 1 := by rw [up2_row _ _ _ _ _ (by decide)]; exact p2.1 1 (by decide) (by decide)
  refine ⟨⟨h6, w2⟩, ⟨h6, w1⟩, ⟨v1, by rw [e1]; exact tx2 hd v1⟩, fun r12 f13 q => ?_⟩
  obtain ⟨q1, q2⟩ := q
  rw [pV_iff]
  unfold Val_X9_of at q1 p1
  rw [e1] at q1
  have c1 : r6 = vL (VMt f (ix a1)) 0 (vY (VMt f (ix a1)) 2) (vV (VMt f (ix a1)) a2) (vY (VMt f (ix a1)) 1) := by
    unfold vV vP
    rw [v.2.2.2.1, v.2.2.1, v.1, p1]; rfl
  have c2 : r12 = vL (VMt f (ix a1)) 1 (vY (VMt f (ix a1)) 2) (vV (VMt f (ix a1)) a2) (vY (VMt f (ix a1)) 1) := by
    unfold vV vP
    rw [v.2.2.2.1, v.2.2.1, v.1, q1]; rfl
  have h7 := frTG p2
  have h13 := frTG q2
  refine ⟨frG_u (frG_t (frG_u h7 _ _ (by decide) (by decide)) h13) _ _ (by decide) (by decide), ?_, ?_, ?_, ?_⟩
  · rw [up2_off _ _ (by decide), q2.2 13 (by decide) (by decide) (by decide) (by decide) (by decide), up2_off _ _ (by decide), p2.2 13 (by decide) (by decide) (by decide) (by decide) (by decide)]
  · rw [up2_off _ _ (by decide), q2.2 14 (by decide) (by decide) (by decide) (by decide) (by decide), up2_off _ _ (by decide), p2.2 14 (by decide) (by decide) (by decide) (by decide) (by decide)]
  · rw [up2_off _ _ (by decide), q2.2 11 (by decide) (by decide) (by decide) (by decide) (by decide), up2_at, c1]; rfl
  · rw [up2_at, c2]
    unfold vPl vP
    rw [v.1]; rfl
set_option maxHeartbeats 200000 in
theorem vc_X9_size0 : vcS_X9_size0 := by
  unfold vcS_X9_size0
  simp only [wp_X9_size0, pI_iff, pV_iff, pL_iff, Val_X9_size0, tn0, tn1, tn2, tn3, tn4, tn5, tn6, tn7, tn8, tn9, tn10, tn12, tn18, tn40, tn50, tn60, tn90, tn92, tn112, tn212, tnn1, ni0, ni1, ni2, ni3, ni4, ni5, ni6, ni7, er1, er2, er3, er4, er5, lg_cmp_lt, lg_cmp_le, lg_cmp_gt, lg_cmp_ge, lg_cmp_eq, in_m99_299, in_0_1, in_0_19999, in_0_2, in_0_200, in_0_3, in_0_30, in_0_4, in_0_6, in_0_60, in_0_69, in_0_9, in_0_99, in_1_200, in_1_3, in_1_40, in_1_5, in_1_60, in_1_8, in_4_40, in_0e]
  intros
  (repeat' (first | with_reducible apply And.intro | with_reducible intro _)) <;> (try first | apply pR_some | apply pR_none) <;> first | grind [Val_X9_size0, absI, up2_ap, cpr_ap, vp1, vp2, vp3, vp4, vp5, vp6, vp20, vp40, vp50, vp60, vp160, vp264, tnc, nIX, nIc, tncA, tncS, tncM, l56, eqM_rfl, up2_row, InvF, InvF0, dF1, dF2, sw0, sw1, InvT]
set_option maxHeartbeats 200000 in
theorem vc_X9_offNow : vcS_X9_offNow := by
  unfold vcS_X9_offNow
  simp only [wp_X9_offNow, pI_iff, pV_iff, pL_iff, Val_X9_offNow, Pre_X9_offNow, tn0, tn1, tn2, tn3, tn4, tn5, tn6, tn7, tn8, tn9, tn10, tn12, tn18, tn40, tn50, tn60, tn90, tn92, tn112, tn212, tnn1, ni0, ni1, ni2, ni3, ni4, ni5, ni6, ni7, er1, er2, er3, er4, er5, lg_cmp_lt, lg_cmp_le, lg_cmp_gt, lg_cmp_ge, lg_cmp_eq, in_m99_299, in_0_1, in_0_19999, in_0_2, in_0_200, in_0_3, in_0_30, in_0_4, in_0_6, in_0_60, in_0_69, in_0_9, in_0_99, in_1_200, in_1_3, in_1_40, in_1_5, in_1_60, in_1_8, in_4_40, in_0e]
  intros
  (repeat' (first | with_reducible apply And.intro | with_reducible intro _)) <;> (try first | apply pR_some | apply pR_none) <;> first | grind [Val_X9_offNow, sw3, tri, fmodI, remI, absI, Val_X9_catcherAt, Pre_X9_catcherAt, up2_ap, cpr_ap, vp1, vp2, vp3, vp4, vp5, vp6, vp20, vp40, vp50, vp60, vp160, vp264, tnc, nIX, nIc, tncA, tncS, tncM, l56, eqM_rfl, up2_row, InvF, InvF0, dF1, dF2, sw0, sw1, InvT]
theorem vc_X9_isTold : vcS_X9_isTold := by
  intro f a1 a2 hp
  simp only [wp_X9_isTold]
  refine ⟨hp.2, hp, fun f3 p => ?_⟩
  rw [pV_iff]
  have e : a2 + Val_X9_lagOf f a1 = vT (VMt f (ix a1)) a2 := by
    unfold vT Val_X9_lagOf
    rw [(VMt_v f (ix a1)).2.2.2.2.2.2.2.2.1]
  unfold Post_X9_letsGo at p
  rw [e] at p
  exact p
theorem vc_X9_isCaught : vcS_X9_isCaught := by
  intro f a1 hp
  obtain ⟨hd, h6⟩ := hp
  simp only [wp_X9_isCaught, pI_iff]
  refine ⟨swO hd, h6, fun h => ⟨?_, trivial⟩, fun h => ⟨?_, trivial⟩⟩
  · unfold Val_X9_isCaught
    rw [decide_eq_false]
    · rfl
    · rw [Int32.not_le]; exact h
  · unfold Val_X9_isCaught
    rw [decide_eq_true]
    · rfl
    · rw [← Int32.not_lt]; exact h
set_option maxHeartbeats 200000 in
theorem vc_X9_fallHarm : vcS_X9_fallHarm := by
  unfold vcS_X9_fallHarm
  simp only [wp_X9_fallHarm, pI_iff, pV_iff, pL_iff, Val_X9_fallHarm, Pre_X9_fallHarm, tn0, tn1, tn2, tn3, tn4, tn5, tn6, tn7, tn8, tn9, tn10, tn12, tn18, tn40, tn50, tn60, tn90, tn92, tn112, tn212, tnn1, ni0, ni1, ni2, ni3, ni4, ni5, ni6, ni7, er1, er2, er3, er4, er5, lg_cmp_lt, lg_cmp_le, lg_cmp_gt, lg_cmp_ge, lg_cmp_eq, in_m99_299, in_0_1, in_0_19999, in_0_2, in_0_200, in_0_3, in_0_30, in_0_4, in_0_6, in_0_60, in_0_69, in_0_9, in_0_99, in_1_200, in_1_3, in_1_40, in_1_5, in_1_60, in_1_8, in_4_40, in_0e]
  intros
  (repeat' (first | with_reducible apply And.intro | with_reducible intro _)) <;> (try first | apply pR_some | apply pR_none) <;> first | grind [Val_X9_fallHarm, absI, hmM, fl4, harmI, Val_X9_size0, Val_X9_harmOf, Pre_X9_harmOf, up2_ap, cpr_ap, vp1, vp2, vp3, vp4, vp5, vp6, vp20, vp40, vp50, vp60, vp160, vp264, tnc, nIX, nIc, tncA, tncS, tncM, l56, eqM_rfl, up2_row, InvF, InvF0, dF1, dF2, sw0, sw1, InvT]
theorem vc_X9_goes : vcS_X9_goes := by
  intro f a1 a2 hp
  obtain ⟨hd, iF, h10⟩ := hp
  obtain ⟨v6, i6, -, -, q0, q1⟩ := fl3B hd iF
  have lt6 : a1.toNatClampNeg < 6 := i6
  simp only [wp_X9_goes, wp_X9_goes_L32, wp_X9_goes_L42, tn2, tn3]
  refine ⟨⟨hd, v6⟩, fun f2 p => ?_⟩
  obtain ⟨p1, pM, p3, -, p5, -, -, p8, -, -⟩ := toldE p
  rw [VMtE h10] at p5 p8
  have e7 : f2 1 7 = f 1 7 := by rw [p3]
  rw [p5, p8, e7]
  have v2 : vp_in (2 : Int32) 264 := by unfold vp_in; decide
  have v3 : vp_in (3 : Int32) 264 := by unfold vp_in; decide
  have v4 : vp_in (4 : Int32) 264 := by unfold vp_in; decide
  have w3 : vp_in (3 : Int32) 4 := by unfold vp_in; decide
  have pd : Pre_X9_isCaught f2 a1 := ⟨by rw [p3]; exact hd, v6⟩
  have h4 : 0 ≤ f 1 4 ∧ f 1 4 ≤ 99999 := (dF2 hd).2.2.2.2.2.2.2.2.2
  have hh : 0 ≤ hmM (f 1) (ix a1) (absI (vPl (VM (f 1) (ix a1)) (vT (VM (f 1) (ix a1)) a2) - f 1 7)) ∧ hmM (f 1) (ix a1) (absI (vPl (VM (f 1) (ix a1)) (vT (VM (f 1) (ix a1)) a2) - f 1 7)) ≤ 500 + 99 := by
    have b := plB hd (ix a1) (vT (VM (f 1) (ix a1)) a2)
    rw [VMtE h10] at b
    have n7 := (dF2 hd).2.2.2.2.1
    have ab := absB (x := vPl (VM (f 1) (ix a1)) (vT (VM (f 1) (ix a1)) a2) - f 1 7) (by grind) (by grind)
    exact harmB q0 q1 ab.1 ab.2 (by decide)
  generalize hmE : hmM (f 1) (ix a1) (absI (vPl (VM (f 1) (ix a1)) (vT (VM (f 1) (ix a1)) a2) - f 1 7)) = hm at hh
  have key : ∀ (x3 : Int32) (s : Nat) (st : Int32), st.toNatClampNeg = s → vp_in st 264 → s = 2 ∨ s = 3 → ∀ (add : Int32), wp_X9_goes_L89 (up2 f2 1 s (heldI (f2 1 s + 1) 0 9999)) a1 x3 add (up2 f2 1 s (heldI (f2 1 s + 1) 0 9999) 1 4) 4 (pI fun r f1 => r = x3 ∧ eqM (up2 (up2 (up2 f 1 s (heldI (f 1 s + 1) 0 9999)) 1 4 (heldI (f 1 4 + add) 0 99999)) 1 (fl4 (ix a1) + 3) (heldI (f 1 (fl4 (ix a1) + 3) + 1) 0 99)) f1) := by
    intro x3 s st e1 e2 e3 add
    simp only [wp_X9_goes_L89, pI_iff]
    refine ⟨v4, ⟨v6, w3⟩, ⟨v6, w3⟩, fun f14 q => ?_⟩
    unfold Post_X9_sets at q
    subst q
    refine ⟨trivial, ?_⟩
    have n4 : ¬ (4 : Nat) = s := by omega
    have nf : ¬ fl4 (ix a1) + 3 = 4 := by unfold fl4; omega
    have nf2 : ¬ fl4 (ix a1) + 3 = s := by unfold fl4; omega
    have c4 : up2 f2 1 s (heldI (f2 1 s + 1) 0 9999) 1 4 = f 1 4 := by rw [up2_off _ _ n4, p3]
    have cf : Val_X9_of (up2 (up2 f2 1 s (heldI (f2 1 s + 1) 0 9999)) 1 (4 : Int32).toNatClampNeg (Val_X9_held (up2 f2 1 s (heldI (f2 1 s + 1) 0 9999)) (up2 f2 1 s (heldI (f2 1 s + 1) 0 9999) 1 4 + add) 0 99999)) a1 3 = f 1 (fl4 (ix a1) + 3) := by
      unfold Val_X9_of
      show up2 (up2 _ _ _ _) 1 4 _ 1 (fl4 (ix a1) + 3) = _
      rw [up2_off _ _ nf, up2_off _ _ nf2, p3]
    rw [cf, c4]
    have es : f2 1 s = f 1 s := by rw [p3]
    rw [es]
    exact eqMu (eqMu (eqMu pM 1 s _) 1 4 _) 1 _ _
  refine ⟨pd, fun h1 => ⟨v6, ?_⟩, fun h1 => ?_⟩
  · have nc : ¬ vCt (VM (f 1) (ix a1)) a2 = true := by rw [bI_0 h1]; decide
    have n0 : ¬ 1 + hm = 0 := by grind
    have R : RE_goes f (ix a1) a2 = (1 + hm, up2 (up2 (up2 f 1 3 (heldI (f 1 3 + 1) 0 9999)) 1 4 (heldI (f 1 4 + hm) 0 99999)) 1 (fl4 (ix a1) + 3) (heldI (f 1 (fl4 (ix a1) + 3) + 1) 0 99)) := by
      unfold RE_goes; rw [if_neg nc, hmE]
    refine ⟨fun _ => ⟨v3, v3, fun _ => ?_, fun h => absurd h n0⟩, fun h => absurd h n0⟩
    have k := key (1 + hm) 3 3 tn3 v3 (Or.inr rfl) (1 + hm - 1)
    rw [show (1 : Int32) + hm - 1 = hm by grind] at k ⊢
    have P : Post_X9_goes f a1 a2 = fun r f1 => r = 1 + hm ∧ eqM (up2 (up2 (up2 f 1 3 (heldI (f 1 3 + 1) 0 9999)) 1 4 (heldI (f 1 4 + hm) 0 99999)) 1 (fl4 (ix a1) + 3) (heldI (f 1 (fl4 (ix a1) + 3) + 1) 0 99)) f1 := by
      funext r f1; unfold Post_X9_goes; rw [R]
    rw [P]
    exact k
  · have cc : vCt (VM (f 1) (ix a1)) a2 = true := bI_1 h1
    have R : RE_goes f (ix a1) a2 = (0, up2 (up2 f 1 2 (heldI (f 1 2 + 1) 0 9999)) 1 (fl4 (ix a1) + 3) (heldI (f 1 (fl4 (ix a1) + 3) + 1) 0 99)) := by
      unfold RE_goes; rw [if_pos cc]
    refine ⟨fun h => absurd trivial h, fun _ => ⟨v2, v2, fun h => absurd trivial h, fun _ => ?_⟩⟩
    have k := key 0 2 2 tn2 v2 (Or.inl rfl) 0
    have s4 : up2 (up2 f 1 2 (heldI (f 1 2 + 1) 0 9999)) 1 4 (heldI (f 1 4 + 0) 0 99999) = up2 f 1 2 (heldI (f 1 2 + 1) 0 9999) := by
      have e : heldI (f 1 4 + 0) 0 99999 = up2 f 1 2 (heldI (f 1 2 + 1) 0 9999) 1 4 := by
        rw [up2_off _ _ (by decide)]
        unfold heldI
        rw [if_neg (by grind), if_neg (by grind)]; grind
      rw [e, up2_self]
    rw [s4] at k
    have P : Post_X9_goes f a1 a2 = fun r f1 => r = 0 ∧ eqM (up2 (up2 f 1 2 (heldI (f 1 2 + 1) 0 9999)) 1 (fl4 (ix a1) + 3) (heldI (f 1 (fl4 (ix a1) + 3) + 1) 0 99)) f1 := by
      funext r f1; unfold Post_X9_goes; rw [R]
    rw [P]
    exact k
set_option maxHeartbeats 200000 in
theorem vc_X9_go : vcS_X9_go := by
  unfold vcS_X9_go
  simp only [wp_X9_go, pI_iff, pV_iff, pL_iff, Post_X9_go, Pre_X9_go, tn0, tn1, tn2, tn3, tn4, tn5, tn6, tn7, tn8, tn9, tn10, tn12, tn18, tn40, tn50, tn60, tn90, tn92, tn112, tn212, tnn1, ni0, ni1, ni2, ni3, ni4, ni5, ni6, ni7, er1, er2, er3, er4, er5, lg_cmp_lt, lg_cmp_le, lg_cmp_gt, lg_cmp_ge, lg_cmp_eq, in_m99_299, in_0_1, in_0_19999, in_0_2, in_0_200, in_0_3, in_0_30, in_0_4, in_0_6, in_0_60, in_0_69, in_0_9, in_0_99, in_1_200, in_1_3, in_1_40, in_1_5, in_1_60, in_1_8, in_4_40, in_0e, RE_go]
  intros
  (repeat' (first | with_reducible apply And.intro | with_reducible intro _)) <;> (try first | apply pR_some | apply pR_none) <;> first | grind [txb, pT, fl4, heldI, lawHi, lawLo, rpn, rpS, joinI, remI, isPartI, lagM, lagI, quin, flq, quad, tri, vW, vY, vV, vP, vN, fmodI, absI, vL, hmM, harmI, vOff, vF, holdsI, maxI, eqM, Post_X9_goes, Pre_X9_goes, Val_X9_isFlyer, Post_X9_finds, Pre_X9_finds, up2_ap, cpr_ap, vp1, vp2, vp3, vp4, vp5, vp6, vp20, vp40, vp50, vp60, vp160, vp264, tnc, nIX, nIc, tncA, tncS, tncM, l56, eqM_rfl, up2_row, InvF, InvF0, dF1, dF2, sw0, sw1, InvT]
set_option maxHeartbeats 200000 in
theorem vc_X9_ticks : vcS_X9_ticks := by
  unfold vcS_X9_ticks
  simp only [wp_X9_ticks, pI_iff, pV_iff, pL_iff, Post_X9_ticks, Pre_X9_ticks, tn0, tn1, tn2, tn3, tn4, tn5, tn6, tn7, tn8, tn9, tn10, tn12, tn18, tn40, tn50, tn60, tn90, tn92, tn112, tn212, tnn1, ni0, ni1, ni2, ni3, ni4, ni5, ni6, ni7, er1, er2, er3, er4, er5, lg_cmp_lt, lg_cmp_le, lg_cmp_gt, lg_cmp_ge, lg_cmp_eq, in_m99_299, in_0_1, in_0_19999, in_0_2, in_0_200, in_0_3, in_0_30, in_0_4, in_0_6, in_0_60, in_0_69, in_0_9, in_0_99, in_1_200, in_1_3, in_1_40, in_1_5, in_1_60, in_1_8, in_4_40, in_0e, RE_ticks]
  intros
  (repeat' (first | with_reducible apply And.intro | with_reducible intro _)) <;> (try first | apply pR_some | apply pR_none) <;> first | grind [txb, pT, eqM, Post_X9_finds, Pre_X9_finds, Val_X9_in, up2_ap, cpr_ap, vp1, vp2, vp3, vp4, vp5, vp6, vp20, vp40, vp50, vp60, vp160, vp264, tnc, nIX, nIc, tncA, tncS, tncM, l56, eqM_rfl, up2_row, InvF, InvF0, dF1, dF2, sw0, sw1, InvT]
set_option maxHeartbeats 200000 in
theorem vc_X9_drawn : vcS_X9_drawn := by
  unfold vcS_X9_drawn
  simp only [wp_X9_drawn, pI_iff, pV_iff, pL_iff, Post_X9_drawn, tn0, tn1, tn2, tn3, tn4, tn5, tn6, tn7, tn8, tn9, tn10, tn12, tn18, tn40, tn50, tn60, tn90, tn92, tn112, tn212, tnn1, ni0, ni1, ni2, ni3, ni4, ni5, ni6, ni7, er1, er2, er3, er4, er5, lg_cmp_lt, lg_cmp_le, lg_cmp_gt, lg_cmp_ge, lg_cmp_eq, in_m99_299, in_0_1, in_0_19999, in_0_2, in_0_200, in_0_3, in_0_30, in_0_4, in_0_6, in_0_60, in_0_69, in_0_9, in_0_99, in_1_200, in_1_3, in_1_40, in_1_5, in_1_60, in_1_8, in_4_40, in_0e]
  intros
  (repeat' (first | with_reducible apply And.intro | with_reducible intro _)) <;> (try first | apply pR_some | apply pR_none) <;> first | grind [zNx, zDr, up2_ap, cpr_ap, vp1, vp2, vp3, vp4, vp5, vp6, vp20, vp40, vp50, vp60, vp160, vp264, tnc, nIX, nIc, tncA, tncS, tncM, l56, eqM_rfl, up2_row, InvF, InvF0, dF1, dF2, sw0, sw1, InvT]
theorem vc_X9_evenings : vcS_X9_evenings := by
  intro f0 a1 hp
  unfold Pre_X9_evenings at hp
  obtain ⟨n, n1, n2, n3⟩ := n6 hp
  obtain ⟨t, t1, t2⟩ := t9 hp
  simp only [wp_X9_evenings, in_1_40, wp_X9_evenings_L43]
  refine ⟨fun h => ⟨fun h2 => ?_, fun h2 => ⟨pf3 _, fun r f p => ?_⟩⟩, fun h => ⟨pf1 _, fun r f p => ?_⟩⟩
  rotate_left
  · have c : inP a1 1 40 := Classical.byContradiction fun hn => h (if_neg hn)
    have R : RE_evenings f0 a1 = er f0 3 := by unfold RE_evenings; rw [if_pos c, if_pos (Int32.not_le.mp h2)]
    rw [pI_iff]; unfold Post_X9_evenings; rw [R]; exact fi3 p
  · have c : ¬ inP a1 1 40 := fun hn => by rw [if_pos hn] at h; cases h
    have R : RE_evenings f0 a1 = er f0 1 := by unfold RE_evenings; rw [if_neg c]
    rw [pI_iff]; unfold Post_X9_evenings; rw [R]; exact fi1 p
  have c : inP a1 1 40 := Classical.byContradiction fun hn => h (if_neg hn)
  obtain ⟨m, m1, rfl⟩ := nI_of2 (M := 40) (n := 40) (by decide) (by have := c.1; grind) c.2
  have tm : t + 12 * m ≤ 9999 := by
    have e : f0 1 1 + 12 * nI m = nI (t + 12 * m) := by
      rw [t2]; show nI t + nI 12 * nI m = _
      rw [nImul, nI_add]
    rw [e] at h2
    have : nI (t + 12 * m) ≤ nI 9999 := h2
    rw [nI_leI (by omega) (by decide)] at this
    exact this
  have R : RE_evenings f0 (nI m) = (eveK f0 m 1 2, eveK f0 m) := by
    unfold RE_evenings; rw [if_pos c, if_neg (Int32.not_lt.mpr h2), show ix (nI m) = m from nI_clamp (by omega)]
  refine ⟨fun (f : Fn) (x1 x2 : Int32) => x1 = nI m ∧ ∃ k : Nat, k ≤ m ∧ x2 = nI k ∧ eqM (eveK f0 k) f, fun _ _ x2 => 100 - x2.toNatClampNeg, ⟨rfl, 0, by omega, rfl, eqM_rfl _⟩, ?_⟩
  rintro f x1 x2 ⟨rfl, k, hk, rfl, he⟩
  obtain ⟨ki, k0, kt⟩ := eveKK hp t2 k (by omega)
  simp only [wpb_X9_evenings_L43, pI_iff]
  rw [nI_leI (by omega) (by omega)]
  refine ⟨fun h3 => ?_, fun h3 => ?_⟩
  · have : k = m := by omega
    subst this
    unfold Post_X9_evenings
    rw [R]
    exact ⟨by rw [he.1], he⟩
  · simp only [wp_X9_evenings_L50]
    refine ⟨fun (f : Fn) (x1 x2 x3 : Int32) => x1 = nI m ∧ x2 = nI k ∧ ∃ i : Nat, i ≤ n ∧ x3 = nI i ∧ eqM (eveN (eveK f0 k) i) f, fun _ _ _ x3 => 100 - x3.toNatClampNeg, ⟨rfl, rfl, 0, by omega, rfl, he⟩, ?_⟩
    rintro f5 x1 x2 x3 ⟨rfl, rfl, i, hi, rfl, hf⟩
    obtain ⟨ni, nn0, nn1⟩ := eveNK ki i (by omega)
    simp only [wpb_X9_evenings_L50]
    have g0 : f5 1 0 = nI n := by rw [hf.1, nn0, k0, n2]
    rw [g0, nI_leI (by omega) (by omega)]
    refine ⟨fun h4 => ?_, fun h4 r5 f6 p => ?_⟩
    · have : i = n := by omega
      subst this
      refine ⟨⟨trivial, k + 1, by omega, by rw [nI_1], ?_⟩, ?_⟩
      · show eqM (eve1 (eveK f0 k)) _
        unfold eve1
        have : ix (eveK f0 k 1 0) = i := by rw [k0]; exact n3
        rw [this, hf.1]
        exact eqMu hf _ _ _
      · rw [nI_1, nI_clamp (by omega), nI_clamp (by omega)]; omega
    · obtain ⟨p1, p2⟩ := p
      have hs := InvSeed ni (zNx (eveN (eveK f0 k) i 1 8))
      have h6 : eqM (up2 (eveN (eveK f0 k) i) 1 8 (zNx (eveN (eveK f0 k) i 1 8))) f6 := by
        rw [p2, hf.1]; exact eqMu hf _ _ _
      have i6 := InvE hs h6
      have f60 : f6 1 0 = nI n := by rw [h6.1, up2_off _ _ (by decide), nn0, k0, n2]
      refine ⟨⟨i6.1, ?_, i6.2.2.1⟩, fun r9 f10 q => ⟨⟨trivial, trivial, i + 1, by omega, by rw [nI_1], ?_⟩, ?_⟩⟩
      · rw [isF, f60]
        refine ⟨Int32.not_lt.mp (nI_pos (by omega)), ?_⟩
        have : nI n - 1 = nI (n - 1) := by
          have : nI (n - 1) + 1 = nI n := by rw [nI_1]; congr 1; omega
          rw [← this]; grind
        rw [this]
        exact nI_le (by omega) (by omega)
      · obtain ⟨q1, q2⟩ := q
        rw [show ix (nI i) = i from nI_clamp (by omega)] at q2
        have ge := (goesE h6 i (f6 1 1 + (r5 - r5 / 12 * 12))).2
        have fin := eqM_t ge q2
        have e11 : f6 1 1 + (r5 - r5 / 12 * 12) = eveN (eveK f0 k) i 1 1 + remI (zDr (zNx (eveN (eveK f0 k) i 1 8))) 12 := by
          rw [h6.1, up2_off _ _ (by decide), p1, hf.1]; rfl
        rw [e11] at fin
        exact fin
      · rw [nI_1, nI_clamp (by omega), nI_clamp (by omega)]; omega
theorem vc_X9_rest : vcS_X9_rest := by
  intro f0 hp
  unfold Pre_X9_rest at hp
  obtain ⟨n, n1, n2, n3⟩ := n6 hp
  simp only [wp_X9_rest, wp_X9_rest_L4]
  refine ⟨fun (f : Fn) (x1 x2 : Int32) => ∃ k : Nat, k ≤ n ∧ x2 = nI k ∧ x1 = (rstN f0 k).1 ∧ f = (rstN f0 k).2, fun _ _ x2 => 100 - x2.toNatClampNeg, ⟨0, by omega, rfl, rfl, rfl⟩, ?_⟩
  rintro f x1 x2 ⟨k, hk, rfl, rfl, rfl⟩
  obtain ⟨ki, k0⟩ := rstK hp k (by omega)
  simp only [wpb_X9_rest_L4, pI_iff]
  rw [k0, n2, nI_leI (by omega) (by omega)]
  have v6 : k < n → vp_in (nI k) 6 := fun h => vp_in_nI (by omega) (by omega)
  have w3 : vp_in (3 : Int32) 4 := by unfold vp_in; decide
  refine ⟨fun h => ?_, fun h => ⟨⟨v6 (by omega), w3⟩, ⟨v6 (by omega), w3⟩, fun f4 p => ⟨⟨k + 1, by omega, by rw [nI_1], ?_, ?_⟩, ?_⟩⟩⟩
  · have : k = n := by omega
    subst this
    unfold Post_X9_rest RE_rest
    rw [n3]; exact ⟨rfl, eqM_rfl _⟩
  · unfold Val_X9_of
    rw [show ix (nI k) = k from nI_clamp (by omega)]; rfl
  · unfold Post_X9_sets at p
    rw [p, show ix (nI k) = k from nI_clamp (by omega)]; rfl
  · rw [nI_1, nI_clamp (by omega), nI_clamp (by omega)]; omega
set_option maxHeartbeats 200000 in
theorem vc_X9_isSoon : vcS_X9_isSoon := by
  unfold vcS_X9_isSoon
  simp only [wp_X9_isSoon, pI_iff, pV_iff, pL_iff, Val_X9_isSoon, tn0, tn1, tn2, tn3, tn4, tn5, tn6, tn7, tn8, tn9, tn10, tn12, tn18, tn40, tn50, tn60, tn90, tn92, tn112, tn212, tnn1, ni0, ni1, ni2, ni3, ni4, ni5, ni6, ni7, er1, er2, er3, er4, er5, lg_cmp_lt, lg_cmp_le, lg_cmp_gt, lg_cmp_ge, lg_cmp_eq, in_m99_299, in_0_1, in_0_19999, in_0_2, in_0_200, in_0_3, in_0_30, in_0_4, in_0_6, in_0_60, in_0_69, in_0_9, in_0_99, in_1_200, in_1_3, in_1_40, in_1_5, in_1_60, in_1_8, in_4_40, in_0e]
  intros
  (repeat' (first | with_reducible apply And.intro | with_reducible intro _)) <;> (try first | apply pR_some | apply pR_none) <;> first | grind [Val_X9_isSoon, Val_X9_in, up2_ap, cpr_ap, vp1, vp2, vp3, vp4, vp5, vp6, vp20, vp40, vp50, vp60, vp160, vp264, tnc, nIX, nIc, tncA, tncS, tncM, l56, eqM_rfl, up2_row, InvF, InvF0, dF1, dF2, sw0, sw1, InvT]
set_option maxHeartbeats 200000 in
theorem vc_X9_isSpan : vcS_X9_isSpan := by
  unfold vcS_X9_isSpan
  simp only [wp_X9_isSpan, pI_iff, pV_iff, pL_iff, Val_X9_isSpan, tn0, tn1, tn2, tn3, tn4, tn5, tn6, tn7, tn8, tn9, tn10, tn12, tn18, tn40, tn50, tn60, tn90, tn92, tn112, tn212, tnn1, ni0, ni1, ni2, ni3, ni4, ni5, ni6, ni7, er1, er2, er3, er4, er5, lg_cmp_lt, lg_cmp_le, lg_cmp_gt, lg_cmp_ge, lg_cmp_eq, in_m99_299, in_0_1, in_0_19999, in_0_2, in_0_200, in_0_3, in_0_30, in_0_4, in_0_6, in_0_60, in_0_69, in_0_9, in_0_99, in_1_200, in_1_3, in_1_40, in_1_5, in_1_60, in_1_8, in_4_40, in_0e]
  intros
  (repeat' (first | with_reducible apply And.intro | with_reducible intro _)) <;> (try first | apply pR_some | apply pR_none) <;> first | grind [Val_X9_isSpan, Val_X9_in, up2_ap, cpr_ap, vp1, vp2, vp3, vp4, vp5, vp6, vp20, vp40, vp50, vp60, vp160, vp264, tnc, nIX, nIc, tncA, tncS, tncM, l56, eqM_rfl, up2_row, InvF, InvF0, dF1, dF2, sw0, sw1, InvT]
set_option maxHeartbeats 200000 in
theorem vc_X9_then : vcS_X9_then := by
  unfold vcS_X9_then
  simp only [wp_X9_then_L27, wp_X9_then, pI_iff, pV_iff, pL_iff, Post_X9_then, Pre_X9_then, tn0, tn1, tn2, tn3, tn4, tn5, tn6, tn7, tn8, tn9, tn10, tn12, tn18, tn40, tn50, tn60, tn90, tn92, tn112, tn212, tnn1, ni0, ni1, ni2, ni3, ni4, ni5, ni6, ni7, lg_cmp_lt, lg_cmp_le, lg_cmp_gt, lg_cmp_ge, lg_cmp_eq, in_m99_299, in_0_1, in_0_19999, in_0_2, in_0_200, in_0_3, in_0_30, in_0_4, in_0_6, in_0_60, in_0_69, in_0_9, in_0_99, in_1_200, in_1_3, in_1_40, in_1_5, in_1_60, in_1_8, in_4_40, in_0e, RE_then]
  intros
  (repeat' (first | with_reducible apply And.intro | with_reducible intro _)) <;> (try subst_vars) <;> first | grind [txb, pT, lawHi, lawLo, rpn, rpS, joinI, remI, isPartI, quin, flq, quad, tri, vW, vY, vV, vP, vN, fmodI, absI, vL, fl4, vF, maxI, Val_X9_in, Pre_X9_fallHarm, Pre_X9_isCaught, Pre_X9_offNow, Pre_X9_isTold, Val_X9_isSoon, up2_ap, vp1, vp2, vp3, vp4, vp5, vp6, vp20, vp40, vp50, vp60, vp264, tnc, tncA, tncS, tncM, up2_row, dF2, sw0, sw1, InvT, → toldE, → fin1, → fin2, → fin3, → fin4, → fin5, pf1, pf2, pf3, pf4, pf5, VMtE, → isFv, → isFw, → fi1, → fi2, → fi3, → fi4, → fi5, → frGM, → frG1, → frG10, → frTM, bI01, oI_lt, → InvF, → InvF0, → eqM_t, eqM_rfl, ← eqMu, → swO, ← tx2]
theorem vc_X9_findCan : vcS_X9_findCan := by
  intro f0 a1 a2 hp
  obtain ⟨hd, h6, h60, h0⟩ := hp
  obtain ⟨n, n1, rfl⟩ := nI_of (x := a2) h0
  have n60 : n ≤ 60 := by
    have : ¬ nI 60 < nI n := h60
    rw [nI_ltI (by decide) (by omega)] at this
    omega
  simp only [wp_X9_findCan, wp_X9_findCan_L14]
  have hn : ix (nI n) = n := nI_clamp (by omega)
  have e1 : nI n - 1 = nI (n + 1) - 2 := by rw [← nI_1]; grind
  refine ⟨fun (f : Fn) (x1 x3 : Int32) => x1 = a1 ∧ frG f0 f ∧ ∃ k : Nat, k ≤ n ∧ x3 = nI k - 1 ∧ cntI (canP (VMt f0 (ix a1))) n = f 0 13 + cntI (canP (VMt f0 (ix a1))) k ∧ oI (fst (canP (VMt f0 (ix a1))) n) = (if fst (canP (VMt f0 (ix a1))) k = none then f 0 14 else oI (fst (canP (VMt f0 (ix a1))) k)), fun _ _ x3 => (x3 + 1).toNatClampNeg, ⟨rfl, frG_u (frG_u (frG_0 f0) _ _ (by decide) (by decide)) _ _ (by decide) (by decide), n, Nat.le_refl _, rfl, ?_, ?_⟩, ?_⟩
  · rw [up2_off _ _ (by decide), up2_at]; grind
  · rw [up2_at]
    cases e : fst (canP (VMt f0 (ix a1))) n with
    | none => rfl
    | some j => rfl
  · rintro f x1 x3 ⟨rfl, hf, k, hk, rfl, hc, ho⟩
    simp only [wpb_X9_findCan_L14, wp_X9_findCan_L54]
    have m1 : ∀ j : Nat, nI (j + 1) - 1 = nI j := fun j => by rw [← nI_1]; grind
    refine ⟨fun h => ?_, fun h => ?_⟩
    · have k0 : k = 0 := by
        match k, h with
        | 0, _ => rfl
        | k + 1, h => rw [m1] at h; exact absurd h (nI_pos (by omega))
      subst k0
      rw [pV_iff]
      refine ⟨hf, ?_, ?_⟩
      · rw [hn, hc]; show _ = f 0 13 + (0 : Int32); grind
      · rw [hn, ho]; rfl
    · match k, hk, hc, ho, h with
      | 0, hk, hc, ho, h => exact absurd (by decide) h
      | k + 1, hk, hc, ho, h =>
        rw [m1]
        refine ⟨⟨by rw [frG1 hf]; exact hd, h6⟩, fun f3 p => ?_⟩
        obtain ⟨p1, -, p3, -, p5, -, -, -, p9, p10⟩ := toldE p
        have g3 := frG_t hf p1
        rw [VMtF hf] at p5
        have e15 : f 1 1 = vW (VMt f0 (ix x1)) 3 := by rw [frG1 hf, (VMt_v f0 (ix x1)).2.2.2.2.2.2.2.1]
        rw [e15] at p5
        have pc : Val_X9_isCaught f3 x1 = bI (canP (VMt f0 (ix x1)) k) := p5
        have mm : (nI k + -1 + 1).toNatClampNeg < (nI k + 1).toNatClampNeg := by
          have : nI k + -1 + 1 = nI k := by grind
          rw [this, nI_1, nI_clamp (by omega), nI_clamp (by omega)]; omega
        have mk : nI k + -1 = nI k - 1 := by grind
        refine ⟨⟨by rw [frG1 g3]; exact hd, h6⟩, fun h2 => ?_, fun h2 => ?_⟩
        · rw [pc] at h2
          have h3 := bI_0 h2
          refine ⟨⟨trivial, g3, k, by omega, mk, ?_, ?_⟩, mm⟩
          · rw [hc, cnt_s, h3, p9]; show _ + (_ + (0 : Int32)) = _; grind
          · rw [ho, p10]
            cases e : fst (canP (VMt f0 (ix x1))) k with
            | none => rw [fst_s _ _ e, h3]; rfl
            | some j => rw [fst_m (fst_m' e) (by have := fst_lt e; omega)] <;> rfl
        · rw [pc] at h2
          have h3 := bI_1 h2
          refine ⟨⟨trivial, frG_u (frG_u g3 _ _ (by decide) (by decide)) _ _ (by decide) (by decide), k, by omega, mk, ?_, ?_⟩, mm⟩
          · rw [hc, cnt_s, h3, up2_off _ _ (by decide), up2_at, p9]; show _ + (_ + (1 : Int32)) = _; grind
          · rw [ho, up2_at]
            cases e : fst (canP (VMt f0 (ix x1))) k with
            | none => rw [fst_s _ _ e, h3]; rfl
            | some j => rw [fst_m (fst_m' e) (by have := fst_lt e; omega)] <;> rfl
set_option maxHeartbeats 200000 in
theorem vc_X9_can : vcS_X9_can := by
  unfold vcS_X9_can
  simp only [wp_X9_can_L25, wp_X9_can, pI_iff, pV_iff, pL_iff, Post_X9_can, Pre_X9_can, tn0, tn1, tn2, tn3, tn4, tn5, tn6, tn7, tn8, tn9, tn10, tn12, tn18, tn40, tn50, tn60, tn90, tn92, tn112, tn212, tnn1, ni0, ni1, ni2, ni3, ni4, ni5, ni6, ni7, lg_cmp_lt, lg_cmp_le, lg_cmp_gt, lg_cmp_ge, lg_cmp_eq, in_m99_299, in_0_1, in_0_19999, in_0_2, in_0_200, in_0_3, in_0_30, in_0_4, in_0_6, in_0_60, in_0_69, in_0_9, in_0_99, in_1_200, in_1_3, in_1_40, in_1_5, in_1_60, in_1_8, in_4_40, in_0e, RE_can, Post_X9_findCan]
  intros
  (repeat' (first | with_reducible apply And.intro | with_reducible intro _)) <;> (try subst_vars) <;> first | grind [txb, pT, lawHi, lawLo, rpn, rpS, joinI, remI, isPartI, quin, flq, quad, tri, vW, vY, vV, vP, vN, fmodI, absI, vL, vF, maxI, Val_X9_in, Post_X9_findCan, Pre_X9_findCan, Val_X9_isSpan, up2_ap, vp1, vp2, vp3, vp4, vp5, vp6, vp20, vp40, vp50, vp60, vp264, tnc, tncA, tncS, tncM, up2_row, dF2, sw0, sw1, InvT, hasC, REo_p, REo_n, tncB, → toldE, → fin1, → fin2, → fin3, → fin4, → fin5, pf1, pf2, pf3, pf4, pf5, VMtE, → isFv, → isFw, → fi1, → fi2, → fi3, → fi4, → fi5, → frGM, → frG1, → frG10, → frTM, bI01, oI_lt, → InvF, → InvF0, → eqM_t, eqM_rfl, ← eqMu, → swO, ← tx2]
theorem vc_X9_casesAt : vcS_X9_casesAt := by
  intro f0 a1 a2 hp
  obtain ⟨hd, h6⟩ := hp
  have vv := VMt_v f0 (ix a1)
  have vE : ∃ V, V = VMt f0 (ix a1) := ⟨_, rfl⟩
  obtain ⟨V, hV⟩ := vE
  simp only [wp_X9_casesAt, wp_X9_casesAt_L5]
  have hh : ∃ h : Int32 → Int32 → Int32, h = fun t a => bI (vHeld V (vOff V (vT V a2 + t) a)) := ⟨_, rfl⟩
  obtain ⟨h, hh⟩ := hh
  have hR : ∃ R : Int32 → Int32 → Int32, R = fun t x => if x = -1 then 0 else if x = 0 then h t (-1) else if x = 1 then h t (-1) + h t 0 else h t (-1) + h t 0 + h t 1 := ⟨_, rfl⟩
  obtain ⟨R, hR⟩ := hR
  have hS : ∃ S : Int32 → Int32, S = fun x => if x = -1 then 0 else if x = 0 then R (-1) 2 else if x = 1 then R (-1) 2 + R 0 2 else R (-1) 2 + R 0 2 + R 1 2 := ⟨_, rfl⟩
  obtain ⟨S, hS⟩ := hS
  have rS : ∀ t x, (x = -1 ∨ x = 0 ∨ x = 1) → R t (x + 1) = R t x + h t x := by
    rintro t x (rfl | rfl | rfl)
    · rw [show (-1 : Int32) + 1 = 0 by decide]; subst hR; simp
    · rw [show (0 : Int32) + 1 = 1 by decide]; subst hR; simp
    · rw [show (1 : Int32) + 1 = 2 by decide]; subst hR; simp
  have sS : ∀ x, (x = -1 ∨ x = 0 ∨ x = 1) → S (x + 1) = S x + R x 2 := by
    rintro x (rfl | rfl | rfl)
    · rw [show (-1 : Int32) + 1 = 0 by decide]; subst hS; simp
    · rw [show (0 : Int32) + 1 = 1 by decide]; subst hS; simp
    · rw [show (1 : Int32) + 1 = 2 by decide]; subst hS; simp
  have r0 : ∀ t, R t (-1) = 0 := fun t => by subst hR; simp
  have s0 : S (-1) = 0 := by subst hS; simp
  have sE : S 2 = casI V a2 := by
    have : S 2 = R (-1) 2 + R 0 2 + R 1 2 := by subst hS; simp
    rw [this]
    have : ∀ t, R t 2 = h t (-1) + h t 0 + h t 1 := fun t => by subst hR; simp
    rw [this, this, this, hh]
    unfold casI
    have : vT V a2 + 0 = vT V a2 := by grind
    simp only [this]
    grind
  refine ⟨fun (f : Fn) (x1 x2 x3 x4 : Int32) => x1 = a1 ∧ x2 = a2 ∧ (x4 = -1 ∨ x4 = 0 ∨ x4 = 1 ∨ x4 = 2) ∧ x3 = S x4 ∧ frG f0 f, fun _ _ _ _ x4 => 4 - (x4 + 1).toNatClampNeg, ⟨rfl, rfl, Or.inl rfl, s0.symm, frG_0 _⟩, ?_⟩
  rintro f x1 x2 x3 x4 ⟨rfl, rfl, h3, rfl, h4⟩
  simp only [wpb_X9_casesAt_L5, wp_X9_casesAt_L29, pI_iff]
  refine ⟨fun q => ?_, fun q => ⟨h6, ⟨by rw [frG1 h4]; exact hd, h6⟩, fun f2 p => ?_⟩⟩
  · have : x4 = 2 := by grind
    subst this
    refine ⟨h4, ?_⟩
    rw [sE, hV]
  · have h3' : x4 = -1 ∨ x4 = 0 ∨ x4 = 1 := by grind
    obtain ⟨p1, -, -, p2, p3⟩ := p
    have g1 := frG_t h4 p1
    have et : x2 + Val_X9_lagOf f x1 + x4 = vT V x2 + x4 := by
      have : Val_X9_lagOf f x1 = vW V 4 := by
        unfold Val_X9_lagOf
        rw [hV, vv.2.2.2.2.2.2.2.2.1, frG1 h4, frG10 h4]
      rw [this]; rfl
    rw [VMtF h4, ← hV, et] at p2 p3
    refine ⟨fun (f : Fn) (y1 z y2 y3 y4 : Int32) => y1 = x1 ∧ z = x2 ∧ y3 = x4 ∧ (y4 = -1 ∨ y4 = 0 ∨ y4 = 1 ∨ y4 = 2) ∧ y2 = S x4 + R x4 y4 ∧ frG f0 f ∧ f 0 11 = vC V (vT V x2 + x4) ∧ f 0 12 = vPl V (vT V x2 + x4), fun _ _ _ _ _ x4 => 4 - (x4 + 1).toNatClampNeg, ⟨rfl, rfl, rfl, Or.inl rfl, by rw [r0]; grind, g1, p2, p3⟩, ?_⟩
    rintro f5 y1 z y2 y3 y4 ⟨rfl, rfl, rfl, h5, rfl, h6', h7, h8⟩
    simp only [wpb_X9_casesAt_L29, wp_X9_casesAt_L68]
    refine ⟨fun q2 => ?_, fun q2 => ?_⟩
    · have : y4 = 2 := by grind
      subst this
      refine ⟨⟨trivial, trivial, by grind, (sS _ h3').symm, h6'⟩, ?_⟩
      rcases h3' with e | e | e <;> rw [e] <;> decide
    · have h5' : y4 = -1 ∨ y4 = 0 ∨ y4 = 1 := by grind
      have e1 := frG1 h6'
      have hm : 4 - (y4 + 1 + 1).toNatClampNeg < 4 - (y4 + 1).toNatClampNeg := by
        rcases h5' with e | e | e <;> rw [e] <;> decide
      have eo : f5 0 12 - Val_X9_catcherAt f5 (f5 0 11 + y4) = vOff V (vT V z + y3) y4 := by
        unfold Val_X9_catcherAt vOff
        rw [h7, h8, e1, hV, vv.2.2.2.2.1, vv.2.1]
      have eh : Val_X9_holdsOf f5 y1 = vHd V := by
        unfold Val_X9_holdsOf
        rw [e1, hV, vv.2.2.2.2.2.2.2.2.2]; rfl
      rw [eo, eh]
      refine ⟨by unfold Pre_X9_catcherAt; rw [e1]; exact swO hd, h6, fun e => ⟨⟨trivial, trivial, trivial, by grind, ?_, h6', h7, h8⟩, hm⟩, fun e => ⟨⟨trivial, trivial, trivial, by grind, ?_, h6', h7, h8⟩, hm⟩⟩
      · have e1 : h y3 y4 = 0 := by
          rw [hh]; show bI (decide _) = 0
          rw [decide_eq_false]; rfl
          rw [Int32.not_le]; exact e
        rw [rS _ _ h5', e1]; grind
      · have e1 : h y3 y4 = 1 := by
          rw [hh]; show bI (decide _) = 1
          rw [decide_eq_true]; rfl
          rw [← Int32.not_lt]; exact e
        rw [rS _ _ h5', e1]; grind
theorem vc_X9_surestOf : vcS_X9_surestOf := by
  intro f0 a1 a2 hp
  obtain ⟨hd, h6⟩ := hp
  have vv := VMt_v f0 (ix a1)
  have vE : ∃ c : Nat → Int32, c = fun k => casI (VMt f0 (ix a1)) (vW (VMt f0 (ix a1)) 3 + nI k) := ⟨_, rfl⟩
  obtain ⟨c, hc⟩ := vE
  simp only [wp_X9_surestOf, wp_X9_surestOf_L8]
  refine ⟨fun (f : Fn) (x1 x2 x3 x4 x5 : Int32) => x1 = a1 ∧ x2 = a2 ∧ frG f0 f ∧ ∃ k : Nat, k < 2147483648 ∧ x5 = nI k ∧ (k = 0 ∨ k ≤ a2.toNatClampNeg) ∧ x3 = (bst c k).1 ∧ x4 = (bst c k).2, fun _ _ _ _ _ x5 => 2147483648 - x5.toNatClampNeg, ⟨rfl, rfl, frG_0 _, 0, by omega, rfl, Or.inl rfl, rfl, rfl⟩, ?_⟩
  rintro f x1 x2 x3 x4 x5 ⟨rfl, rfl, h4, k, kl, rfl, hk, rfl, rfl⟩
  simp only [wpb_X9_surestOf_L8, wp_X9_surestOf_L43, wp_X9_surestOf_L58, pI_iff]
  refine ⟨fun q => ⟨h4, ?_⟩, fun q => ⟨⟨by rw [frG1 h4]; exact hd, h6⟩, fun r3 f4 p => ?_⟩⟩
  · have := tncLe q
    rw [nI_clamp (by omega)] at this
    have e : ix x2 = k := by show x2.toNatClampNeg = k; omega
    rw [e]
    unfold surI
    rw [hc]
  · obtain ⟨p1, p2⟩ := p
    have g4 := frG_t h4 p1
    rw [VMtF h4, frG1 h4] at p2
    have ck : r3 = c k := by rw [p2, hc]; show _ = casI _ (vW (VMt f0 (ix x1)) 3 + nI k); rw [vv.2.2.2.2.2.2.2.1]
    subst ck
    have hk1 : k + 1 ≤ x2.toNatClampNeg := by
      have q' : nI k < x2 := Int32.not_le.mp q
      obtain ⟨j, j1, rfl⟩ := nI_of (x := x2) (by intro h; have := nI_pos (n := k) (by omega); grind)
      rw [nI_ltI (by omega) (by omega)] at q'
      rw [nI_clamp (by omega)]; omega
    have kl1 : k + 1 < 2147483648 := by have := tncB x2; omega
    have mm : 2147483648 - (nI k + 1).toNatClampNeg < 2147483648 - (nI k).toNatClampNeg := by
      rw [nI_1, nI_clamp (by omega), nI_clamp (by omega)]; omega
    refine ⟨fun h => ⟨fun _ => ⟨⟨trivial, trivial, g4, k + 1, kl1, by rw [nI_1], Or.inr hk1, ?_, ?_⟩, mm⟩, fun h2 => absurd h h2⟩, fun h => ⟨fun h2 => absurd h2 h, fun _ => ⟨⟨trivial, trivial, g4, k + 1, kl1, by rw [nI_1], Or.inr hk1, ?_, ?_⟩, mm⟩⟩⟩
    · rw [bst_s, if_neg (Int32.not_lt.mpr h)]
    · rw [bst_s, if_neg (Int32.not_lt.mpr h)]
    · rw [bst_s, if_pos (Int32.not_le.mp h)]
    · rw [bst_s, if_pos (Int32.not_le.mp h)]
set_option maxHeartbeats 200000 in
theorem vc_X9_surest : vcS_X9_surest := by
  unfold vcS_X9_surest
  simp only [wp_X9_surest_L24, wp_X9_surest, pI_iff, pV_iff, pL_iff, Post_X9_surest, Pre_X9_surest, tn0, tn1, tn2, tn3, tn4, tn5, tn6, tn7, tn8, tn9, tn10, tn12, tn18, tn40, tn50, tn60, tn90, tn92, tn112, tn212, tnn1, ni0, ni1, ni2, ni3, ni4, ni5, ni6, ni7, lg_cmp_lt, lg_cmp_le, lg_cmp_gt, lg_cmp_ge, lg_cmp_eq, in_m99_299, in_0_1, in_0_19999, in_0_2, in_0_200, in_0_3, in_0_30, in_0_4, in_0_6, in_0_60, in_0_69, in_0_9, in_0_99, in_1_200, in_1_3, in_1_40, in_1_5, in_1_60, in_1_8, in_4_40, in_0e, RE_surest, Post_X9_surestOf]
  intros
  (repeat' (first | with_reducible apply And.intro | with_reducible intro _)) <;> (try subst_vars) <;> first | grind [txb, pT, lawHi, lawLo, rpn, rpS, joinI, remI, isPartI, quin, flq, quad, tri, vW, vY, vV, vP, vN, fmodI, absI, vL, vF, maxI, Post_X9_surestOf, Pre_X9_surestOf, Val_X9_isSpan, up2_ap, vp1, vp2, vp3, vp4, vp5, vp6, vp20, vp40, vp50, vp60, vp264, tnc, tncA, tncS, tncM, up2_row, dF2, sw0, sw1, InvT, → toldE, → fin1, → fin2, → fin3, → fin4, → fin5, pf1, pf2, pf3, pf4, pf5, VMtE, → isFv, → isFw, → fi1, → fi2, → fi3, → fi4, → fi5, → frGM, → frG1, → frG10, → frTM, bI01, oI_lt, → InvF, → InvF0, → eqM_t, eqM_rfl, ← eqMu, → swO, ← tx2]
theorem vc_X9_common : vcS_X9_common := by
  intro f a1 a2 hp
  obtain ⟨x, y, h1, h2, hx, hy⟩ := hp
  have uq : ∀ x' y' : Nat, (a1 = lN x' ∨ a1 = -(lN x')) → a2 = lN y' → x' < 2147483648 → y' < 2147483648 → x' = x ∧ y' = y := fun x' y' q1 q2 q3 q4 => by
    have e1 := lNab hx h1
    have e2 := lNab q3 q1
    rw [h2, lN_eq (by omega) (by omega)] at q2
    omega
  have main : ∀ s0 : Int64, s0 = lN x → wp_X9_common_L12 f a2 s0 (pL (Post_X9_common f a1 a2)) := by
    intro s0 hs
    simp only [wp_X9_common_L12, wp_X9_common_L17]
    refine ⟨fun (f' : Fn) (x4 x6 : Int64) => f' = f ∧ ∃ p q : Nat, p < 2147483648 ∧ q < 2147483648 ∧ x4 = lN p ∧ x6 = lN q ∧ Nat.gcd p q = Nat.gcd x y, fun _ _ x6 => x6.toInt.toNat, ⟨rfl, x, y, hx, hy, hs, h2, rfl⟩, ?_⟩
    rintro f' x4 x6 ⟨rfl, p, q, hp, hq, rfl, rfl, hg⟩
    simp only [wpb_X9_common_L17, lg_cmp_eq, pL_iff]
    refine ⟨fun h => ?_, fun h => ⟨h, ?_⟩⟩
    · have q0 : q = 0 := by
        have : lN q = lN 0 := h
        rwa [lN_eq (by omega) (by omega)] at this
      subst q0
      rw [Nat.gcd_zero_right] at hg
      intro x' y' q1 q2 q3 q4
      obtain ⟨rfl, rfl⟩ := uq x' y' q1 q2 q3 q4
      rw [hg]; exact ⟨rfl, rfl⟩
    · have q0 : 0 < q := by
        rcases Nat.eq_zero_or_pos q with e | e
        · exact absurd (by rw [e]; rfl) h
        · exact e
      have ml := Nat.mod_lt p q0
      refine ⟨⟨trivial, q, p % q, hq, by omega, rfl, lNmod hp hq, ?_⟩, ?_⟩
      · rw [← hg, Nat.gcd_comm p q, Nat.gcd_rec q p, Nat.gcd_comm]
      · rw [lNmod hp hq, lN_toInt (by omega), lN_toInt (by omega)]; omega
  simp only [wp_X9_common, lg_cmp_ge]
  refine ⟨fun h => main a1 ?_, fun h => main (-a1) ?_⟩
  · rcases h1 with h1 | h1
    · exact h1
    · have : x = 0 := by
        rw [Int64.le_iff_toInt_le, h1, lNneg hx] at h
        simp at h; omega
      subst this
      rw [h1]; decide
  · rcases h1 with h1 | h1
    · exfalso
      apply h
      rw [Int64.le_iff_toInt_le, h1, lN_toInt (by omega)]
      simp
    · rw [h1]; exact Int64.neg_neg
theorem vc_X9_odds : vcS_X9_odds := by
  intro f a1 a2 a3 hp
  unfold Pre_X9_odds at hp
  have bad : ¬ (isF f a1 ∧ inP a2 0 60 ∧ inP a3 0 1) → wp_X9_odds_L25 f (pI (Post_X9_odds f a1 a2 a3)) := fun h => by
    have R : RE_odds f a1 a2 a3 = er f 1 := by unfold RE_odds; rw [if_neg h]
    simp only [wp_X9_odds_L25, pI_iff]
    exact ⟨pf1 f, fun r f p => by unfold Post_X9_odds; rw [R]; exact fi1 p⟩
  have sV : Val_X9_isSoon f a2 = if inP a2 0 60 then 1 else 0 := rfl
  simp only [wp_X9_odds, in_0_1]
  refine ⟨fun h => bad fun q => isFw h q.1, fun h => ⟨fun h2 => bad fun q => (by rw [sV, if_pos q.2.1] at h2; cases h2), fun h2 => ⟨fun h3 => ?_, fun h3 => bad fun q => (by rw [if_pos q.2.2] at h3; cases h3)⟩⟩⟩
  obtain ⟨iF, v6, i0, i6, i7⟩ := isFv hp h
  have c2 : inP a2 0 60 := Classical.byContradiction fun hn => h2 (by rw [sV, if_neg hn])
  have c3 : inP a3 0 1 := Classical.byContradiction fun hn => h3 (if_neg hn)
  have R : RE_odds f a1 a2 a3 = (frcI (casI (VM (f 1) (ix a1)) (f 1 1 + a2)) 9 a3, f) := by unfold RE_odds; rw [if_pos ⟨iF, c2, c3⟩]
  refine ⟨⟨hp.1, v6⟩, fun r9 f10 p => ?_⟩
  obtain ⟨p1, p2⟩ := p
  rw [VMtE (InvF hp).2] at p2
  obtain ⟨c, c9, ce⟩ := casB (VM (f 1) (ix a1)) (f 1 1 + a2)
  rw [ce] at p2 R
  subst p2
  have e64 : (nI c).toInt64 = lN c := nI_l (by omega)
  refine ⟨⟨c, 9, Or.inl e64, rfl, by omega, by omega⟩, fun r13 f14 q => ?_⟩
  obtain ⟨q1, q2⟩ := q c 9 (Or.inl e64) rfl (by omega) (by omega)
  have gp : 0 < Nat.gcd c 9 := Nat.gcd_pos_of_pos_right c (by omega)
  have gl : Nat.gcd c 9 ≤ 9 := Nat.gcd_le_right c (by omega)
  have rE : r13.toInt32 = nI (Nat.gcd c 9) := by rw [q1, lN_i]
  have nz : ¬ nI (Nat.gcd c 9) = 0 := nI_ne0 gp (by omega)
  have fe := frcE (c := c) (n := 9) (by omega) (by omega) a3
  rw [show (9 : Int32) = nI 9 from rfl, fe] at R
  rw [rE, q2]
  refine ⟨fun h4 => ⟨nz, ?_⟩, fun h4 => ⟨nz, ?_⟩⟩
  · rw [pI_iff]; unfold Post_X9_odds
    rw [R, if_neg h4]; exact ⟨rfl, frGM p1⟩
  · rw [pI_iff]; unfold Post_X9_odds
    rw [R, if_pos h4]; exact ⟨rfl, frGM p1⟩
set_option maxHeartbeats 200000 in
theorem vc_X9_hasNext : vcS_X9_hasNext := by
  unfold vcS_X9_hasNext
  simp only [wp_X9_hasNext, pI_iff, pV_iff, pL_iff, Post_X9_hasNext, Pre_X9_hasNext, tn0, tn1, tn2, tn3, tn4, tn5, tn6, tn7, tn8, tn9, tn10, tn12, tn18, tn40, tn50, tn60, tn90, tn92, tn112, tn212, tnn1, ni0, ni1, ni2, ni3, ni4, ni5, ni6, ni7, lg_cmp_lt, lg_cmp_le, lg_cmp_gt, lg_cmp_ge, lg_cmp_eq, in_m99_299, in_0_1, in_0_19999, in_0_2, in_0_200, in_0_3, in_0_30, in_0_4, in_0_6, in_0_60, in_0_69, in_0_9, in_0_99, in_1_200, in_1_3, in_1_40, in_1_5, in_1_60, in_1_8, in_4_40, in_0e, Post_X9_findCan]
  intros
  (repeat' (first | with_reducible apply And.intro | with_reducible intro _)) <;> (try subst_vars) <;> first | grind [txb, pT, lawHi, lawLo, rpn, rpS, joinI, remI, isPartI, quin, flq, quad, tri, vL, vW, vY, vF, vN, vV, vP, fmodI, absI, maxI, Post_X9_findCan, Pre_X9_findCan, up2_ap, vp1, vp2, vp3, vp4, vp5, vp6, vp20, vp40, vp50, vp60, vp264, tnc, tncA, tncS, tncM, up2_row, dF2, sw0, sw1, InvT, hasC, REo_p, REo_n, tncB, → toldE, → fin1, → fin2, → fin3, → fin4, → fin5, pf1, pf2, pf3, pf4, pf5, VMtE, → isFv, → isFw, → fi1, → fi2, → fi3, → fi4, → fi5, → frGM, → frG1, → frG10, → frTM, bI01, oI_lt, → InvF, → InvF0, → eqM_t, eqM_rfl, ← eqMu, → swO, ← tx2]
theorem heldW {m : Nat} (h1 : 1 ≤ m) (h : m < 1000) : heldI (nI m) 1 60 = minI 60 (nI m) ∧ ∃ q : Nat, 1 ≤ q ∧ q ≤ 60 ∧ minI 60 (nI m) = nI q := by
  have a : ¬ nI m < 1 := by
    show ¬ nI m < nI 1
    rw [nI_ltI (by omega) (by decide)]; omega
  unfold heldI minI
  rw [if_neg a]
  by_cases q : 60 < m
  · have c : (60 : Int32) < nI m := nI_lt (a := 60) q (by omega)
    have d : ¬ nI m < 60 := by rw [Int32.not_lt]; exact Int32.le_of_lt c
    rw [if_pos c, if_neg d]
    exact ⟨rfl, 60, by omega, by omega, rfl⟩
  · have c : ¬ (60 : Int32) < nI m := by
      show ¬ nI 60 < nI m
      rw [nI_ltI (by decide) (by omega)]; exact q
    rw [if_neg c]
    by_cases e : m = 60
    · subst e
      exact ⟨rfl, 60, by omega, by omega, rfl⟩
    · have d : nI m < 60 := nI_lt (b := 60) (by omega) (by omega)
      rw [if_pos d]
      exact ⟨rfl, m, h1, by omega, rfl⟩
theorem vc_X9_pumped : vcS_X9_pumped := by
  intro f0 a1 a2 hp
  unfold Pre_X9_pumped at hp
  have hd := hp.1
  have h10 := (InvF hp).2
  simp only [wp_X9_pumped, wp_X9_pumped_L15, pI_iff]
  have bad : ¬ (isF f0 a1 ∧ inP a2 1 60) → RE_pumped f0 a1 a2 = er f0 1 := fun h => by unfold RE_pumped; rw [if_neg h]
  have fin : ¬ (isF f0 a1 ∧ inP a2 1 60) → Pre_X9_finds f0 1 ∧ ∀ (r3 : Int32) (f4 : Fn), Post_X9_finds f0 1 r3 f4 → Post_X9_pumped f0 a1 a2 r3 f4 := fun h => ⟨pf1 _, fun r3 f4 p => by unfold Post_X9_pumped; rw [bad h]; exact fi1 p⟩
  refine ⟨fun h => fin fun q => isFw h q.1, fun h => ⟨fun h2 => ?_, fun h2 => fin fun q => ?_⟩⟩
  rotate_left
  · unfold Val_X9_isSpan at h2
    rw [if_pos q.2] at h2
    cases h2
  obtain ⟨iF, v6, i0, i6, i7⟩ := isFv hp h
  have sp : inP a2 1 60 := Classical.byContradiction fun hn => h2 (by unfold Val_X9_isSpan; rw [if_neg hn])
  have good : RE_pumped f0 a1 a2 = RE_o f0 (fst (pmpP (VM (f0 1) (ix a1)) (ix a2)) 60) := by unfold RE_pumped; rw [if_pos ⟨iF, sp⟩]
  obtain ⟨pp, w, xx, -, -, w1, w2, -, -, hw, -⟩ := hd.1
  simp only [wp_X9_pumped_L35]
  refine ⟨fun (f : Fn) (x1 x2 x3 x4 x5 : Int32) => x1 = a1 ∧ x2 = a2 ∧ x3 = f0 1 13 ∧ (∃ v, frG (up2 f0 1 13 v) f) ∧ ∃ k : Nat, k ≤ 60 ∧ x5 = nI k ∧ (x4 = -1 ∧ fst (pmpP (VM (f0 1) (ix a1)) (ix a2)) k = none ∨ ∃ j, j < 60 ∧ x4 = nI j ∧ fst (pmpP (VM (f0 1) (ix a1)) (ix a2)) 60 = some j), fun _ _ _ _ _ x5 => 100 - x5.toNatClampNeg, ⟨rfl, rfl, rfl, ⟨_, frUs f0 13⟩, 0, by omega, rfl, Or.inl ⟨rfl, rfl⟩⟩, ?_⟩
  rintro f x1 x2 x3 x4 x5 ⟨rfl, rfl, rfl, ⟨v, hf⟩, k, hk, rfl, hx⟩
  simp only [wpb_X9_pumped_L35, wp_X9_pumped_L79, wp_X9_pumped_L87]
  have rm := resM hf
  have out : ∀ o, fst (pmpP (VM (f0 1) (ix x1)) (ix x2)) 60 = o → (0 ≤ oI o → pI (Post_X9_pumped f0 x1 x2) (some (.int (oI o))) (up2 f 1 13 (f0 1 13))) ∧ (¬ 0 ≤ oI o → Pre_X9_finds (up2 f 1 13 (f0 1 13)) 2 ∧ ∀ (r10 : Int32) (f11 : Fn), Post_X9_finds (up2 f 1 13 (f0 1 13)) 2 r10 f11 → pI (Post_X9_pumped f0 x1 x2) (some (.int r10)) f11) := fun o ho => by
    subst ho
    refine ⟨fun h => ?_, fun h => ⟨pf2 _, fun r f p => ?_⟩⟩
    · rw [pI_iff]; unfold Post_X9_pumped
      rw [good, REo_p h]; exact ⟨rfl, rm⟩
    · rw [pI_iff]; unfold Post_X9_pumped
      rw [good, REo_n (by omega) h]; exact fin2 rm p
  refine ⟨fun h3 => ?_, fun h3 => ⟨fun h4 => ?_, fun h4 => ?_⟩⟩
  · have h3' : nI 59 < nI k := h3
    rw [nI_ltI (by decide) (by omega)] at h3'
    have : k = 60 := by omega
    subst this
    rcases hx with ⟨rfl, h5⟩ | ⟨j, j1, rfl, h5⟩
    · exact out none h5
    · exact out (some j) h5
  · rcases hx with ⟨rfl, h5⟩ | ⟨j, j1, rfl, h5⟩
    · exact absurd h4 (by decide)
    · exact out (some j) h5
  · rcases hx with ⟨rfl, h5⟩ | ⟨j, j1, rfl, h5⟩
    rotate_left
    · exact absurd (Int32.not_lt.mp (nI_pos (n := j) (by omega))) h4
    have h3' : ¬ nI 59 < nI k := h3
    rw [nI_ltI (by decide) (by omega)] at h3'
    have mm : 100 - (nI k + 1).toNatClampNeg < 100 - (nI k).toNatClampNeg := by
      rw [nI_1, nI_clamp (by omega), nI_clamp (by omega)]; omega
    have e13 : f0 1 13 = nI w := hw
    obtain ⟨H, hH0⟩ : ∃ H, H = Val_X9_held f (f0 1 13 + nI k) 1 60 := ⟨_, rfl⟩
    rw [← hH0]
    have hH : H = minI 60 (vN (VM (f0 1) (ix x1)) 1 + nI k) := by
      rw [hH0]
      show heldI (f0 1 13 + nI k) 1 60 = minI 60 (f0 1 13 + nI k)
      rw [e13, nI_add]
      exact (heldW (by omega) (by omega)).1
    have hdH : dOK (upd (f0 1) 13 H) := by
      rw [hH]
      show dOK (upd (f0 1) 13 (minI 60 (f0 1 13 + nI k)))
      rw [e13, nI_add]
      obtain ⟨q, q1, q2, q3⟩ := (heldW (m := w + k) (by omega) (by omega)).2
      rw [q3]
      exact dOK13 hd q q1 q2
    have r1 := row1 hf H
    have go : ∀ (r15 : Int32) (f16 : Fn), Post_X9_hasNext (up2 f 1 13 H) x1 x2 r15 f16 → r15 = bI (pmpP (VM (f0 1) (ix x1)) (ix x2) k) ∧ frG (up2 f0 1 13 H) f16 := fun r15 f16 p => by
      obtain ⟨p1, p2⟩ := p
      refine ⟨?_, row1g hf p1⟩
      rw [VMtE (by rw [up2_row _ _ _ _ _ (by decide), hf.2 10 (by decide), up2_row _ _ _ _ _ (by decide)]; exact h10), r1, VM13 hd] at p2
      rw [p2, hH]; rfl
    refine ⟨⟨by rw [r1]; exact hdH, v6, Int32.not_lt.mpr sp.2, by have := sp.1; grind⟩, fun r15 f16 p => ?_⟩
    obtain ⟨e, g⟩ := go r15 f16 p
    refine ⟨fun h6 => ⟨⟨trivial, trivial, trivial, ⟨_, g⟩, k + 1, by omega, by rw [nI_1], Or.inl ⟨trivial, ?_⟩⟩, mm⟩, fun h6 => ⟨⟨trivial, trivial, trivial, ⟨_, g⟩, k + 1, by omega, by rw [nI_1], Or.inr ⟨k, by omega, rfl, ?_⟩⟩, mm⟩⟩
    · rw [fst_s _ _ h5, if_neg]
      rw [e] at h6
      rw [bI_0 h6]; decide
    · rw [e] at h6
      exact fst_h h5 (bI_1 h6) (by omega)
theorem vc_X9_inStep : vcS_X9_inStep := by
  intro f0 a1 a2 hp
  unfold Pre_X9_inStep at hp
  have hd := hp.1
  have h10 := (InvF hp).2
  simp only [wp_X9_inStep, wp_X9_inStep_L15, pI_iff]
  have bad : ¬ (isF f0 a1 ∧ inP a2 1 60) → RE_inStep f0 a1 a2 = er f0 1 := fun h => by unfold RE_inStep; rw [if_neg h]
  have fin : ¬ (isF f0 a1 ∧ inP a2 1 60) → Pre_X9_finds f0 1 ∧ ∀ (r3 : Int32) (f4 : Fn), Post_X9_finds f0 1 r3 f4 → Post_X9_inStep f0 a1 a2 r3 f4 := fun h => ⟨pf1 _, fun r3 f4 p => by unfold Post_X9_inStep; rw [bad h]; exact fi1 p⟩
  refine ⟨fun h => fin fun q => isFw h q.1, fun h => ⟨fun h2 => ?_, fun h2 => fin fun q => ?_⟩⟩
  rotate_left
  · unfold Val_X9_isSpan at h2
    rw [if_pos q.2] at h2
    cases h2
  obtain ⟨iF, v6, i0, i6, i7⟩ := isFv hp h
  have sp : inP a2 1 60 := Classical.byContradiction fun hn => h2 (by unfold Val_X9_isSpan; rw [if_neg hn])
  have good : RE_inStep f0 a1 a2 = RE_o f0 (fst (stpP (VM (f0 1) (ix a1)) (ix a2)) 40) := by unfold RE_inStep; rw [if_pos ⟨iF, sp⟩]
  obtain ⟨pp, w, xx, a1', a2', w1, w2, a5', hw0, -, hw⟩ := hd.2.1
  have hw : f0 1 17 = nI xx := hw
  have hw0 : f0 1 15 = nI pp := hw0
  have pos : 0 < f0 1 15 := by rw [hw0]; exact nI_lt (a := 0) (by omega) (by omega)
  simp only [wp_X9_inStep_L35]
  refine ⟨fun (f : Fn) (x1 x2 x3 x4 x5 : Int32) => x1 = a1 ∧ x2 = a2 ∧ x3 = f0 1 17 ∧ (∃ v, frG (up2 f0 1 17 v) f) ∧ ∃ k : Nat, k ≤ 40 ∧ x5 = nI k ∧ (x4 = -1 ∧ fst (stpP (VM (f0 1) (ix a1)) (ix a2)) k = none ∨ ∃ j, j < 40 ∧ x4 = nI j ∧ fst (stpP (VM (f0 1) (ix a1)) (ix a2)) 40 = some j), fun _ _ _ _ _ x5 => 100 - x5.toNatClampNeg, ⟨rfl, rfl, rfl, ⟨_, frUs f0 17⟩, 0, by omega, rfl, Or.inl ⟨rfl, rfl⟩⟩, ?_⟩
  rintro f x1 x2 x3 x4 x5 ⟨rfl, rfl, rfl, ⟨v, hf⟩, k, hk, rfl, hx⟩
  simp only [wpb_X9_inStep_L35, wp_X9_inStep_L81, wp_X9_inStep_L89]
  have rm := resM hf
  have out : ∀ o, fst (stpP (VM (f0 1) (ix x1)) (ix x2)) 40 = o → (0 ≤ oI o → pI (Post_X9_inStep f0 x1 x2) (some (.int (oI o))) (up2 f 1 17 (f0 1 17))) ∧ (¬ 0 ≤ oI o → Pre_X9_finds (up2 f 1 17 (f0 1 17)) 2 ∧ ∀ (r10 : Int32) (f11 : Fn), Post_X9_finds (up2 f 1 17 (f0 1 17)) 2 r10 f11 → pI (Post_X9_inStep f0 x1 x2) (some (.int r10)) f11) := fun o ho => by
    subst ho
    refine ⟨fun h => ?_, fun h => ⟨pf2 _, fun r f p => ?_⟩⟩
    · rw [pI_iff]; unfold Post_X9_inStep
      rw [good, REo_p h]; exact ⟨rfl, rm⟩
    · rw [pI_iff]; unfold Post_X9_inStep
      rw [good, REo_n (by omega) h]; exact fin2 rm p
  refine ⟨fun h3 => ?_, fun h3 => ⟨fun h4 => ?_, fun h4 => ?_⟩⟩
  · have h3' : nI 39 < nI k := h3
    rw [nI_ltI (by decide) (by omega)] at h3'
    have : k = 40 := by omega
    subst this
    rcases hx with ⟨rfl, h5⟩ | ⟨j, j1, rfl, h5⟩
    · exact out none h5
    · exact out (some j) h5
  · rcases hx with ⟨rfl, h5⟩ | ⟨j, j1, rfl, h5⟩
    · exact absurd h4 (by decide)
    · exact out (some j) h5
  · rcases hx with ⟨rfl, h5⟩ | ⟨j, j1, rfl, h5⟩
    rotate_left
    · exact absurd (Int32.not_lt.mp (nI_pos (n := j) (by omega))) h4
    have h3' : ¬ nI 39 < nI k := h3
    rw [nI_ltI (by decide) (by omega)] at h3'
    have mm : 100 - (nI k + 1).toNatClampNeg < 100 - (nI k).toNatClampNeg := by
      rw [nI_1, nI_clamp (by omega), nI_clamp (by omega)]; omega
    have f15 : f 1 15 = f0 1 15 := by rw [frG1 hf, up2_off _ _ (by decide)]
    rw [f15]
    obtain ⟨H, hH0⟩ : ∃ H, H = f0 1 17 + nI k - (f0 1 17 + nI k) / f0 1 15 * f0 1 15 := ⟨_, rfl⟩
    rw [← hH0]
    have hH : H = remI (vF (VM (f0 1) (ix x1)) 2 + nI k) (vF (VM (f0 1) (ix x1)) 0) := hH0
    have rp := (remP (x := f0 1 17 + nI k) pos).1 (by
      rw [hw, nI_add]; exact Int32.not_lt.mp (nI_pos (by omega)))
    have hdH : dOK (upd (f0 1) 17 H) := by
      rw [hH]
      exact dOK17 hd _ rp.1 rp.2
    have nz : ¬ f0 1 15 = 0 := fun e => by rw [e] at pos; exact absurd pos (by decide)
    have r1 := row1 hf H
    have go : ∀ (r15 : Int32) (f16 : Fn), Post_X9_hasNext (up2 f 1 17 H) x1 x2 r15 f16 → r15 = bI (stpP (VM (f0 1) (ix x1)) (ix x2) k) ∧ frG (up2 f0 1 17 H) f16 := fun r15 f16 p => by
      obtain ⟨p1, p2⟩ := p
      refine ⟨?_, row1g hf p1⟩
      rw [VMtE (by rw [up2_row _ _ _ _ _ (by decide), hf.2 10 (by decide), up2_row _ _ _ _ _ (by decide)]; exact h10), r1, VM17 hd] at p2
      rw [p2, hH]; rfl
    refine ⟨nz, ⟨⟨by rw [r1]; exact hdH, v6, Int32.not_lt.mpr sp.2, by have := sp.1; grind⟩, fun r15 f16 p => ?_⟩⟩
    obtain ⟨e, g⟩ := go r15 f16 p
    refine ⟨fun h6 => ⟨⟨trivial, trivial, trivial, ⟨_, g⟩, k + 1, by omega, by rw [nI_1], Or.inl ⟨trivial, ?_⟩⟩, mm⟩, fun h6 => ⟨⟨trivial, trivial, trivial, ⟨_, g⟩, k + 1, by omega, by rw [nI_1], Or.inr ⟨k, by omega, rfl, ?_⟩⟩, mm⟩⟩
    · rw [fst_s _ _ h5, if_neg]
      rw [e] at h6
      rw [bI_0 h6]; decide
    · rw [e] at h6
      exact fst_h h5 (bI_1 h6) (by omega)
set_option maxHeartbeats 200000 in
theorem vc_X9_mend : vcS_X9_mend := by
  unfold vcS_X9_mend
  simp only [wp_X9_mend_L40, wp_X9_mend, pI_iff, pV_iff, pL_iff, Post_X9_mend, Pre_X9_mend, tn0, tn1, tn2, tn3, tn4, tn5, tn6, tn7, tn8, tn9, tn10, tn12, tn18, tn40, tn50, tn60, tn90, tn92, tn112, tn212, tnn1, ni0, ni1, ni2, ni3, ni4, ni5, ni6, ni7, lg_cmp_lt, lg_cmp_le, lg_cmp_gt, lg_cmp_ge, lg_cmp_eq, in_m99_299, in_0_1, in_0_19999, in_0_2, in_0_200, in_0_3, in_0_30, in_0_4, in_0_6, in_0_60, in_0_69, in_0_9, in_0_99, in_1_200, in_1_3, in_1_40, in_1_5, in_1_60, in_1_8, in_4_40, in_0e, RE_mend]
  intros
  (repeat' (first | with_reducible apply And.intro | with_reducible intro _)) <;> (try subst_vars) <;> first | grind [txb, pT, lawHi, lawLo, rpn, rpS, joinI, remI, isPartI, quin, flq, quad, tri, vW, vY, vV, vP, vN, fmodI, absI, vL, vF, mndI, Val_X9_in, Pre_X9_offNow, Pre_X9_isTold, Val_X9_isSoon, up2_ap, vp1, vp2, vp3, vp4, vp5, vp6, vp20, vp40, vp50, vp60, vp264, tnc, tncA, tncS, tncM, up2_row, dF2, sw0, sw1, InvT, → toldE, → fin1, → fin2, → fin3, → fin4, → fin5, pf1, pf2, pf3, pf4, pf5, VMtE, → isFv, → isFw, → fi1, → fi2, → fi3, → fi4, → fi5, → frGM, → frG1, → frG10, → frTM, bI01, oI_lt, → InvF, → InvF0, → eqM_t, eqM_rfl, ← eqMu, → swO, ← tx2]
theorem vc_X9_again : vcS_X9_again := by
  intro f a1 a2 a3 a4 a5 hp
  unfold Pre_X9_again at hp
  have bad : ¬ (isF f a1 ∧ inP a2 1 60 ∧ inP a3 0 99 ∧ inP a4 0 99 ∧ inP a5 0 1) → wp_X9_again_L51 f (pL (Post_X9_again f a1 a2 a3 a4 a5)) := fun h => by
    have R : RE_again f a1 a2 a3 a4 a5 = ((er f 1).1.toInt64, (er f 1).2) := by unfold RE_again; rw [if_neg h]
    simp only [wp_X9_again_L51, pL_iff]
    exact ⟨pf1 f, fun r f p => by
      unfold Post_X9_again; rw [R]
      have q := fi1 p
      exact ⟨by rw [q.1], q.2⟩⟩
  have sV : Val_X9_isSpan f a2 = if inP a2 1 60 then 1 else 0 := rfl
  simp only [wp_X9_again, in_0_1, in_0_99]
  refine ⟨fun h => bad fun q => isFw h q.1, fun h => ⟨fun h2 => bad fun q => (by rw [sV, if_pos q.2.1] at h2; cases h2), fun h2 => ⟨fun h3 => bad fun q => (by rw [if_pos q.2.2.1] at h3; cases h3), fun h3 => ⟨fun h4 => bad fun q => (by rw [if_pos q.2.2.2.1] at h4; cases h4), fun h4 => ⟨fun h5 => ?_, fun h5 => bad fun q => (by rw [if_pos q.2.2.2.2] at h5; cases h5)⟩⟩⟩⟩⟩
  obtain ⟨iF, v6, i0, i6, i7⟩ := isFv hp h
  have c2 : inP a2 1 60 := Classical.byContradiction fun hn => h2 (by rw [sV, if_neg hn])
  have c3 : inP a3 0 99 := Classical.byContradiction fun hn => h3 (if_neg hn)
  have c4 : inP a4 0 99 := Classical.byContradiction fun hn => h4 (if_neg hn)
  have c5 : inP a5 0 1 := Classical.byContradiction fun hn => h5 (if_neg hn)
  obtain ⟨x, x99, rfl⟩ := nI_of2 (M := 99) (n := 99) (by decide) (Int32.not_lt.mpr c3.1) c3.2
  obtain ⟨y, y99, rfl⟩ := nI_of2 (M := 99) (n := 99) (by decide) (Int32.not_lt.mpr c4.1) c4.2
  have R : RE_again f a1 a2 (nI x) (nI y) a5 = ((frcI (agnI (casI (VM (f 1) (ix a1)) (f 1 1 + surI (VM (f 1) (ix a1)) (ix a2))) (nI x) (nI y)) 81 a5).toInt64, f) := by unfold RE_again; rw [if_pos ⟨iF, c2, c3, c4, c5⟩]
  refine ⟨⟨hp.1, v6⟩, fun r11 f12 p => ?_⟩
  obtain ⟨p1, p2⟩ := p
  rw [VMtE (InvF hp).2] at p2
  refine ⟨⟨by rw [frG1 p1]; exact hp.1, v6⟩, fun r15 f16 q => ?_⟩
  obtain ⟨q1, q2⟩ := q
  rw [VMtF p1, VMtE (InvF hp).2, p2] at q2
  obtain ⟨c, c9, ce⟩ := casB (VM (f 1) (ix a1)) (f 1 1 + surI (VM (f 1) (ix a1)) (ix a2))
  rw [ce] at q2 R
  subst q2
  have ec : (nI c).toInt64 = lN c := nI_l (by omega)
  have ex : (nI x).toInt64 = lN x := nI_l (by omega)
  have ey : (nI y).toInt64 = lN y := nI_l (by omega)
  rw [ec, ex, ey]
  have fr := frG_t p1 q1
  obtain ⟨w, w1, w2⟩ := agnL c9 x99 y99
  have fin : ∀ s : Int64, s = (if lN c * lN x - (9 - lN c) * lN y ≤ 0 then 0 else lN c * lN x - (9 - lN c) * lN y) → wp_X9_again_L110 f16 a5 (lN c) (lN c * lN x - (9 - lN c) * lN y) s (pL (Post_X9_again f a1 a2 (nI x) (nI y) a5)) := by
    intro s hs
    obtain ⟨V, hV⟩ : ∃ V, V = 9 * (lN c * lN x - (9 - lN c) * lN y) + (9 - lN c) * s := ⟨_, rfl⟩
    have VE : V = lN w ∨ V = -(lN w) := by
      rcases w2 with ⟨-, w3⟩ | ⟨-, w3⟩
      · exact Or.inl (hV.trans (w3 s hs))
      · exact Or.inr (hV.trans (w3 s hs))
    have A64 : (agnI (nI c) (nI x) (nI y)).toInt64 = V := by
      rcases w2 with ⟨w4, w3⟩ | ⟨w4, w3⟩
      · rw [w4, hV, w3 s hs]; exact nI_l (by omega)
      · rw [w4, hV, w3 s hs]; exact i64n (by omega)
    have An : (agnI (nI c) (nI x) (nI y)).toInt.natAbs = w := by
      rw [← Int32.toInt_toInt64, A64]
      exact lNab (by omega) VE
    simp only [wp_X9_again_L110]
    rw [← hV]
    refine ⟨⟨w, 81, VE, rfl, by omega, by omega⟩, fun r20 f21 p => ?_⟩
    obtain ⟨u1, u2⟩ := p w 81 VE rfl (by omega) (by omega)
    have gp : 0 < Nat.gcd w 81 := Nat.gcd_pos_of_pos_right w (by omega)
    have gl : Nat.gcd w 81 ≤ 81 := Nat.gcd_le_right w (by omega)
    have nz : ¬ lN (Nat.gcd w 81) = 0 := by
      intro e
      have : lN (Nat.gcd w 81) = lN 0 := e
      rw [lN_eq (by omega) (by omega)] at this
      omega
    have e81 : (81 : Int32).toInt.natAbs = 81 := by decide
    have gpos : 0 < nI (Nat.gcd w 81) := nI_lt (a := 0) gp (by omega)
    have g64 : (nI (Nat.gcd w 81)).toInt64 = lN (Nat.gcd w 81) := nI_l (by omega)
    rw [u1, u2]
    unfold Post_X9_again
    rw [R]
    unfold frcI
    rw [An, e81]
    simp only [pL_iff]
    refine ⟨fun h6 => ⟨nz, ?_, frGM fr⟩, fun h6 => ⟨nz, ?_, frGM fr⟩⟩
    · rw [if_neg h6, div64 gpos, g64]; rfl
    · rw [if_pos h6, div64 gpos, g64, A64]
  simp only [lg_cmp_le]
  exact ⟨fun h6 => fin 0 (by rw [if_pos h6]), fun h6 => fin _ (by rw [if_neg h6])⟩
theorem fal_s2 (V : Vw) (n : Nat) : falL V (n + 1) = if canP V n = true then falL V n else falL V n ++ [vPl V (vT V (vW V 3 + nI n))] := rfl
theorem fal_l2 (V : Vw) : ∀ n, (falL V n).length ≤ n
  | 0 => Nat.le_refl _
  | n + 1 => by
    have := fal_l2 V n
    rw [fal_s2]
    by_cases h : canP V n = true
    · rw [if_pos h]; omega
    · rw [if_neg h, List.length_append]; simp; omega
theorem vc_X9_findFalls : vcS_X9_findFalls := by
  intro f0 a1 a2 hp
  obtain ⟨hd, h6, h60⟩ := hp
  have vv := VMt_v f0 (ix a1)
  have vE : ∃ V, V = VMt f0 (ix a1) := ⟨_, rfl⟩
  obtain ⟨V, hV⟩ := vE
  simp only [wp_X9_findFalls, wp_X9_findFalls_L7]
  refine ⟨fun (f : Fn) (x1 x2 x3 : Int32) => x1 = a1 ∧ x2 = a2 ∧ (∀ a, ¬ a = 0 → ¬ a = 4 → ¬ a = 5 → f a = f0 a) ∧ (∀ j, (j < 4 ∨ j = 9 ∨ j = 10 ∨ j = 15 ∨ j = 16 ∨ j = 116 ∨ 17 < j) → f 0 j = f0 0 j) ∧ ∃ k : Nat, k ≤ 60 ∧ x3 = nI k ∧ (k = 0 ∨ k ≤ a2.toNatClampNeg) ∧ f 0 17 = nI (falL V k).length ∧ ∀ j, j < (falL V k).length → f 5 j = (falL V k).getD j 0, fun _ _ _ x3 => 100 - x3.toNatClampNeg, ⟨rfl, rfl, fun a h _ _ => up2_row _ _ _ _ _ h, fun j hj => up2_off _ _ (by omega), 0, by omega, rfl, Or.inl rfl, up2_at _ _ _ _, fun j hj => absurd hj (Nat.not_lt_zero _)⟩, ?_⟩
  rintro f x1 x2 x3 ⟨rfl, rfl, h1, h2, k, k60, rfl, hk, h5, h7⟩
  have e1 : f 1 = f0 1 := h1 1 (by decide) (by decide) (by decide)
  have e10 : f 0 10 = f0 0 10 := h2 10 (by decide)
  have eV : VMt f (ix x1) = V := by unfold VMt; rw [e1, e10, hV]; rfl
  simp only [wpb_X9_findFalls_L7, wp_X9_findFalls_L56]
  refine ⟨fun q => ?_, fun q => ⟨⟨by rw [e1]; exact hd, h6⟩, fun f3 p => ?_⟩⟩
  · have := tncLe q
    rw [nI_clamp (by omega)] at this
    have e : ix x2 = k := by show x2.toNatClampNeg = k; omega
    rw [pV_iff]
    refine ⟨h1, h2, ?_⟩
    rw [e, ← hV]
    exact ⟨h5, h7⟩
  · obtain ⟨p1, -, p3, -, p5, -, p7, -, -, -⟩ := toldE p
    rw [eV] at p5 p7
    have e15 : f 1 1 = vW V 3 := by rw [e1, hV, vv.2.2.2.2.2.2.2.1]
    rw [e15] at p5 p7
    have pc : Val_X9_isCaught f3 x1 = bI (canP V k) := p5
    have hk1 : k + 1 ≤ x2.toNatClampNeg := by
      have q' : nI k < x2 := Int32.not_le.mp q
      obtain ⟨j, j1, rfl⟩ := nI_of (x := x2) (by intro h; have := nI_pos (n := k) (by omega); grind)
      rw [nI_ltI (by omega) (by omega)] at q'
      rw [nI_clamp (by omega)]; omega
    have hk2 : k + 1 ≤ 60 := by
      have := tncLe (Int32.not_lt.mp h60)
      rw [tn60] at this
      omega
    have mm : 100 - (nI k + 1).toNatClampNeg < 100 - (nI k).toNatClampNeg := by
      rw [nI_1, nI_clamp (by omega), nI_clamp (by omega)]; omega
    have fl := fal_l2 V k
    have r17 : f3 0 17 = f 0 17 := p1.2 17 (by decide)
    have r5 : f3 5 = f 5 := p1.1 5 (by decide) (by decide)
    have g1 : ∀ a, ¬ a = 0 → ¬ a = 4 → ¬ a = 5 → f3 a = f0 a := fun a x y z => (p1.1 a x y).trans (h1 a x y z)
    have g2 : ∀ j, (j < 4 ∨ j = 9 ∨ j = 10 ∨ j = 15 ∨ j = 16 ∨ j = 116 ∨ 17 < j) → f3 0 j = f0 0 j := fun j hj => (p1.2 j (by omega)).trans (h2 j hj)
    refine ⟨⟨by rw [g1 1 (by decide) (by decide) (by decide)]; exact hd, h6⟩, fun h8 => ?_, fun h8 => ⟨?_, ?_⟩⟩
    · rw [pc] at h8
      have cc := bI_1 h8
      refine ⟨⟨trivial, trivial, g1, g2, k + 1, hk2, by rw [nI_1], Or.inr hk1, ?_, ?_⟩, mm⟩
      · rw [fal_s2, if_pos cc, r17]; exact h5
      · rw [fal_s2, if_pos cc, r5]; exact h7
    · rw [r17, h5]; exact vp_in_nI (by omega) (by omega)
    · rw [pc] at h8
      have cc : ¬ canP V k = true := by rw [bI_0 h8]; decide
      rw [r17, h5, nI_clamp (by omega)]
      refine ⟨⟨trivial, trivial, fun a x y z => ?_, fun j hj => ?_, k + 1, hk2, by rw [nI_1], Or.inr hk1, ?_, ?_⟩, mm⟩
      · rw [up2_row _ _ _ _ _ x, up2_row _ _ _ _ _ z]; exact g1 a x y z
      · rw [up2_off _ _ (by omega), up2_row _ _ _ _ _ (by decide)]; exact g2 j hj
      · rw [up2_at, fal_s2, if_neg cc, nI_1, List.length_append]; rfl
      · rw [fal_s2, if_neg cc]
        intro j hj
        rw [List.length_append] at hj
        rw [up2_row _ _ _ _ _ (by decide), up2_ap, if_pos rfl, r5, p7]
        by_cases e : j = (falL V k).length
        · rw [if_pos e, e]; simp
        · have : j < (falL V k).length := by simp at hj; omega
          rw [if_neg e, h7 j this, List.getD_eq_getElem?_getD, List.getD_eq_getElem?_getD, List.getElem?_append_left this]
theorem vc_X9_harmBy : vcS_X9_harmBy := by
  intro f0 a1 a2 hp
  obtain ⟨h6, h0, h60⟩ := hp
  simp only [wp_X9_harmBy, wp_X9_harmBy_L5]
  obtain ⟨n, n1, hn⟩ := nI_of (x := f0 0 17) h0
  have n60 : n ≤ 60 := by
    have : ¬ nI 60 < nI n := by rw [← hn]; exact h60
    rw [nI_ltI (by decide) (by omega)] at this
    omega
  refine ⟨fun (f : Fn) (x1 x2 : Int32) (x3 : Int64) (x5 : Int32) => f = f0 ∧ x1 = a1 ∧ x2 = a2 ∧ ∃ k : Nat, k ≤ n ∧ x5 = nI k ∧ x3 = (rowL (f0 5) k).foldl (fun s x => s + (hmM (f0 1) (ix a1) (absI (x - a2))).toInt64) 0, fun _ _ _ _ x5 => 100 - x5.toNatClampNeg, ⟨rfl, rfl, rfl, 0, by omega, rfl, rfl⟩, ?_⟩
  rintro f x1 x2 x3 x5 ⟨rfl, rfl, rfl, k, hk, rfl, rfl⟩
  simp only [wpb_X9_harmBy_L5, pL_iff]
  rw [hn, nI_leI (by omega) (by omega)]
  refine ⟨fun h => ?_, fun h => ⟨vp_in_nI (by omega) (by omega), h6, ⟨⟨trivial, trivial, trivial, k + 1, by omega, by rw [nI_1], ?_⟩, ?_⟩⟩⟩
  · have : k = n := by omega
    subst this
    refine ⟨?_, trivial⟩
    unfold Val_X9_harmBy
    rw [hn, show ix (nI k) = k from nI_clamp (by omega)]
  · rw [rowL_s, List.foldl_append, nI_clamp (by omega)]; rfl
  · rw [nI_1, nI_clamp (by omega), nI_clamp (by omega)]; omega
set_option maxHeartbeats 400000 in
theorem vc_X9_net : vcS_X9_net := by
  intro f0 a1 a2 a3 hp
  unfold Pre_X9_net at hp
  have h10 := (InvF hp).2
  have bad : ¬ (isF f0 a1 ∧ inP a2 1 60 ∧ inP a3 0 1) → wp_X9_net_L25 f0 (pI (Post_X9_net f0 a1 a2 a3)) := fun h => by
    have R : RE_net f0 a1 a2 a3 = er f0 1 := by unfold RE_net; rw [if_neg h]
    simp only [wp_X9_net_L25, pI_iff]
    exact ⟨pf1 f0, fun r f p => by unfold Post_X9_net; rw [R]; exact fi1 p⟩
  have sV : Val_X9_isSpan f0 a2 = if inP a2 1 60 then 1 else 0 := rfl
  simp only [wp_X9_net, in_0_1]
  refine ⟨fun h => bad fun q => isFw h q.1, fun h => ⟨fun h2 => bad fun q => (by rw [sV, if_pos q.2.1] at h2; cases h2), fun h2 => ⟨fun h3 => ?_, fun h3 => bad fun q => (by rw [if_pos q.2.2] at h3; cases h3)⟩⟩⟩
  obtain ⟨iF, v6, i0, i6, i7⟩ := isFv hp h
  have c2 : inP a2 1 60 := Classical.byContradiction fun hn => h2 (by rw [sV, if_neg hn])
  have c3 : inP a3 0 1 := Classical.byContradiction fun hn => h3 (if_neg hn)
  obtain ⟨-, -, -, -, q0, q1⟩ := fl3B hp.1 iF
  obtain ⟨F, hF⟩ : ∃ F, F = falL (VM (f0 1) (ix a1)) (ix a2) := ⟨_, rfl⟩
  have FB : ∀ x ∈ F, -159 ≤ x ∧ x ≤ 159 := by
    rw [hF, ← VMtE h10]; exact falB hp.1 _ _
  have FN : F.length ≤ 60 := by
    have := falN (VM (f0 1) (ix a1)) (ix a2)
    have t := tncLe c2.2
    rw [tn60] at t
    rw [hF]; show _ ≤ 60
    have : ix a2 = a2.toNatClampNeg := rfl
    omega
  obtain ⟨c, hc⟩ : ∃ c, c = fun net => hsumI (hmM (f0 1) (ix a1)) net F := ⟨_, rfl⟩
  have R : RE_net f0 a1 a2 a3 = if F = [] then er f0 2 else ((if a3 = 0 then (lstP c 398).1 else (lstP c 398).2), f0) := by
    unfold RE_net; rw [if_pos ⟨iF, c2, c3⟩, ← hF, ← hc]
  have cB : ∀ net, -99 ≤ net → net ≤ 299 → ∃ s : Nat, s < 100000 ∧ c net = nI s ∧ F.foldl (fun s x => s + (hmM (f0 1) (ix a1) (absI (x - net))).toInt64) 0 = lN s := fun net n0 n1 => by
    obtain ⟨s, s1, s2, s3⟩ := hsB (i := ix a1) q0 q1 n0 n1 F FB 0 (by omega)
    rw [hc]; exact ⟨s, by omega, s2, s3⟩
  generalize hN : (398 : Nat) = N at R
  have d1 : up2 (up2 f0 0 16 (hi64 (-1))) 0 116 (lo64 (-1)) 1 = f0 1 := by rw [up2_row _ _ _ _ _ (by decide), up2_row _ _ _ _ _ (by decide)]
  refine ⟨⟨by rw [d1]; exact hp.1, v6, Int32.not_lt.mpr c2.2⟩, fun f9 p => ?_⟩
  obtain ⟨p1, p2, p3, p4⟩ := p
  have eV : VMt (up2 (up2 f0 0 16 (hi64 (-1))) 0 116 (lo64 (-1))) (ix a1) = VM (f0 1) (ix a1) := by
    rw [VMtE (by rw [up2_off _ _ (by decide), up2_off _ _ (by decide)]; exact h10), d1]
  rw [eV, ← hF] at p3 p4
  simp only [wp_X9_net_L48]
  have fal : ∀ f : Fn, f 5 = f9 5 → f 0 17 = f9 0 17 → f 1 = f0 1 → ∀ net, Val_X9_harmBy f a1 net = F.foldl (fun s x => s + (hmM (f0 1) (ix a1) (absI (x - net))).toInt64) 0 := fun f e5 e17 e1 net => by
    unfold Val_X9_harmBy
    rw [e5, e17, e1, p3, show ix (nI F.length) = F.length from nI_clamp (by omega), rowL_of p4]
  have r9 : ∀ a, ¬ a = 0 → ¬ a = 4 → ¬ a = 5 → f9 a = f0 a := fun a x y z => by rw [p1 a x y z, up2_row _ _ _ _ _ x, up2_row _ _ _ _ _ x]
  refine ⟨fun (f : Fn) (x1 x3 x4 : Int32) => x1 = a1 ∧ x3 = a3 ∧ (∀ a, ¬ a = 0 → f a = f9 a) ∧ (∀ j, ¬ j = 15 → ¬ j = 16 → ¬ j = 116 → f 0 j = f9 0 j) ∧ ∃ k : Nat, k ≤ N + 1 ∧ x4 = -99 + nI k ∧ ((k = 0 ∧ mk64 (f 0 16) (f 0 116) = -1) ∨ ∃ q, k = q + 1 ∧ f 0 15 = (lstP c q).1 ∧ mk64 (f 0 16) (f 0 116) = (lstP c q).2.toInt64), fun _ _ _ x4 => 500 - (x4 + 99).toNatClampNeg, ⟨rfl, rfl, fun _ _ => rfl, fun _ _ _ _ => rfl, 0, by omega, by decide, Or.inl ⟨rfl, ?_⟩⟩, ?_⟩
  · rw [p2 16 (by decide), p2 116 (by decide), up2_at, up2_off _ _ (by decide), up2_at]; exact mk64_hl _
  rintro f x1 x3 x4 ⟨rfl, rfl, hf, hf0, k, hk, rfl, hx⟩
  have rM : eqM f0 f := by
    have r : ∀ a, ¬ a = 0 → ¬ a = 4 → ¬ a = 5 → f a = f0 a := fun a x y z => (hf a x).trans (r9 a x y z)
    have s : ∀ j, j = 2 ∨ j = 10 ∨ j = 20 → f 0 j = f0 0 j := fun j hj => by
      rw [hf0 j (by omega) (by omega) (by omega), p2 j (by omega), up2_off _ _ (by omega), up2_off _ _ (by omega)]
    exact ⟨r 1 (by decide) (by decide) (by decide), r 2 (by decide) (by decide) (by decide), r 3 (by decide) (by decide) (by decide), r 6 (by decide) (by decide) (by decide), r 7 (by decide) (by decide) (by decide), r 8 (by decide) (by decide) (by decide), r 9 (by decide) (by decide) (by decide), s 2 (by omega), s 10 (by omega), s 20 (by omega)⟩
  have e17 : f 0 17 = nI F.length := by rw [hf0 17 (by decide) (by decide) (by decide), p3]
  simp only [wpb_X9_net_L48, wp_X9_net_L84, wp_X9_net_L96, lg_cmp_lt, lg_cmp_ge]
  have x4e : -99 + nI k + 99 = nI k := by grind
  refine ⟨fun h4 => ?_, fun h4 => ?_⟩
  · have kN : k = N + 1 := by
      have : ¬ k ≤ 398 := fun hle => by
        have b1 : nI k ≤ 398 := nI_le (b := 398) hle (by omega)
        have b0 : 0 ≤ nI k := Int32.not_lt.mp (nI_pos (by omega))
        grind
      omega
    subst kN
    rcases hx with ⟨e, -⟩ | ⟨q, e, h15, h16⟩
    · omega
    · have qN : q = N := by omega
      subst qN
      rw [e17, h15, h16]
      refine ⟨fun h5 => ?_, fun h5 => ⟨pf2 _, fun r f p => ?_⟩⟩
      · have nF : ¬ F = [] := fun e => h5 (by rw [e]; rfl)
        rw [if_neg nF] at R
        refine ⟨fun h6 => ?_, fun h6 => ?_⟩
        · rw [pI_iff]; unfold Post_X9_net; rw [R, if_neg h6, Int32.toInt32_toInt64]; exact ⟨rfl, rM⟩
        · rw [pI_iff]; unfold Post_X9_net; rw [R, if_pos h6]; exact ⟨rfl, rM⟩
      · have nF : F = [] := by
          have : nI F.length = nI 0 := h5
          rw [nI_eq (by omega) (by omega)] at this
          exact List.eq_nil_of_length_eq_zero this
        rw [if_pos nF] at R
        rw [pI_iff]; unfold Post_X9_net; rw [R]; exact fin2 rM p
  · have kN : k ≤ N := by
      have b0 : 0 ≤ nI k := Int32.not_lt.mp (nI_pos (by omega))
      have b1 : nI k ≤ nI 399 := nI_le (by omega) (by omega)
      have : ¬ k = 399 := fun e => by rw [e] at h4; exact h4 (by decide)
      omega
    have b0 : 0 ≤ nI k := Int32.not_lt.mp (nI_pos (by omega))
    have b1 : nI k ≤ 398 := nI_le (b := 398) (by omega) (by omega)
    obtain ⟨s, sl, s1, s2⟩ := cB (-99 + nI k) (by grind) (by grind)
    have hb : Val_X9_harmBy f x1 (-99 + nI k) = lN s := by rw [fal f (hf 5 (by decide)) (hf0 17 (by decide) (by decide) (by decide)) ((hf 1 (by decide)).trans (r9 1 (by decide) (by decide) (by decide))), s2]
    have mm : 500 - (-99 + nI k + 1 + 99).toNatClampNeg < 500 - (-99 + nI k + 99).toNatClampNeg := by
      have : -99 + nI k + 1 + 99 = nI k + 1 := by grind
      rw [x4e, this, nI_1, nI_clamp (by omega), nI_clamp (by omega)]; omega
    have nx : -99 + nI k + 1 = -99 + nI (k + 1) := by rw [← nI_1]; grind
    have take : ((lstP c k).1 = -99 + nI k ∧ (lstP c k).2 = c (-99 + nI k)) → (True ∧ True ∧ (∀ a, ¬ a = 0 → up2 (up2 (up2 f 0 16 (hi64 (lN s))) 0 116 (lo64 (lN s))) 0 15 (-99 + nI k) a = f9 a) ∧ (∀ j, ¬ j = 15 → ¬ j = 16 → ¬ j = 116 → up2 (up2 (up2 f 0 16 (hi64 (lN s))) 0 116 (lo64 (lN s))) 0 15 (-99 + nI k) 0 j = f9 0 j) ∧ ∃ k2 : Nat, k2 ≤ N + 1 ∧ -99 + nI k + 1 = -99 + nI k2 ∧ ((k2 = 0 ∧ mk64 (up2 (up2 (up2 f 0 16 (hi64 (lN s))) 0 116 (lo64 (lN s))) 0 15 (-99 + nI k) 0 16) (up2 (up2 (up2 f 0 16 (hi64 (lN s))) 0 116 (lo64 (lN s))) 0 15 (-99 + nI k) 0 116) = -1) ∨ ∃ q, k2 = q + 1 ∧ up2 (up2 (up2 f 0 16 (hi64 (lN s))) 0 116 (lo64 (lN s))) 0 15 (-99 + nI k) 0 15 = (lstP c q).1 ∧ mk64 (up2 (up2 (up2 f 0 16 (hi64 (lN s))) 0 116 (lo64 (lN s))) 0 15 (-99 + nI k) 0 16) (up2 (up2 (up2 f 0 16 (hi64 (lN s))) 0 116 (lo64 (lN s))) 0 15 (-99 + nI k) 0 116) = (lstP c q).2.toInt64)) ∧ 500 - (-99 + nI k + 1 + 99).toNatClampNeg < 500 - (-99 + nI k + 99).toNatClampNeg := fun ⟨t1, t2⟩ => by
      refine ⟨⟨trivial, trivial, fun a x => ?_, fun j x y z => ?_, k + 1, by omega, nx, Or.inr ⟨k, rfl, ?_, ?_⟩⟩, mm⟩
      · rw [up2_row _ _ _ _ _ x, up2_row _ _ _ _ _ x, up2_row _ _ _ _ _ x]; exact hf a x
      · rw [up2_off _ _ x, up2_off _ _ z, up2_off _ _ y]; exact hf0 j x y z
      · rw [up2_at, t1]
      · rw [up2_off _ _ (by decide), up2_off _ _ (by decide), up2_at, up2_off _ _ (by decide), up2_at, mk64_hl, t2, s1, nI_l (by omega)]
    rw [hb]
    refine ⟨⟨v6, by rw [e17]; exact nI_pos (by omega), by
      rw [e17]; show ¬ nI 60 < _
      rw [nI_ltI (by decide) (by omega)]; omega⟩, fun h5 => ?_, fun h5 => ⟨fun h6 => ?_, fun h6 => ?_⟩⟩
    · rcases hx with ⟨e, -⟩ | ⟨q, e, h15, h16⟩
      · subst e; exact take ⟨rfl, rfl⟩
      · exfalso
        obtain ⟨s', sl', s1', s2'⟩ : ∃ s : Nat, s < 100000 ∧ (lstP c q).2 = nI s ∧ True := by
          have : ∀ q, q ≤ N → ∃ s : Nat, s < 100000 ∧ (lstP c q).2 = nI s ∧ True := fun q => by
            induction q with
            | zero => intro _; obtain ⟨s, a, b, -⟩ := cB (-99) (by decide) (by decide); exact ⟨s, a, b, trivial⟩
            | succ q ih =>
              intro hq
              rw [lst_s]
              by_cases cc : c (-99 + nI (q + 1)) < (lstP c q).2
              · rw [if_pos cc]
                have b0 : 0 ≤ nI (q + 1) := Int32.not_lt.mp (nI_pos (by omega))
                have b1 : nI (q + 1) ≤ 398 := nI_le (b := 398) (by omega) (by omega)
                obtain ⟨s, a, b, -⟩ := cB (-99 + nI (q + 1)) (by grind) (by grind); exact ⟨s, a, b, trivial⟩
              · rw [if_neg cc]; exact ih (by omega)
          exact this q (by omega)
        rw [h16, s1', nI_l (by omega)] at h5
        have : lN s' < lN 0 := h5
        rw [lN_lt (by omega) (by omega)] at this
        omega
    · rcases hx with ⟨e, e2⟩ | ⟨q, e, h15, h16⟩
      · exact absurd (by rw [e2]; decide) h5
      · subst e
        have nc : ¬ c (-99 + nI (q + 1)) < (lstP c q).2 := by
          rw [h16, ← nI_l (n := s) (by omega), ← s1, Int64.le_iff_toInt_le, Int32.toInt_toInt64, Int32.toInt_toInt64] at h6
          rw [Int32.lt_iff_toInt_lt]; omega
        refine ⟨⟨trivial, trivial, hf, hf0, q + 1 + 1, by omega, nx, Or.inr ⟨q + 1, rfl, ?_, ?_⟩⟩, mm⟩
        · rw [lst_s, if_neg nc]; exact h15
        · rw [lst_s, if_neg nc]; exact h16
    · rcases hx with ⟨e, e2⟩ | ⟨q, e, h15, h16⟩
      · exact absurd (by rw [e2]; decide) h5
      · subst e
        have nc : c (-99 + nI (q + 1)) < (lstP c q).2 := by
          rw [h16, ← nI_l (n := s) (by omega), ← s1, Int64.le_iff_toInt_le, Int32.toInt_toInt64, Int32.toInt_toInt64] at h6
          rw [Int32.lt_iff_toInt_lt]; omega
        exact take (by rw [lst_s, if_pos nc]; exact ⟨rfl, rfl⟩)
theorem VCt_m1 : VC_m1 := ⟨vc_X9_finds, vc_X9_in, vc_X9_held, vc_X9_isFlyer, vc_X9_of, vc_X9_sets, vc_X9_here, vc_X9_wrong, vc_X9_takes, vc_X9_nameOf, vc_X9_either, vc_X9_both, vc_X9_compared, vc_X9_sum, vc_X9_product, vc_X9_unit, vc_X9_worked, vc_X9_feed, vc_X9_text, vc_X9_textGives, vc_X9_law, vc_X9_isSwing, vc_X9_barOf, vc_X9_catcherAt, vc_X9_swing, vc_X9_bar, vc_X9_set, vc_X9_lagOf, vc_X9_holdsOf, vc_X9_harmOf, vc_X9_flyer, vc_X9_ofFlyer, vc_X9_become, vc_X9_above, vc_X9_as, vc_X9_turn, vc_X9_letsGo, vc_X9_size0, vc_X9_offNow, vc_X9_isTold, vc_X9_isCaught, vc_X9_fallHarm, vc_X9_goes, vc_X9_go, vc_X9_ticks, vc_X9_drawn, vc_X9_evenings, vc_X9_rest, vc_X9_isSoon, vc_X9_isSpan, vc_X9_then, vc_X9_findCan, vc_X9_can, vc_X9_casesAt, vc_X9_surestOf, vc_X9_surest, vc_X9_common, vc_X9_odds, vc_X9_hasNext, vc_X9_pumped, vc_X9_inStep, vc_X9_mend, vc_X9_again, vc_X9_findFalls, vc_X9_harmBy, vc_X9_net, trivial⟩
