set_option maxHeartbeats 400000 in
theorem vc_X4_change : vcS_X4_change := by
  unfold vcS_X4_change
  intros
  first
  | (simp only [wp_X4_change, pI_iff, pV_iff, pL_iff, Post_X4_change, Val_J9_max_7cf53, true_and, and_true]; done)
  | (simp only [wp_X4_change, pI_iff, pV_iff, pL_iff, Post_X4_change, Val_J9_max_7cf53]; (repeat' (first | apply And.intro | intro _)) <;> (first | rfl | assumption | (simp_all [absI, maxI, minI, remI, fmodI, kAb, lagI, holdsI, harmI, flT, isOfI, wthI, swV, swCh, isPartI, joinI, lvI, dgI, bI, heldI, hmM, abvI]; done) | ((try simp only [absI, maxI, minI, remI, fmodI, kAb, lagI, holdsI, harmI, flT, isOfI, wthI, swV, swCh, isPartI, joinI, lvI, dgI, bI, heldI, hmM, abvI] at *); (repeat' split) <;> (first | rfl | (simp_all; done) | (exfalso; simp only [Int32.lt_iff_toInt_lt, Int32.le_iff_toInt_le, Int64.lt_iff_toInt_lt, Int64.le_iff_toInt_le, ← Int32.toInt_inj, Int32.reduceToInt, not_and, not_or, Classical.not_not] at *; omega)))))

set_option maxHeartbeats 400000 in
theorem vc_J9_abs_0f7a4 : vcS_J9_abs_0f7a4 := by
  unfold vcS_J9_abs_0f7a4
  intros
  first
  | (simp only [wp_J9_abs_0f7a4, pI_iff, pV_iff, pL_iff, Val_J9_abs_0f7a4, true_and, and_true]; done)
  | (simp only [wp_J9_abs_0f7a4, pI_iff, pV_iff, pL_iff, Val_J9_abs_0f7a4]; (repeat' (first | apply And.intro | intro _)) <;> (first | rfl | assumption | (simp_all [absI, maxI, minI, remI, fmodI, kAb, lagI, holdsI, harmI, flT, isOfI, wthI, swV, swCh, isPartI, joinI, lvI, dgI, bI, heldI, hmM, abvI]; done) | ((try simp only [absI, maxI, minI, remI, fmodI, kAb, lagI, holdsI, harmI, flT, isOfI, wthI, swV, swCh, isPartI, joinI, lvI, dgI, bI, heldI, hmM, abvI] at *); (repeat' split) <;> (first | rfl | (simp_all; done) | (exfalso; simp only [Int32.lt_iff_toInt_lt, Int32.le_iff_toInt_le, Int64.lt_iff_toInt_lt, Int64.le_iff_toInt_le, ← Int32.toInt_inj, Int32.reduceToInt, not_and, not_or, Classical.not_not] at *; omega)))))

set_option maxHeartbeats 400000 in
theorem vc_J9_max_7cf53 : vcS_J9_max_7cf53 := by
  unfold vcS_J9_max_7cf53
  intros
  first
  | (simp only [wp_J9_max_7cf53, pI_iff, pV_iff, pL_iff, Val_J9_max_7cf53, true_and, and_true]; done)
  | (simp only [wp_J9_max_7cf53, pI_iff, pV_iff, pL_iff, Val_J9_max_7cf53]; (repeat' (first | apply And.intro | intro _)) <;> (first | rfl | assumption | (simp_all [absI, maxI, minI, remI, fmodI, kAb, lagI, holdsI, harmI, flT, isOfI, wthI, swV, swCh, isPartI, joinI, lvI, dgI, bI, heldI, hmM, abvI]; done) | ((try simp only [absI, maxI, minI, remI, fmodI, kAb, lagI, holdsI, harmI, flT, isOfI, wthI, swV, swCh, isPartI, joinI, lvI, dgI, bI, heldI, hmM, abvI] at *); (repeat' split) <;> (first | rfl | (simp_all; done) | (exfalso; simp only [Int32.lt_iff_toInt_lt, Int32.le_iff_toInt_le, Int64.lt_iff_toInt_lt, Int64.le_iff_toInt_le, ← Int32.toInt_inj, Int32.reduceToInt, not_and, not_or, Classical.not_not] at *; omega)))))

set_option maxHeartbeats 400000 in
theorem vc_J9_min_7cf53 : vcS_J9_min_7cf53 := by
  unfold vcS_J9_min_7cf53
  intros
  first
  | (simp only [wp_J9_min_7cf53, pI_iff, pV_iff, pL_iff, Val_J9_min_7cf53, true_and, and_true]; done)
  | (simp only [wp_J9_min_7cf53, pI_iff, pV_iff, pL_iff, Val_J9_min_7cf53]; (repeat' (first | apply And.intro | intro _)) <;> (first | rfl | assumption | (simp_all [absI, maxI, minI, remI, fmodI, kAb, lagI, holdsI, harmI, flT, isOfI, wthI, swV, swCh, isPartI, joinI, lvI, dgI, bI, heldI, hmM, abvI]; done) | ((try simp only [absI, maxI, minI, remI, fmodI, kAb, lagI, holdsI, harmI, flT, isOfI, wthI, swV, swCh, isPartI, joinI, lvI, dgI, bI, heldI, hmM, abvI] at *); (repeat' split) <;> (first | rfl | (simp_all; done) | (exfalso; simp only [Int32.lt_iff_toInt_lt, Int32.le_iff_toInt_le, Int64.lt_iff_toInt_lt, Int64.le_iff_toInt_le, ← Int32.toInt_inj, Int32.reduceToInt, not_and, not_or, Classical.not_not] at *; omega)))))

set_option maxHeartbeats 400000 in
theorem vc_X8_within : vcS_X8_within := by
  unfold vcS_X8_within
  intros
  first
  | (simp only [wp_X8_within, pI_iff, pV_iff, pL_iff, Val_X8_within, true_and, and_true]; done)
  | (simp only [wp_X8_within, pI_iff, pV_iff, pL_iff, Val_X8_within]; (repeat' (first | apply And.intro | intro _)) <;> (first | rfl | assumption | (simp_all [absI, maxI, minI, remI, fmodI, kAb, lagI, holdsI, harmI, flT, isOfI, wthI, swV, swCh, isPartI, joinI, lvI, dgI, bI, heldI, hmM, abvI]; done) | ((try simp only [absI, maxI, minI, remI, fmodI, kAb, lagI, holdsI, harmI, flT, isOfI, wthI, swV, swCh, isPartI, joinI, lvI, dgI, bI, heldI, hmM, abvI] at *); (repeat' split) <;> (first | rfl | (simp_all; done) | (exfalso; simp only [Int32.lt_iff_toInt_lt, Int32.le_iff_toInt_le, Int64.lt_iff_toInt_lt, Int64.le_iff_toInt_le, ← Int32.toInt_inj, Int32.reduceToInt, not_and, not_or, Classical.not_not] at *; omega)))))

set_option maxHeartbeats 400000 in
theorem vc_X0_kindAbove : vcS_X0_kindAbove := by
  unfold vcS_X0_kindAbove
  intros
  first
  | (simp only [wp_X0_kindAbove, pI_iff, pV_iff, pL_iff, Val_X0_kindAbove, true_and, and_true]; done)
  | (simp only [wp_X0_kindAbove, pI_iff, pV_iff, pL_iff, Val_X0_kindAbove]; (repeat' (first | apply And.intro | intro _)) <;> (first | rfl | assumption | (simp_all [absI, maxI, minI, remI, fmodI, kAb, lagI, holdsI, harmI, flT, isOfI, wthI, swV, swCh, isPartI, joinI, lvI, dgI, bI, heldI, hmM, abvI]; done) | ((try simp only [absI, maxI, minI, remI, fmodI, kAb, lagI, holdsI, harmI, flT, isOfI, wthI, swV, swCh, isPartI, joinI, lvI, dgI, bI, heldI, hmM, abvI] at *); (repeat' split) <;> (first | rfl | (simp_all; done) | (exfalso; simp only [Int32.lt_iff_toInt_lt, Int32.le_iff_toInt_le, Int64.lt_iff_toInt_lt, Int64.le_iff_toInt_le, ← Int32.toInt_inj, Int32.reduceToInt, not_and, not_or, Classical.not_not] at *; omega)))))

set_option maxHeartbeats 400000 in
theorem vc_X0_take : vcS_X0_take := by
  unfold vcS_X0_take
  intros
  first
  | (simp only [wp_X0_take, pI_iff, pV_iff, pL_iff, Post_X0_take, true_and, and_true]; done)
  | (simp only [wp_X0_take, pI_iff, pV_iff, pL_iff, Post_X0_take]; (repeat' (first | apply And.intro | intro _)) <;> (first | rfl | assumption | (simp_all [absI, maxI, minI, remI, fmodI, kAb, lagI, holdsI, harmI, flT, isOfI, wthI, swV, swCh, isPartI, joinI, lvI, dgI, bI, heldI, hmM, abvI]; done) | ((try simp only [absI, maxI, minI, remI, fmodI, kAb, lagI, holdsI, harmI, flT, isOfI, wthI, swV, swCh, isPartI, joinI, lvI, dgI, bI, heldI, hmM, abvI] at *); (repeat' split) <;> (first | rfl | (simp_all; done) | (exfalso; simp only [Int32.lt_iff_toInt_lt, Int32.le_iff_toInt_le, Int64.lt_iff_toInt_lt, Int64.le_iff_toInt_le, ← Int32.toInt_inj, Int32.reduceToInt, not_and, not_or, Classical.not_not] at *; omega)))))

set_option maxHeartbeats 400000 in
theorem vc_X0_begin : vcS_X0_begin := by
  unfold vcS_X0_begin
  intros
  first
  | (simp only [wp_X0_begin, pI_iff, pV_iff, pL_iff, Post_X0_begin, Post_X0_take, true_and, and_true]; done)
  | (simp only [wp_X0_begin, pI_iff, pV_iff, pL_iff, Post_X0_begin, Post_X0_take]; (repeat' (first | apply And.intro | intro _)) <;> (first | rfl | assumption | (simp_all [absI, maxI, minI, remI, fmodI, kAb, lagI, holdsI, harmI, flT, isOfI, wthI, swV, swCh, isPartI, joinI, lvI, dgI, bI, heldI, hmM, abvI]; done) | ((try simp only [absI, maxI, minI, remI, fmodI, kAb, lagI, holdsI, harmI, flT, isOfI, wthI, swV, swCh, isPartI, joinI, lvI, dgI, bI, heldI, hmM, abvI] at *); (repeat' split) <;> (first | rfl | (simp_all; done) | (exfalso; simp only [Int32.lt_iff_toInt_lt, Int32.le_iff_toInt_le, Int64.lt_iff_toInt_lt, Int64.le_iff_toInt_le, ← Int32.toInt_inj, Int32.reduceToInt, not_and, not_or, Classical.not_not] at *; omega)))))

set_option maxHeartbeats 400000 in
theorem vc_X0_lag : vcS_X0_lag := by
  unfold vcS_X0_lag
  intros
  first
  | (simp only [wp_X0_lag_L56, wp_X0_lag, pI_iff, pV_iff, pL_iff, Val_X0_lag, true_and, and_true]; done)
  | (simp only [wp_X0_lag_L56, wp_X0_lag, pI_iff, pV_iff, pL_iff, Val_X0_lag]; (repeat' (first | apply And.intro | intro _)) <;> (first | rfl | assumption | (simp_all [absI, maxI, minI, remI, fmodI, kAb, lagI, holdsI, harmI, flT, isOfI, wthI, swV, swCh, isPartI, joinI, lvI, dgI, bI, heldI, hmM, abvI]; done) | ((try simp only [absI, maxI, minI, remI, fmodI, kAb, lagI, holdsI, harmI, flT, isOfI, wthI, swV, swCh, isPartI, joinI, lvI, dgI, bI, heldI, hmM, abvI] at *); (repeat' split) <;> (first | rfl | (simp_all; done) | (exfalso; simp only [Int32.lt_iff_toInt_lt, Int32.le_iff_toInt_le, Int64.lt_iff_toInt_lt, Int64.le_iff_toInt_le, ← Int32.toInt_inj, Int32.reduceToInt, not_and, not_or, Classical.not_not] at *; omega)))))

set_option maxHeartbeats 400000 in
theorem vc_X0_holds : vcS_X0_holds := by
  unfold vcS_X0_holds
  intros
  first
  | (simp only [wp_X0_holds_L57, wp_X0_holds, pI_iff, pV_iff, pL_iff, Val_X0_holds, Val_J9_max_7cf53, true_and, and_true]; done)
  | (simp only [wp_X0_holds_L57, wp_X0_holds, pI_iff, pV_iff, pL_iff, Val_X0_holds, Val_J9_max_7cf53]; (repeat' (first | apply And.intro | intro _)) <;> (first | rfl | assumption | (simp_all [absI, maxI, minI, remI, fmodI, kAb, lagI, holdsI, harmI, flT, isOfI, wthI, swV, swCh, isPartI, joinI, lvI, dgI, bI, heldI, hmM, abvI]; done) | ((try simp only [absI, maxI, minI, remI, fmodI, kAb, lagI, holdsI, harmI, flT, isOfI, wthI, swV, swCh, isPartI, joinI, lvI, dgI, bI, heldI, hmM, abvI] at *); (repeat' split) <;> (first | rfl | (simp_all; done) | (exfalso; simp only [Int32.lt_iff_toInt_lt, Int32.le_iff_toInt_le, Int64.lt_iff_toInt_lt, Int64.le_iff_toInt_le, ← Int32.toInt_inj, Int32.reduceToInt, not_and, not_or, Classical.not_not] at *; omega)))))

set_option maxHeartbeats 400000 in
theorem vc_X0_harm : vcS_X0_harm := by
  unfold vcS_X0_harm
  intros
  first
  | (simp only [wp_X0_harm, pI_iff, pV_iff, pL_iff, Val_X0_harm, true_and, and_true]; done)
  | (simp only [wp_X0_harm, pI_iff, pV_iff, pL_iff, Val_X0_harm]; (repeat' (first | apply And.intro | intro _)) <;> (first | rfl | assumption | (simp_all [absI, maxI, minI, remI, fmodI, kAb, lagI, holdsI, harmI, flT, isOfI, wthI, swV, swCh, isPartI, joinI, lvI, dgI, bI, heldI, hmM, abvI]; done) | ((try simp only [absI, maxI, minI, remI, fmodI, kAb, lagI, holdsI, harmI, flT, isOfI, wthI, swV, swCh, isPartI, joinI, lvI, dgI, bI, heldI, hmM, abvI] at *); (repeat' split) <;> (first | rfl | (simp_all; done) | (exfalso; simp only [Int32.lt_iff_toInt_lt, Int32.le_iff_toInt_le, Int64.lt_iff_toInt_lt, Int64.le_iff_toInt_le, ← Int32.toInt_inj, Int32.reduceToInt, not_and, not_or, Classical.not_not] at *; omega)))))

set_option maxHeartbeats 400000 in
theorem vc_X4_takes : vcS_X4_takes := by
  unfold vcS_X4_takes
  intros
  first
  | (simp only [wp_X4_takes, pI_iff, pV_iff, pL_iff, Val_X4_takes, Val_X8_within, true_and, and_true]; done)
  | (simp only [wp_X4_takes, pI_iff, pV_iff, pL_iff, Val_X4_takes, Val_X8_within]; (repeat' (first | apply And.intro | intro _)) <;> (first | rfl | assumption | (simp_all [absI, maxI, minI, remI, fmodI, kAb, lagI, holdsI, harmI, flT, isOfI, wthI, swV, swCh, isPartI, joinI, lvI, dgI, bI, heldI, hmM, abvI]; done) | ((try simp only [absI, maxI, minI, remI, fmodI, kAb, lagI, holdsI, harmI, flT, isOfI, wthI, swV, swCh, isPartI, joinI, lvI, dgI, bI, heldI, hmM, abvI] at *); (repeat' split) <;> (first | rfl | (simp_all; done) | (exfalso; simp only [Int32.lt_iff_toInt_lt, Int32.le_iff_toInt_le, Int64.lt_iff_toInt_lt, Int64.le_iff_toInt_le, ← Int32.toInt_inj, Int32.reduceToInt, not_and, not_or, Classical.not_not] at *; omega)))))

set_option maxHeartbeats 400000 in
theorem vc_X1_isPart : vcS_X1_isPart := by
  unfold vcS_X1_isPart
  intros
  first
  | (simp only [wp_X1_isPart, pI_iff, pV_iff, pL_iff, Val_X1_isPart, true_and, and_true]; done)
  | (simp only [wp_X1_isPart, pI_iff, pV_iff, pL_iff, Val_X1_isPart]; (repeat' (first | apply And.intro | intro _)) <;> (first | rfl | assumption | (simp_all [absI, maxI, minI, remI, fmodI, kAb, lagI, holdsI, harmI, flT, isOfI, wthI, swV, swCh, isPartI, joinI, lvI, dgI, bI, heldI, hmM, abvI]; done) | ((try simp only [absI, maxI, minI, remI, fmodI, kAb, lagI, holdsI, harmI, flT, isOfI, wthI, swV, swCh, isPartI, joinI, lvI, dgI, bI, heldI, hmM, abvI] at *); (repeat' split) <;> (first | rfl | (simp_all; done) | (exfalso; simp only [Int32.lt_iff_toInt_lt, Int32.le_iff_toInt_le, Int64.lt_iff_toInt_lt, Int64.le_iff_toInt_le, ← Int32.toInt_inj, Int32.reduceToInt, not_and, not_or, Classical.not_not] at *; omega)))))

set_option maxHeartbeats 400000 in
theorem vc_X1_joined : vcS_X1_joined := by
  unfold vcS_X1_joined
  intros
  first
  | (simp only [wp_X1_joined, pI_iff, pV_iff, pL_iff, Val_X1_joined, true_and, and_true]; done)
  | (simp only [wp_X1_joined, pI_iff, pV_iff, pL_iff, Val_X1_joined]; (repeat' (first | apply And.intro | intro _)) <;> (first | rfl | assumption | (simp_all [absI, maxI, minI, remI, fmodI, kAb, lagI, holdsI, harmI, flT, isOfI, wthI, swV, swCh, isPartI, joinI, lvI, dgI, bI, heldI, hmM, abvI]; done) | ((try simp only [absI, maxI, minI, remI, fmodI, kAb, lagI, holdsI, harmI, flT, isOfI, wthI, swV, swCh, isPartI, joinI, lvI, dgI, bI, heldI, hmM, abvI] at *); (repeat' split) <;> (first | rfl | (simp_all; done) | (exfalso; simp only [Int32.lt_iff_toInt_lt, Int32.le_iff_toInt_le, Int64.lt_iff_toInt_lt, Int64.le_iff_toInt_le, ← Int32.toInt_inj, Int32.reduceToInt, not_and, not_or, Classical.not_not] at *; omega)))))

set_option maxHeartbeats 400000 in
theorem vc_X1_copy : vcS_X1_copy := by
  unfold vcS_X1_copy
  intros
  first
  | (simp only [wp_X1_copy, pI_iff, pV_iff, pL_iff, Post_X1_copy, Post_X1_take, true_and, and_true]; done)
  | (simp only [wp_X1_copy, pI_iff, pV_iff, pL_iff, Post_X1_copy, Post_X1_take]; (repeat' (first | apply And.intro | intro _)) <;> (first | rfl | assumption | (simp_all [absI, maxI, minI, remI, fmodI, kAb, lagI, holdsI, harmI, flT, isOfI, wthI, swV, swCh, isPartI, joinI, lvI, dgI, bI, heldI, hmM, abvI]; done) | ((try simp only [absI, maxI, minI, remI, fmodI, kAb, lagI, holdsI, harmI, flT, isOfI, wthI, swV, swCh, isPartI, joinI, lvI, dgI, bI, heldI, hmM, abvI] at *); (repeat' split) <;> (first | rfl | (simp_all; done) | (exfalso; simp only [Int32.lt_iff_toInt_lt, Int32.le_iff_toInt_le, Int64.lt_iff_toInt_lt, Int64.le_iff_toInt_le, ← Int32.toInt_inj, Int32.reduceToInt, not_and, not_or, Classical.not_not] at *; omega)))))

set_option maxHeartbeats 400000 in
theorem vc_X3_isMissing : vcS_X3_isMissing := by
  unfold vcS_X3_isMissing
  intros
  first
  | (simp only [wp_X3_isMissing, pI_iff, pV_iff, pL_iff, Val_X3_isMissing, true_and, and_true]; done)
  | (simp only [wp_X3_isMissing, pI_iff, pV_iff, pL_iff, Val_X3_isMissing]; (repeat' (first | apply And.intro | intro _)) <;> (first | rfl | assumption | (simp_all [absI, maxI, minI, remI, fmodI, kAb, lagI, holdsI, harmI, flT, isOfI, wthI, swV, swCh, isPartI, joinI, lvI, dgI, bI, heldI, hmM, abvI]; done) | ((try simp only [absI, maxI, minI, remI, fmodI, kAb, lagI, holdsI, harmI, flT, isOfI, wthI, swV, swCh, isPartI, joinI, lvI, dgI, bI, heldI, hmM, abvI] at *); (repeat' split) <;> (first | rfl | (simp_all; done) | (exfalso; simp only [Int32.lt_iff_toInt_lt, Int32.le_iff_toInt_le, Int64.lt_iff_toInt_lt, Int64.le_iff_toInt_le, ← Int32.toInt_inj, Int32.reduceToInt, not_and, not_or, Classical.not_not] at *; omega)))))

set_option maxHeartbeats 400000 in
theorem vc_X3_hasRow : vcS_X3_hasRow := by
  unfold vcS_X3_hasRow
  intros
  first
  | (simp only [wp_X3_hasRow, pI_iff, pV_iff, pL_iff, Val_X3_hasRow, true_and, and_true]; done)
  | (simp only [wp_X3_hasRow, pI_iff, pV_iff, pL_iff, Val_X3_hasRow]; (repeat' (first | apply And.intro | intro _)) <;> (first | rfl | assumption | (simp_all [absI, maxI, minI, remI, fmodI, kAb, lagI, holdsI, harmI, flT, isOfI, wthI, swV, swCh, isPartI, joinI, lvI, dgI, bI, heldI, hmM, abvI]; done) | ((try simp only [absI, maxI, minI, remI, fmodI, kAb, lagI, holdsI, harmI, flT, isOfI, wthI, swV, swCh, isPartI, joinI, lvI, dgI, bI, heldI, hmM, abvI] at *); (repeat' split) <;> (first | rfl | (simp_all; done) | (exfalso; simp only [Int32.lt_iff_toInt_lt, Int32.le_iff_toInt_le, Int64.lt_iff_toInt_lt, Int64.le_iff_toInt_le, ← Int32.toInt_inj, Int32.reduceToInt, not_and, not_or, Classical.not_not] at *; omega)))))

theorem vc_J9_floorMod_7cf53 : vcS_J9_floorMod_7cf53 := by
  intro f a1 a2 h
  unfold Pre_J9_floorMod_7cf53 at h
  simp only [wp_J9_floorMod_7cf53, Val_J9_floorMod_7cf53, pI_iff, fmodI, remI, and_true]
  refine ⟨h, fun h1 => ?_, fun h1 => ⟨fun h2 => ?_, fun h2 => ?_⟩⟩
  · exact (if_neg (fun q => Int32.not_lt.mpr h1 q.1)).symm
  · exact (if_neg (fun q => q.2 h2)).symm
  · exact (if_pos ⟨Int32.not_le.mp h1, h2⟩).symm
theorem vc_X0_copy : vcS_X0_copy := by
  intro o o2 f ho ho2
  simp only [wp_X0_copy, pV_iff, Post_X0_copy, cpr_1, cpr_s]
theorem vc_X4_copy : vcS_X4_copy := by
  intro o o2 f ho ho2
  simp only [wp_X4_copy, pV_iff, Post_X4_copy, cpr_1, cpr_s]
theorem vc_X4_placeAt : vcS_X4_placeAt := by
  intro o f a1 ho
  simp only [wp_X4_placeAt, pI_iff, Val_X4_placeAt, swV, and_true, Val_J9_abs_0f7a4, Val_J9_floorMod_7cf53, Pre_J9_floorMod_7cf53]
  refine ⟨fun h => ?_, fun h => ?_⟩
  · have h2 : ¬ f o 0 < 4 := Int32.not_lt.mpr h
    have h3 : ¬ f o 0 = 0 := fun q => by rw [q] at h; exact absurd h (by decide)
    exact ⟨h3, h3, by rw [if_neg h2]⟩
  · rw [if_pos (Int32.not_le.mp h)]
theorem vc_X3_write : vcS_X3_write := by
  intro o f a1 a2 ho hp
  have hb : (f o 2).toInt ≤ (40 : Nat) := by
    have := Int32.le_iff_toInt_le.mp hp
    simpa using this
  simp only [wp_X3_write_L46, wp_X3_write, pV_iff, Post_X3_write]
  refine ⟨fun h => ?_, fun h => ⟨fun h2 => ?_, fun h2 => ?_⟩⟩
  · rw [if_neg (fun q => absurd q.1 (Int32.not_le.mpr h))]
  · rw [if_neg (fun q => absurd q.2 (Int32.not_lt.mpr h2))]
  · have h0 : 0 ≤ a1 := Int32.not_lt.mp h
    have h3 : a1 < f o 2 := Int32.not_le.mp h2
    have hv := vp_lt h0 h3 hb
    rw [if_pos ⟨h0, h3⟩]
    refine ⟨fun h4 => ⟨fun h5 => ⟨hv, ?_⟩, fun h5 => ⟨hv, ?_⟩⟩, fun h4 => ⟨hv, ?_⟩⟩ <;> simp_all
theorem vc_X3_read : vcS_X3_read := by
  intro o f a1 ho hp
  have hb : (f o 2).toInt ≤ (40 : Nat) := by
    have := Int32.le_iff_toInt_le.mp hp
    simpa using this
  simp only [wp_X3_read, pI_iff, Val_X3_read, and_true]
  refine ⟨fun h => ?_, fun h => ⟨fun h2 => ?_, fun h2 => ?_⟩⟩
  · rw [if_neg (fun q => absurd q.1 (Int32.not_le.mpr h))]
  · rw [if_neg (fun q => absurd q.2 (Int32.not_lt.mpr h2))]
  · have h0 : 0 ≤ a1 := Int32.not_lt.mp h
    have h3 : a1 < f o 2 := Int32.not_le.mp h2
    exact ⟨vp_lt h0 h3 hb, by rw [if_pos ⟨h0, h3⟩]⟩
