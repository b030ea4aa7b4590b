
/-- a law of the class is what the bytes say: its constants, and its steps -/
def LawR (h s : Nat → Int32) (d : Nat → Int32) (u : Nat) : Prop := h 0 = (if u = 0 then 1 else 0) ∧ h 1 = lawLo u ∧ h 2 = lawHi u ∧
  ((d (90 + u) = 0 ∧ h 5 = 0) ∨ (0 < d (90 + u) ∧ ∃ xs : List Int32, xs = (pT (txb d u) (ix (d (90 + u)))).2.2 ∧ xs.length ≤ 50 ∧ h 5 = nI xs.length ∧ ∀ j, j < xs.length → s j = xs.getD j 0))
/-- a world of the class, from place B on, is a row of the memory -/
def WRel (f : Fn) (B : Nat) (d : Nat → Int32) : Prop :=
  (∀ j, j < 3 → f (B + 1) j = d (12 + j)) ∧ (∀ j, j < 3 → f (B + 2) j = d (15 + j)) ∧ f B 2 = d 5 ∧ f B 3 = d 6 ∧ f B 4 = d 7 ∧ f B 5 = d 1 ∧ f B 7 = d 0 ∧ f B 9 = d 9
  ∧ f B 12 = d 2 ∧ f B 13 = d 3 ∧ f B 14 = d 4 ∧ f B 15 = d 8 ∧ f B 17 = d 10
  ∧ (∀ i j, i < 6 → j < 4 → f (B + 4 + i) j = d (fl4 i + j)) ∧ (∀ j, j < 50 → f (B + 10) j = d (212 + j)) ∧ (∀ j, j < 20 → f (B + 17) j = d (92 + j))
  ∧ LawR (f (B + 11)) (f (B + 12)) d 0 ∧ LawR (f (B + 14)) (f (B + 15)) d 1
/-- the constants of a world's laws -/
def WCon (f : Fn) (B : Nat) : Prop := f (B + 11) 0 = 1 ∧ f (B + 11) 1 = 1 ∧ f (B + 11) 2 = 30 ∧ f (B + 14) 0 = 0 ∧ f (B + 14) 1 = -99 ∧ f (B + 14) 2 = 99
/-- the class and the reference agree -/
def Cpl (f g : Fn) : Prop := WRel f 1 (g 1) ∧ (g 0 2 = 0 ∨ WRel f 19 (g 2)) ∧ WCon f 19 ∧ f 0 7 = g 0 2 ∧ (∀ k, 1 ≤ k → k ≤ 5 → f 56 k = g 3 k)
  ∧ f 44 1 = g 0 20 ∧ (∀ j, nI j < g 0 20 → j < 40 → f 45 j = g 6 j)
  ∧ ∀ i, i < 4 → f (48 + 2 * i) 1 = g 7 i ∧ f (48 + 2 * i) 2 = g 8 i ∧ ∀ k, k < 40 → f (49 + 2 * i) k = g 9 (40 * i + k)
def cplPre (f : Fn) : Prop := ∃ g : Fn, Cpl f g ∧ InvM g

def Post_X8_error  (f : Fn) (a1 : Int32) (r : Int32) (f1 : Fn) : Prop := r = -1000000000 - a1 ∧ f1 = if inP a1 1 5 then up2 f 56 (ix a1) (f 56 (ix a1) + 1) else f
def Post_X8_orNone  (f : Fn) (a1 : Int32) (r : Int32) (f1 : Fn) : Prop := if a1 < 0 then Post_X8_error f 2 r f1 else r = a1 ∧ f1 = f
def Val_X8_sheetOf  (f : Fn) (a1 : Int32) : Option Nat := if inP a1 0 3 then some (48 + 2 * ix a1) else none
def Val_X8_isSpan  (f : Fn) (a1 : Int32) : Int32 := wthI a1 1 60
def Val_X8_isKindAndNumber  (f : Fn) (a1 : Int32) : Int32 := wthI a1 0 69
def Pre_X8_partOf  (f : Fn) (a1 : Int32) (a2 : Int32) (a3 : Int32) : Prop := 0 < a2 ∧ ¬ 1000 < a2
def Val_X8_partOf  (f : Fn) (a1 : Int32) (a2 : Int32) (a3 : Int32) : Int32 := if a3 = 0 then a1 / maxI 1 (gcdI (ix a2) (absI a1) a2) else a2 / maxI 1 (gcdI (ix a2) (absI a1) a2)
def Pre_X8_goToldAt (o : Nat) (f : Fn) (a2 : Int32) : Prop := ∃ i : Nat, i < 6 ∧ o = 5 + i
def Post_X8_goToldAt (o : Nat) (f : Fn) (a2 : Int32) (r : Int32) (f1 : Fn) : Prop := (let t := vT (VW f o) a2; let c := vCt (VW f o) a2; let hm := harmI (f o 0) (f o 3) (absI (vPl (VW f o) t - f 1 4)); let f2 := up2 f o 3 (minI 99 (f o 3 + 1));
  if c = true then r = 0 ∧ eqT (up2 f2 1 12 (minI 9999 (f 1 12 + 1))) f1 else r = 1 + hm ∧ eqT (up2 (up2 f2 1 13 (minI 9999 (f 1 13 + 1))) 1 14 (minI 99999 (f 1 14 + hm))) f1)
def Pre_X8_oneEvening  (f : Fn)  : Prop := ∃ g : Fn, Cpl f g ∧ InvM g ∧ g 1 1 ≤ 9987
def Post_X8_oneEvening  (f : Fn)  (f1 : Fn) : Prop := ∀ g : Fn, Cpl f g → InvM g → g 1 1 ≤ 9987 → Cpl f1 (eve1 g)
def Pre_X8_swing  (f : Fn) (a1 : Int32) (a2 : Int32) (a3 : Int32) : Prop := cplPre f
def Post_X8_swing  (f : Fn) (a1 : Int32) (a2 : Int32) (a3 : Int32) (r : Int32) (f1 : Fn) : Prop := ∀ g : Fn, Cpl f g → InvM g → r = (RE_swing g a1 a2 a3).1 ∧ Cpl f1 (RE_swing g a1 a2 a3).2
def Pre_X8_bar  (f : Fn) (a1 : Int32) (a2 : Int32) : Prop := cplPre f
def Post_X8_bar  (f : Fn) (a1 : Int32) (a2 : Int32) (r : Int32) (f1 : Fn) : Prop := ∀ g : Fn, Cpl f g → InvM g → r = (RE_bar g a1 a2).1 ∧ Cpl f1 (RE_bar g a1 a2).2
def Pre_X8_set  (f : Fn) (a1 : Int32) (a2 : Int32) : Prop := cplPre f
def Post_X8_set  (f : Fn) (a1 : Int32) (a2 : Int32) (r : Int32) (f1 : Fn) : Prop := ∀ g : Fn, Cpl f g → InvM g → r = (RE_set g a1 a2).1 ∧ Cpl f1 (RE_set g a1 a2).2
def Pre_X8_flyer  (f : Fn) (a1 : Int32) : Prop := cplPre f
def Post_X8_flyer  (f : Fn) (a1 : Int32) (r : Int32) (f1 : Fn) : Prop := ∀ g : Fn, Cpl f g → InvM g → r = (RE_flyer g a1).1 ∧ Cpl f1 (RE_flyer g a1).2
def Pre_X8_ofFlyer  (f : Fn) (a1 : Int32) (a2 : Int32) : Prop := cplPre f
def Post_X8_ofFlyer  (f : Fn) (a1 : Int32) (a2 : Int32) (r : Int32) (f1 : Fn) : Prop := ∀ g : Fn, Cpl f g → InvM g → r = (RE_ofFlyer g a1 a2).1 ∧ Cpl f1 (RE_ofFlyer g a1 a2).2
def Pre_X8_become  (f : Fn) (a1 : Int32) (a2 : Int32) : Prop := cplPre f
def Post_X8_become  (f : Fn) (a1 : Int32) (a2 : Int32) (r : Int32) (f1 : Fn) : Prop := ∀ g : Fn, Cpl f g → InvM g → r = (RE_become g a1 a2).1 ∧ Cpl f1 (RE_become g a1 a2).2
def Pre_X8_as  (f : Fn) (a1 : Int32) (a2 : Int32) : Prop := cplPre f
def Post_X8_as  (f : Fn) (a1 : Int32) (a2 : Int32) (r : Int32) (f1 : Fn) : Prop := ∀ g : Fn, Cpl f g → InvM g → r = (RE_as g a1 a2).1 ∧ Cpl f1 (RE_as g a1 a2).2
def Pre_X8_turn  (f : Fn) (a1 : Int32) (a2 : Int32) : Prop := cplPre f
def Post_X8_turn  (f : Fn) (a1 : Int32) (a2 : Int32) (r : Int32) (f1 : Fn) : Prop := ∀ g : Fn, Cpl f g → InvM g → r = (RE_turn g a1 a2).1 ∧ Cpl f1 (RE_turn g a1 a2).2
def Pre_X8_feed  (f : Fn) (a1 : Int64) (a2 : Int32) : Prop := cplPre f
def Post_X8_feed  (f : Fn) (a1 : Int64) (a2 : Int32) (r : Int32) (f1 : Fn) : Prop := ∀ g : Fn, Cpl f g → InvM g → r = (RE_feed g a1 a2).1 ∧ Cpl f1 (RE_feed g a1 a2).2
def Pre_X8_text  (f : Fn) (a1 : Int32) : Prop := cplPre f
def Post_X8_text  (f : Fn) (a1 : Int32) (r : Int32) (f1 : Fn) : Prop := ∀ g : Fn, Cpl f g → InvM g → r = (RE_text g a1).1 ∧ Cpl f1 (RE_text g a1).2
def Pre_X8_law  (f : Fn) (a1 : Int32) (a2 : Int32) (a3 : Int32) (a4 : Int32) : Prop := cplPre f
def Post_X8_law  (f : Fn) (a1 : Int32) (a2 : Int32) (a3 : Int32) (a4 : Int32) (r : Int32) (f1 : Fn) : Prop := ∀ g : Fn, Cpl f g → InvM g → r = (RE_law g a1 a2 a3 a4).1 ∧ Cpl f1 (RE_law g a1 a2 a3 a4).2
def Pre_X8_go  (f : Fn) (a1 : Int32) : Prop := cplPre f
def Post_X8_go  (f : Fn) (a1 : Int32) (r : Int32) (f1 : Fn) : Prop := ∀ g : Fn, Cpl f g → InvM g → r = (RE_go g a1).1 ∧ Cpl f1 (RE_go g a1).2
def Pre_X8_ticks  (f : Fn) (a1 : Int32) : Prop := cplPre f
def Post_X8_ticks  (f : Fn) (a1 : Int32) (r : Int32) (f1 : Fn) : Prop := ∀ g : Fn, Cpl f g → InvM g → r = (RE_ticks g a1).1 ∧ Cpl f1 (RE_ticks g a1).2
def Pre_X8_evenings  (f : Fn) (a1 : Int32) : Prop := cplPre f
def Post_X8_evenings  (f : Fn) (a1 : Int32) (r : Int32) (f1 : Fn) : Prop := ∀ g : Fn, Cpl f g → InvM g → r = (RE_evenings g a1).1 ∧ Cpl f1 (RE_evenings g a1).2
def Pre_X8_rest  (f : Fn)  : Prop := cplPre f
def Post_X8_rest  (f : Fn)  (r : Int32) (f1 : Fn) : Prop := ∀ g : Fn, Cpl f g → InvM g → r = (RE_rest g ).1 ∧ Cpl f1 (RE_rest g ).2
def Pre_X8_then  (f : Fn) (a1 : Int32) (a2 : Int32) (a3 : Int32) : Prop := cplPre f
def Post_X8_then  (f : Fn) (a1 : Int32) (a2 : Int32) (a3 : Int32) (r : Int32) (f1 : Fn) : Prop := ∀ g : Fn, Cpl f g → InvM g → r = (RE_then g a1 a2 a3).1 ∧ Cpl f1 (RE_then g a1 a2 a3).2
def Pre_X8_can  (f : Fn) (a1 : Int32) (a2 : Int32) (a3 : Int32) : Prop := cplPre f
def Post_X8_can  (f : Fn) (a1 : Int32) (a2 : Int32) (a3 : Int32) (r : Int32) (f1 : Fn) : Prop := ∀ g : Fn, Cpl f g → InvM g → r = (RE_can g a1 a2 a3).1 ∧ Cpl f1 (RE_can g a1 a2 a3).2
def Pre_X8_surest  (f : Fn) (a1 : Int32) (a2 : Int32) : Prop := cplPre f
def Post_X8_surest  (f : Fn) (a1 : Int32) (a2 : Int32) (r : Int32) (f1 : Fn) : Prop := ∀ g : Fn, Cpl f g → InvM g → r = (RE_surest g a1 a2).1 ∧ Cpl f1 (RE_surest g a1 a2).2
def Pre_X8_odds  (f : Fn) (a1 : Int32) (a2 : Int32) (a3 : Int32) : Prop := cplPre f
def Post_X8_odds  (f : Fn) (a1 : Int32) (a2 : Int32) (a3 : Int32) (r : Int32) (f1 : Fn) : Prop := ∀ g : Fn, Cpl f g → InvM g → r = (RE_odds g a1 a2 a3).1 ∧ Cpl f1 (RE_odds g a1 a2 a3).2
def Pre_X8_pumped  (f : Fn) (a1 : Int32) (a2 : Int32) : Prop := cplPre f
def Post_X8_pumped  (f : Fn) (a1 : Int32) (a2 : Int32) (r : Int32) (f1 : Fn) : Prop := ∀ g : Fn, Cpl f g → InvM g → r = (RE_pumped g a1 a2).1 ∧ Cpl f1 (RE_pumped g a1 a2).2
def Pre_X8_inStep  (f : Fn) (a1 : Int32) (a2 : Int32) : Prop := cplPre f
def Post_X8_inStep  (f : Fn) (a1 : Int32) (a2 : Int32) (r : Int32) (f1 : Fn) : Prop := ∀ g : Fn, Cpl f g → InvM g → r = (RE_inStep g a1 a2).1 ∧ Cpl f1 (RE_inStep g a1 a2).2
def Pre_X8_mend  (f : Fn) (a1 : Int32) (a2 : Int32) (a3 : Int32) (a4 : Int32) : Prop := cplPre f
def Post_X8_mend  (f : Fn) (a1 : Int32) (a2 : Int32) (a3 : Int32) (a4 : Int32) (r : Int32) (f1 : Fn) : Prop := ∀ g : Fn, Cpl f g → InvM g → r = (RE_mend g a1 a2 a3 a4).1 ∧ Cpl f1 (RE_mend g a1 a2 a3 a4).2
def Pre_X8_again  (f : Fn) (a1 : Int32) (a2 : Int32) (a3 : Int32) (a4 : Int32) (a5 : Int32) : Prop := cplPre f
def Post_X8_again  (f : Fn) (a1 : Int32) (a2 : Int32) (a3 : Int32) (a4 : Int32) (a5 : Int32) (r : Int64) (f1 : Fn) : Prop := ∀ g : Fn, Cpl f g → InvM g → r = (RE_again g a1 a2 a3 a4 a5).1 ∧ Cpl f1 (RE_again g a1 a2 a3 a4 a5).2
def Pre_X8_net  (f : Fn) (a1 : Int32) (a2 : Int32) (a3 : Int32) : Prop := cplPre f
def Post_X8_net  (f : Fn) (a1 : Int32) (a2 : Int32) (a3 : Int32) (r : Int32) (f1 : Fn) : Prop := ∀ g : Fn, Cpl f g → InvM g → r = (RE_net g a1 a2 a3).1 ∧ Cpl f1 (RE_net g a1 a2 a3).2
def Pre_X8_phases  (f : Fn) (a1 : Int32) (a2 : Int32) (a3 : Int32) : Prop := cplPre f
def Post_X8_phases  (f : Fn) (a1 : Int32) (a2 : Int32) (a3 : Int32) (r : Int32) (f1 : Fn) : Prop := ∀ g : Fn, Cpl f g → InvM g → r = (RE_phases g a1 a2 a3).1 ∧ Cpl f1 (RE_phases g a1 a2 a3).2
def Pre_X8_late  (f : Fn) (a1 : Int32) (a2 : Int32) : Prop := cplPre f
def Post_X8_late  (f : Fn) (a1 : Int32) (a2 : Int32) (r : Int32) (f1 : Fn) : Prop := ∀ g : Fn, Cpl f g → InvM g → r = (RE_late g a1 a2).1 ∧ Cpl f1 (RE_late g a1 a2).2
def Pre_X8_seed  (f : Fn) (a1 : Int32) : Prop := cplPre f
def Post_X8_seed  (f : Fn) (a1 : Int32) (r : Int32) (f1 : Fn) : Prop := ∀ g : Fn, Cpl f g → InvM g → r = (RE_seed g a1).1 ∧ Cpl f1 (RE_seed g a1).2
def Pre_X8_voice  (f : Fn) (a1 : Int32) (a2 : Int32) (a3 : Int32) : Prop := cplPre f
def Post_X8_voice  (f : Fn) (a1 : Int32) (a2 : Int32) (a3 : Int32) (r : Int32) (f1 : Fn) : Prop := ∀ g : Fn, Cpl f g → InvM g → r = (RE_voice g a1 a2 a3).1 ∧ Cpl f1 (RE_voice g a1 a2 a3).2
def Pre_X8_trace  (f : Fn) (a1 : Int32) : Prop := cplPre f
def Post_X8_trace  (f : Fn) (a1 : Int32) (r : Int32) (f1 : Fn) : Prop := ∀ g : Fn, Cpl f g → InvM g → r = (RE_trace g a1).1 ∧ Cpl f1 (RE_trace g a1).2
def Pre_X8_sheet  (f : Fn) (a1 : Int32) (a2 : Int32) (a3 : Int32) : Prop := cplPre f
def Post_X8_sheet  (f : Fn) (a1 : Int32) (a2 : Int32) (a3 : Int32) (r : Int32) (f1 : Fn) : Prop := ∀ g : Fn, Cpl f g → InvM g → r = (RE_sheet g a1 a2 a3).1 ∧ Cpl f1 (RE_sheet g a1 a2 a3).2
def Pre_X8_put  (f : Fn) (a1 : Int32) (a2 : Int32) (a3 : Int32) : Prop := cplPre f
def Post_X8_put  (f : Fn) (a1 : Int32) (a2 : Int32) (a3 : Int32) (r : Int32) (f1 : Fn) : Prop := ∀ g : Fn, Cpl f g → InvM g → r = (RE_put g a1 a2 a3).1 ∧ Cpl f1 (RE_put g a1 a2 a3).2
def Pre_X8_move  (f : Fn) (a1 : Int32) (a2 : Int32) (a3 : Int32) (a4 : Int32) (a5 : Int32) : Prop := cplPre f
def Post_X8_move  (f : Fn) (a1 : Int32) (a2 : Int32) (a3 : Int32) (a4 : Int32) (a5 : Int32) (r : Int32) (f1 : Fn) : Prop := ∀ g : Fn, Cpl f g → InvM g → r = (RE_move g a1 a2 a3 a4 a5).1 ∧ Cpl f1 (RE_move g a1 a2 a3 a4 a5).2
def Pre_X8_turns  (f : Fn) (a1 : Int32) : Prop := cplPre f
def Post_X8_turns  (f : Fn) (a1 : Int32) (r : Int32) (f1 : Fn) : Prop := ∀ g : Fn, Cpl f g → InvM g → r = (RE_turns g a1).1 ∧ Cpl f1 (RE_turns g a1).2
def Pre_X8_judge  (f : Fn) (a1 : Int32) : Prop := cplPre f
def Post_X8_judge  (f : Fn) (a1 : Int32) (r : Int32) (f1 : Fn) : Prop := ∀ g : Fn, Cpl f g → InvM g → r = (RE_judge g a1).1 ∧ Cpl f1 (RE_judge g a1).2
def Pre_X8_image  (f : Fn)  : Prop := cplPre f
def Post_X8_image  (f : Fn)  (r : Int32) (f1 : Fn) : Prop := ∀ g : Fn, Cpl f g → InvM g → r = (RE_image g ).1 ∧ Cpl f1 (RE_image g ).2
def Pre_X8_restore  (f : Fn)  : Prop := cplPre f
def Post_X8_restore  (f : Fn)  (r : Int32) (f1 : Fn) : Prop := ∀ g : Fn, Cpl f g → InvM g → r = (RE_restore g ).1 ∧ Cpl f1 (RE_restore g ).2
def Pre_X8_tell  (f : Fn) (a1 : Int32) : Prop := cplPre f
def Post_X8_tell  (f : Fn) (a1 : Int32) (r : Int32) (f1 : Fn) : Prop := ∀ g : Fn, Cpl f g → InvM g → r = (RE_tell g a1).1 ∧ Cpl f1 (RE_tell g a1).2
def Pre_X8_check  (f : Fn)  : Prop := cplPre f
def Post_X8_check  (f : Fn)  (r : Int32) (f1 : Fn) : Prop := ∀ g : Fn, Cpl f g → InvM g → r = (RE_check g ).1 ∧ Cpl f1 (RE_check g ).2
def Pre_X8_count  (f : Fn) (a1 : Int32) : Prop := cplPre f
def Post_X8_count  (f : Fn) (a1 : Int32) (r : Int32) (f1 : Fn) : Prop := ∀ g : Fn, Cpl f g → InvM g → r = (RE_count g a1).1 ∧ Cpl f1 (RE_count g a1).2
def Pre_X8_told  (f : Fn) (a1 : Int32) : Prop := cplPre f
def Post_X8_told  (f : Fn) (a1 : Int32) (r : Int32) (f1 : Fn) : Prop := ∀ g : Fn, Cpl f g → InvM g → r = (RE_told g a1).1 ∧ Cpl f1 (RE_told g a1).2
def wp_X8_error_L19   (f : Fn) (x1 : Int32) (post : Option Value → Fn → Prop) : Prop :=
  (post (some (.int ((-1000000000 : Int32) - x1))) f)
def wp_X8_error  (f : Fn) (a1 : Int32) (post : Option Value → Fn → Prop) : Prop :=
  (((Val_X8_within f a1 (1 : Int32) (5 : Int32)) = 0 → (wp_X8_error_L19   f a1 post)) ∧ (¬ (Val_X8_within f a1 (1 : Int32) (5 : Int32)) = 0 → (vp_in a1 6 ∧ (vp_in a1 6 ∧ (wp_X8_error_L19   (up2 f 56 a1.toNatClampNeg ((f 56 a1.toNatClampNeg) + (1 : Int32))) a1 post)))))
def wp_X8_orNone  (f : Fn) (a1 : Int32) (post : Option Value → Fn → Prop) : Prop :=
  ((0 ≤ a1 → (post (some (.int a1)) f)) ∧ (¬ 0 ≤ a1 → (∀ (r2 : Int32) (f3 : Fn), Post_X8_error f (2 : Int32) r2 f3 → (post (some (.int r2)) f3))))
def wp_X8_sheetOf (ad : Nat → Nat)  (f : Fn) (a1 : Int32) (post : Option Value → Fn → Prop) : Prop :=
  (((Val_X8_within f a1 (0 : Int32) (3 : Int32)) = 0 → (post (some .null) f)) ∧ (¬ (Val_X8_within f a1 (0 : Int32) (3 : Int32)) = 0 → (vp_in a1 4 ∧ (∀ k3 : Nat, ([48, 50, 52, 54] : List Nat)[a1.toNatClampNeg]? = some k3 → (post (some (.ref (ad k3))) f)))))
def wp_X8_isSpan  (f : Fn) (a1 : Int32) (post : Option Value → Fn → Prop) : Prop :=
  (((Val_X8_within f a1 (1 : Int32) (60 : Int32)) = 0 ∨ (Val_X8_within f a1 (1 : Int32) (60 : Int32)) = 1) ∧ (post (some (.int (Val_X8_within f a1 (1 : Int32) (60 : Int32)))) f))
def wp_X8_isKindAndNumber  (f : Fn) (a1 : Int32) (post : Option Value → Fn → Prop) : Prop :=
  (((Val_X8_within f a1 (0 : Int32) (69 : Int32)) = 0 ∨ (Val_X8_within f a1 (0 : Int32) (69 : Int32)) = 1) ∧ (post (some (.int (Val_X8_within f a1 (0 : Int32) (69 : Int32)))) f))
def wp_X8_partOf_L41   (f : Fn) (x0 : Int32) (x1 : Int32) (x2 : Int32) (x3 : Int32) (post : Option Value → Fn → Prop) : Prop :=
  ((¬ x2 = 0 → (¬ (Val_J9_max_7cf53 f (1 : Int32) x3) = 0 ∧ (post (some (.int (x1 / (Val_J9_max_7cf53 f (1 : Int32) x3)))) f))) ∧ (x2 = 0 → (¬ (Val_J9_max_7cf53 f (1 : Int32) x3) = 0 ∧ (post (some (.int (x0 / (Val_J9_max_7cf53 f (1 : Int32) x3)))) f))))
def wpb_X8_partOf_L11   (K11 : Fn → Int32 → Int32 → Int32 → Int32 → Int32 → Int32 → Prop) (f : Fn) (x0 : Int32) (x1 : Int32) (x2 : Int32) (x3 : Int32) (x4 : Int32) (x5 : Int32) (post : Option Value → Fn → Prop) : Prop :=
  ((x1 ≤ x5 → (wp_X8_partOf_L41   f x0 x1 x2 x3 post)) ∧ (¬ x1 ≤ x5 → ((x4 = 0 → (wp_X8_partOf_L41   f x0 x1 x2 x3 post)) ∧ (¬ x4 = 0 → (¬ x4 = 0 ∧ (K11 f x0 x1 x2 x4 (x3 - (x3 / x4) * x4) (x5 + (1 : Int32))))))))
def wp_X8_partOf_L11   (f : Fn) (x0 : Int32) (x1 : Int32) (x2 : Int32) (x3 : Int32) (x4 : Int32) (x5 : Int32) (post : Option Value → Fn → Prop) : Prop :=
  ∃ (I : Fn → Int32 → Int32 → Int32 → Int32 → Int32 → Int32 → Prop) (μ : Fn → Int32 → Int32 → Int32 → Int32 → Int32 → Int32 → Nat), I f x0 x1 x2 x3 x4 x5 ∧ ∀ (f : Fn) (x0 : Int32) (x1 : Int32) (x2 : Int32) (x3 : Int32) (x4 : Int32) (x5 : Int32), I f x0 x1 x2 x3 x4 x5 → wpb_X8_partOf_L11   (fun (f9 : Fn) (x09 : Int32) (x19 : Int32) (x29 : Int32) (x39 : Int32) (x49 : Int32) (x59 : Int32) => I f9 x09 x19 x29 x39 x49 x59 ∧ μ f9 x09 x19 x29 x39 x49 x59 < μ f x0 x1 x2 x3 x4 x5) f x0 x1 x2 x3 x4 x5 post
def wp_X8_partOf  (f : Fn) (a1 : Int32) (a2 : Int32) (a3 : Int32) (post : Option Value → Fn → Prop) : Prop :=
  (wp_X8_partOf_L11   f a1 a2 a3 (Val_J9_abs_0f7a4 f a1) a2 (0 : Int32) post)
def wp_X8_goToldAt (o : Nat) (f : Fn) (a2 : Int32) (post : Option Value → Fn → Prop) : Prop :=
  (∀ f1 : Fn, Post_X5_start o f f1 → (∀ (r3 : Int32) (f4 : Fn), Post_X5_isCaught f1 a2 r3 f4 → ((r3 = 0 → (post (some (.int ((1 : Int32) + (Val_X0_harm o f4 (Val_J9_abs_0f7a4 f4 ((f4 37 8) - (f4 1 4))))))) (up2 (up2 (up2 f4 o 3 (Val_J9_min_7cf53 f4 (99 : Int32) ((f4 o 3) + (1 : Int32)))) 1 13 (Val_J9_min_7cf53 (up2 f4 o 3 (Val_J9_min_7cf53 f4 (99 : Int32) ((f4 o 3) + (1 : Int32)))) (9999 : Int32) (((up2 f4 o 3 (Val_J9_min_7cf53 f4 (99 : Int32) ((f4 o 3) + (1 : Int32)))) 1 13) + (1 : Int32)))) 1 14 (Val_J9_min_7cf53 (up2 (up2 f4 o 3 (Val_J9_min_7cf53 f4 (99 : Int32) ((f4 o 3) + (1 : Int32)))) 1 13 (Val_J9_min_7cf53 (up2 f4 o 3 (Val_J9_min_7cf53 f4 (99 : Int32) ((f4 o 3) + (1 : Int32)))) (9999 : Int32) (((up2 f4 o 3 (Val_J9_min_7cf53 f4 (99 : Int32) ((f4 o 3) + (1 : Int32)))) 1 13) + (1 : Int32)))) (99999 : Int32) (((up2 f4 o 3 (Val_J9_min_7cf53 f4 (99 : Int32) ((f4 o 3) + (1 : Int32)))) 1 14) + (Val_X0_harm o f4 (Val_J9_abs_0f7a4 f4 ((f4 37 8) - (f4 1 4))))))))) ∧ (¬ r3 = 0 → (post (some (.int (0 : Int32))) (up2 (up2 f4 o 3 (Val_J9_min_7cf53 f4 (99 : Int32) ((f4 o 3) + (1 : Int32)))) 1 12 (Val_J9_min_7cf53 (up2 f4 o 3 (Val_J9_min_7cf53 f4 (99 : Int32) ((f4 o 3) + (1 : Int32)))) (9999 : Int32) (((up2 f4 o 3 (Val_J9_min_7cf53 f4 (99 : Int32) ((f4 o 3) + (1 : Int32)))) 1 12) + (1 : Int32)))))))))
def wp_X8_oneEvening_L52  (K2 : Fn → Int32 → Prop) (f : Fn) (x1 : Int32) (post : Option Value → Fn → Prop) : Prop :=
  (K2 f (x1 + (1 : Int32)))
def wpb_X8_oneEvening_L2   (K2 : Fn → Int32 → Prop) (f : Fn) (x1 : Int32) (post : Option Value → Fn → Prop) : Prop :=
  (((f 1 7) ≤ x1 → (post none (up2 f 1 5 ((f 1 5) + (12 : Int32))))) ∧ (¬ (f 1 7) ≤ x1 → (∀ (r2 : Int32) (f3 : Fn), Post_X7_draw f r2 f3 → ((Val_X7_flyerOf f3 x1 = none → (wp_X8_oneEvening_L52  K2 f3 x1 post)) ∧ (∀ k5 : Nat, Val_X7_flyerOf f3 x1 = some k5 → (isFl k5 ∧ (Pre_X8_goToldAt k5 f3 ((f3 1 5) + (r2 - (r2 / (12 : Int32)) * (12 : Int32))) ∧ (∀ (r9 : Int32) (f10 : Fn), Post_X8_goToldAt k5 f3 ((f3 1 5) + (r2 - (r2 / (12 : Int32)) * (12 : Int32))) r9 f10 → (wp_X8_oneEvening_L52  K2 f10 x1 post)))))))))
def wp_X8_oneEvening_L2   (f : Fn) (x1 : Int32) (post : Option Value → Fn → Prop) : Prop :=
  ∃ (I : Fn → Int32 → Prop) (μ : Fn → Int32 → Nat), I f x1 ∧ ∀ (f : Fn) (x1 : Int32), I f x1 → wpb_X8_oneEvening_L2   (fun (f9 : Fn) (x19 : Int32) => I f9 x19 ∧ μ f9 x19 < μ f x1) f x1 post
def wp_X8_oneEvening  (f : Fn)  (post : Option Value → Fn → Prop) : Prop :=
  (wp_X8_oneEvening_L2   f (0 : Int32) post)
def wp_X8_swing_L25   (f : Fn)  (post : Option Value → Fn → Prop) : Prop :=
  (∀ (r3 : Int32) (f4 : Fn), Post_X8_error f (1 : Int32) r3 f4 → (post (some (.int r3)) f4))
def wp_X8_swing  (f : Fn) (a1 : Int32) (a2 : Int32) (a3 : Int32) (post : Option Value → Fn → Prop) : Prop :=
  ((Val_X7_swingOf f a1 = none → (wp_X8_swing_L25   f  post)) ∧ (∀ k1 : Nat, Val_X7_swingOf f a1 = some k1 → (isSw k1 ∧ ((¬ (Val_X4_takes k1 f a2 a3) = 0 → (∀ (r8 : Int32) (f9 : Fn), Post_X4_change k1 f a2 a3 r8 f9 → (post (some (.int r8)) f9))) ∧ ((Val_X4_takes k1 f a2 a3) = 0 → (wp_X8_swing_L25   f  post))))))
def wp_X8_bar_L24   (f : Fn)  (post : Option Value → Fn → Prop) : Prop :=
  (∀ (r3 : Int32) (f4 : Fn), Post_X8_error f (1 : Int32) r3 f4 → (post (some (.int r3)) f4))
def wp_X8_bar  (f : Fn) (a1 : Int32) (a2 : Int32) (post : Option Value → Fn → Prop) : Prop :=
  ((Val_X7_swingOf f a1 = none → (wp_X8_bar_L24   f  post)) ∧ (∀ k1 : Nat, Val_X7_swingOf f a1 = some k1 → ((¬ (Val_X8_within f a2 (0 : Int32) (19999 : Int32)) = 0 → (isSw k1 ∧ (post (some (.int (Val_X4_placeAt k1 f a2))) f))) ∧ ((Val_X8_within f a2 (0 : Int32) (19999 : Int32)) = 0 → (wp_X8_bar_L24   f  post)))))
def wp_X8_set_L104   (f : Fn)  (post : Option Value → Fn → Prop) : Prop :=
  (∀ (r4 : Int32) (f5 : Fn), Post_X8_error f (1 : Int32) r4 f5 → (post (some (.int r4)) f5))
def wp_X8_set_L68   (f : Fn) (x1 : Int32) (x2 : Int32) (post : Option Value → Fn → Prop) : Prop :=
  ((¬ x1 = (2 : Int32) → (wp_X8_set_L104   f  post)) ∧ (x1 = (2 : Int32) → (((Val_X8_within f x2 (-99 : Int32) (299 : Int32)) = 0 → (wp_X8_set_L104   f  post)) ∧ (¬ (Val_X8_within f x2 (-99 : Int32) (299 : Int32)) = 0 → (post (some (.int (f 1 4))) (up2 f 1 4 x2))))))
def wp_X8_set_L34   (f : Fn) (x1 : Int32) (x2 : Int32) (post : Option Value → Fn → Prop) : Prop :=
  ((¬ x1 = (1 : Int32) → (wp_X8_set_L68   f x1 x2 post)) ∧ (x1 = (1 : Int32) → (((Val_X8_within f x2 (0 : Int32) (30 : Int32)) = 0 → (wp_X8_set_L68   f x1 x2 post)) ∧ (¬ (Val_X8_within f x2 (0 : Int32) (30 : Int32)) = 0 → (post (some (.int (f 1 3))) (up2 f 1 3 x2))))))
def wp_X8_set  (f : Fn) (a1 : Int32) (a2 : Int32) (post : Option Value → Fn → Prop) : Prop :=
  ((¬ a1 = 0 → (wp_X8_set_L34   f a1 a2 post)) ∧ (a1 = 0 → (((Val_X8_within f a2 (0 : Int32) (200 : Int32)) = 0 → (wp_X8_set_L34   f a1 a2 post)) ∧ (¬ (Val_X8_within f a2 (0 : Int32) (200 : Int32)) = 0 → (post (some (.int (f 1 2))) (up2 f 1 2 a2))))))
def wp_X8_flyer_L70   (f : Fn)  (post : Option Value → Fn → Prop) : Prop :=
  (post (some (.int ((f 1 7) - (1 : Int32)))) f)
def wp_X8_flyer  (f : Fn) (a1 : Int32) (post : Option Value → Fn → Prop) : Prop :=
  ((¬ (Val_X8_isKindAndNumber f a1) = 0 → (((f 1 7) < (6 : Int32) → ((Val_X7_flyerOf (up2 f 1 7 ((f 1 7) + (1 : Int32))) (((f 1 7) + (1 : Int32)) - (1 : Int32)) = none → (wp_X8_flyer_L70   (up2 f 1 7 ((f 1 7) + (1 : Int32)))  post)) ∧ (∀ k3 : Nat, Val_X7_flyerOf (up2 f 1 7 ((f 1 7) + (1 : Int32))) (((f 1 7) + (1 : Int32)) - (1 : Int32)) = some k3 → (isFl k3 ∧ (∀ f6 : Fn, Post_X0_begin k3 (up2 f 1 7 ((f 1 7) + (1 : Int32))) a1 f6 → (wp_X8_flyer_L70   f6  post)))))) ∧ (¬ (f 1 7) < (6 : Int32) → (∀ (r8 : Int32) (f9 : Fn), Post_X8_error f (4 : Int32) r8 f9 → (post (some (.int r8)) f9))))) ∧ ((Val_X8_isKindAndNumber f a1) = 0 → (∀ (r11 : Int32) (f12 : Fn), Post_X8_error f (1 : Int32) r11 f12 → (post (some (.int r11)) f12))))
def wp_X8_ofFlyer_L23   (f : Fn)  (post : Option Value → Fn → Prop) : Prop :=
  (∀ (r3 : Int32) (f4 : Fn), Post_X8_error f (1 : Int32) r3 f4 → (post (some (.int r3)) f4))
def wp_X8_ofFlyer  (f : Fn) (a1 : Int32) (a2 : Int32) (post : Option Value → Fn → Prop) : Prop :=
  ((Val_X7_flyerOf f a1 = none → (wp_X8_ofFlyer_L23   f  post)) ∧ (∀ k1 : Nat, Val_X7_flyerOf f a1 = some k1 → ((¬ (Val_X8_within f a2 (0 : Int32) (6 : Int32)) = 0 → ((a2 = (0 : Int32) → (isFl k1 ∧ (post (some (.int (f k1 0))) f))) ∧ (a2 = (1 : Int32) → (isFl k1 ∧ (post (some (.int (f k1 1))) f))) ∧ (a2 = (2 : Int32) → (isFl k1 ∧ (post (some (.int (f k1 2))) f))) ∧ (a2 = (3 : Int32) → (isFl k1 ∧ (post (some (.int (f k1 3))) f))) ∧ (a2 = (4 : Int32) → (isFl k1 ∧ (post (some (.int (Val_X0_lag k1 f))) f))) ∧ (a2 = (5 : Int32) → (isFl k1 ∧ (post (some (.int (Val_X0_holds k1 f (f 1 3)))) f))) ∧ (¬ a2 = (0 : Int32) ∧ ¬ a2 = (1 : Int32) ∧ ¬ a2 = (2 : Int32) ∧ ¬ a2 = (3 : Int32) ∧ ¬ a2 = (4 : Int32) ∧ ¬ a2 = (5 : Int32) → (isFl k1 ∧ (post (some (.int (Val_X0_harm k1 f (10 : Int32)))) f))))) ∧ ((Val_X8_within f a2 (0 : Int32) (6 : Int32)) = 0 → (wp_X8_ofFlyer_L23   f  post)))))
def wp_X8_become_L20   (f : Fn)  (post : Option Value → Fn → Prop) : Prop :=
  (∀ (r3 : Int32) (f4 : Fn), Post_X8_error f (1 : Int32) r3 f4 → (post (some (.int r3)) f4))
def wp_X8_become  (f : Fn) (a1 : Int32) (a2 : Int32) (post : Option Value → Fn → Prop) : Prop :=
  ((Val_X7_flyerOf f a1 = none → (wp_X8_become_L20   f  post)) ∧ (∀ k1 : Nat, Val_X7_flyerOf f a1 = some k1 → ((¬ (Val_X8_isKindAndNumber f a2) = 0 → (isFl k1 ∧ (∀ f8 : Fn, Post_X0_take k1 f a2 f8 → (post (some (.int (f k1 0))) f8)))) ∧ ((Val_X8_isKindAndNumber f a2) = 0 → (wp_X8_become_L20   f  post)))))
def wp_X8_as_L23   (f : Fn)  (post : Option Value → Fn → Prop) : Prop :=
  (∀ (r3 : Int32) (f4 : Fn), Post_X8_error f (1 : Int32) r3 f4 → (post (some (.int r3)) f4))
def wp_X8_as  (f : Fn) (a1 : Int32) (a2 : Int32) (post : Option Value → Fn → Prop) : Prop :=
  ((Val_X7_flyerOf f a1 = none → (wp_X8_as_L23   f  post)) ∧ (∀ k1 : Nat, Val_X7_flyerOf f a1 = some k1 → ((¬ (Val_X8_within f a2 (0 : Int32) (6 : Int32)) = 0 → (isFl k1 ∧ (Pre_X0_isOf k1 f a2 ∧ ((¬ (Val_X0_isOf k1 f a2) = 0 → (post (some (.int (f k1 1))) f)) ∧ ((Val_X0_isOf k1 f a2) = 0 → (∀ (r10 : Int32) (f11 : Fn), Post_X8_error f (5 : Int32) r10 f11 → (post (some (.int r10)) f11))))))) ∧ ((Val_X8_within f a2 (0 : Int32) (6 : Int32)) = 0 → (wp_X8_as_L23   f  post)))))
def wp_X8_turn_L22   (f : Fn)  (post : Option Value → Fn → Prop) : Prop :=
  (∀ (r3 : Int32) (f4 : Fn), Post_X8_error f (1 : Int32) r3 f4 → (post (some (.int r3)) f4))
def wp_X8_turn  (f : Fn) (a1 : Int32) (a2 : Int32) (post : Option Value → Fn → Prop) : Prop :=
  ((Val_X7_flyerOf f a1 = none → (wp_X8_turn_L22   f  post)) ∧ (∀ k1 : Nat, Val_X7_flyerOf f a1 = some k1 → ((¬ (Val_X8_within f a2 (1 : Int32) (3 : Int32)) = 0 → (isFl k1 ∧ (post (some (.int (f k1 2))) (up2 f k1 2 a2)))) ∧ ((Val_X8_within f a2 (1 : Int32) (3 : Int32)) = 0 → (wp_X8_turn_L22   f  post)))))
def wpb_X8_feed_L39   (K39 : Fn → Int64 → Int32 → Int32 → Prop) (f : Fn) (x1 : Int64) (x3 : Int32) (x4 : Int32) (post : Option Value → Fn → Prop) : Prop :=
  ((x3 ≤ x4 → (post (some (.int (f 1 9))) f)) ∧ (¬ x3 ≤ x4 → (∀ f4 : Fn, Post_X7_addByte f (((x1.toUInt64 >>> (((8 : Int32) * x4).toInt64.toUInt64 &&& Int64.toUInt64 63)).toInt64).toInt32 &&& (255 : Int32)) f4 → (K39 f4 x1 x3 (x4 + (1 : Int32))))))
def wp_X8_feed_L39   (f : Fn) (x1 : Int64) (x3 : Int32) (x4 : Int32) (post : Option Value → Fn → Prop) : Prop :=
  ∃ (I : Fn → Int64 → Int32 → Int32 → Prop) (μ : Fn → Int64 → Int32 → Int32 → Nat), I f x1 x3 x4 ∧ ∀ (f : Fn) (x1 : Int64) (x3 : Int32) (x4 : Int32), I f x1 x3 x4 → wpb_X8_feed_L39   (fun (f9 : Fn) (x19 : Int64) (x39 : Int32) (x49 : Int32) => I f9 x19 x39 x49 ∧ μ f9 x19 x39 x49 < μ f x1 x3 x4) f x1 x3 x4 post
def wp_X8_feed  (f : Fn) (a1 : Int64) (a2 : Int32) (post : Option Value → Fn → Prop) : Prop :=
  ((¬ (Val_X8_within f a2 (1 : Int32) (8 : Int32)) = 0 → (((f 1 9) ≤ ((50 : Int32) - a2) → (wp_X8_feed_L39   f a1 a2 (0 : Int32) post)) ∧ (¬ (f 1 9) ≤ ((50 : Int32) - a2) → (∀ (r6 : Int32) (f7 : Fn), Post_X8_error f (4 : Int32) r6 f7 → (post (some (.int r6)) f7))))) ∧ ((Val_X8_within f a2 (1 : Int32) (8 : Int32)) = 0 → (∀ (r9 : Int32) (f10 : Fn), Post_X8_error f (1 : Int32) r9 f10 → (post (some (.int r9)) f10))))
def wp_X8_text  (f : Fn) (a1 : Int32) (post : Option Value → Fn → Prop) : Prop :=
  ((Val_X7_lawOf f a1 = none → (∀ (r3 : Int32) (f4 : Fn), Post_X8_error f (1 : Int32) r3 f4 → (post (some (.int r3)) f4))) ∧ (∀ k1 : Nat, Val_X7_lawOf f a1 = some k1 → (Pre_X2_readTape f ∧ (∀ (r7 : Int32) (f8 : Fn), Post_X2_readTape f r7 f8 → ((r7 < 0 → (isLaw k1 ∧ (∀ f12 : Fn, Post_X1_take k1 43 (up2 f8 1 9 (0 : Int32)) (f8 42 2) f12 → (post (some (.int (1 : Int32))) f12)))) ∧ (¬ r7 < 0 → (post (some (.int ((-10 : Int32) - r7))) (up2 f8 1 9 (0 : Int32)))))))))
def wp_X8_law  (f : Fn) (a1 : Int32) (a2 : Int32) (a3 : Int32) (a4 : Int32) (post : Option Value → Fn → Prop) : Prop :=
  ((Val_X7_lawOf f a1 = none → (∀ (r3 : Int32) (f4 : Fn), Post_X8_error f (1 : Int32) r3 f4 → (post (some (.int r3)) f4))) ∧ (∀ k1 : Nat, Val_X7_lawOf f a1 = some k1 → (isLaw k1 ∧ (∀ (r7 : Int32) (f8 : Fn), Post_X1_gives k1 f a2 a3 a4 r7 f8 → (post (some (.int r7)) f8)))))
def wp_X8_go  (f : Fn) (a1 : Int32) (post : Option Value → Fn → Prop) : Prop :=
  ((Val_X7_flyerOf f a1 = none → (∀ (r3 : Int32) (f4 : Fn), Post_X8_error f (1 : Int32) r3 f4 → (post (some (.int r3)) f4))) ∧ (∀ k1 : Nat, Val_X7_flyerOf f a1 = some k1 → (isFl k1 ∧ (Pre_X8_goToldAt k1 f (f 1 5) ∧ (∀ (r8 : Int32) (f9 : Fn), Post_X8_goToldAt k1 f (f 1 5) r8 f9 → (post (some (.int r8)) f9))))))
def wp_X8_ticks  (f : Fn) (a1 : Int32) (post : Option Value → Fn → Prop) : Prop :=
  ((¬ (Val_X8_within f a1 (1 : Int32) (200 : Int32)) = 0 → ((((f 1 5) + a1) ≤ (9999 : Int32) → (post (some (.int ((f 1 5) + a1))) (up2 f 1 5 ((f 1 5) + a1)))) ∧ (¬ ((f 1 5) + a1) ≤ (9999 : Int32) → (∀ (r3 : Int32) (f4 : Fn), Post_X8_error f (3 : Int32) r3 f4 → (post (some (.int r3)) f4))))) ∧ ((Val_X8_within f a1 (1 : Int32) (200 : Int32)) = 0 → (∀ (r6 : Int32) (f7 : Fn), Post_X8_error f (1 : Int32) r6 f7 → (post (some (.int r6)) f7))))
def wpb_X8_evenings_L42   (K42 : Fn → Int32 → Int32 → Prop) (f : Fn) (x1 : Int32) (x2 : Int32) (post : Option Value → Fn → Prop) : Prop :=
  ((x1 ≤ x2 → (post (some (.int (f 1 12))) f)) ∧ (¬ x1 ≤ x2 → (Pre_X8_oneEvening f ∧ (∀ f5 : Fn, Post_X8_oneEvening f f5 → (K42 f5 x1 (x2 + (1 : Int32)))))))
def wp_X8_evenings_L42   (f : Fn) (x1 : Int32) (x2 : Int32) (post : Option Value → Fn → Prop) : Prop :=
  ∃ (I : Fn → Int32 → Int32 → Prop) (μ : Fn → Int32 → Int32 → Nat), I f x1 x2 ∧ ∀ (f : Fn) (x1 : Int32) (x2 : Int32), I f x1 x2 → wpb_X8_evenings_L42   (fun (f9 : Fn) (x19 : Int32) (x29 : Int32) => I f9 x19 x29 ∧ μ f9 x19 x29 < μ f x1 x2) f x1 x2 post
def wp_X8_evenings  (f : Fn) (a1 : Int32) (post : Option Value → Fn → Prop) : Prop :=
  ((¬ (Val_X8_within f a1 (1 : Int32) (40 : Int32)) = 0 → ((((f 1 5) + (a1 * (12 : Int32))) ≤ (9999 : Int32) → (wp_X8_evenings_L42   f a1 (0 : Int32) post)) ∧ (¬ ((f 1 5) + (a1 * (12 : Int32))) ≤ (9999 : Int32) → (∀ (r7 : Int32) (f8 : Fn), Post_X8_error f (3 : Int32) r7 f8 → (post (some (.int r7)) f8))))) ∧ ((Val_X8_within f a1 (1 : Int32) (40 : Int32)) = 0 → (∀ (r10 : Int32) (f11 : Fn), Post_X8_error f (1 : Int32) r10 f11 → (post (some (.int r10)) f11))))
def wp_X8_rest_L40  (K4 : Fn → Int32 → Int32 → Prop) (f : Fn) (x1 : Int32) (x2 : Int32) (post : Option Value → Fn → Prop) : Prop :=
  (K4 f x1 (x2 + (1 : Int32)))
def wpb_X8_rest_L4   (K4 : Fn → Int32 → Int32 → Prop) (f : Fn) (x1 : Int32) (x2 : Int32) (post : Option Value → Fn → Prop) : Prop :=
  (((f 1 7) ≤ x2 → (post (some (.int x1)) f)) ∧ (¬ (f 1 7) ≤ x2 → ((Val_X7_flyerOf f x2 = none → (wp_X8_rest_L40  K4 f x1 x2 post)) ∧ (∀ k2 : Nat, Val_X7_flyerOf f x2 = some k2 → (isFl k2 ∧ (wp_X8_rest_L40  K4 (up2 f k2 3 (0 : Int32)) (x1 + (f k2 3)) x2 post))))))
def wp_X8_rest_L4   (f : Fn) (x1 : Int32) (x2 : Int32) (post : Option Value → Fn → Prop) : Prop :=
  ∃ (I : Fn → Int32 → Int32 → Prop) (μ : Fn → Int32 → Int32 → Nat), I f x1 x2 ∧ ∀ (f : Fn) (x1 : Int32) (x2 : Int32), I f x1 x2 → wpb_X8_rest_L4   (fun (f9 : Fn) (x19 : Int32) (x29 : Int32) => I f9 x19 x29 ∧ μ f9 x19 x29 < μ f x1 x2) f x1 x2 post
def wp_X8_rest  (f : Fn)  (post : Option Value → Fn → Prop) : Prop :=
  (wp_X8_rest_L4   f (0 : Int32) (0 : Int32) post)
def wp_X8_then_L34   (f : Fn)  (post : Option Value → Fn → Prop) : Prop :=
  (∀ (r3 : Int32) (f4 : Fn), Post_X8_error f (1 : Int32) r3 f4 → (post (some (.int r3)) f4))
def wp_X8_then  (f : Fn) (a1 : Int32) (a2 : Int32) (a3 : Int32) (post : Option Value → Fn → Prop) : Prop :=
  ((Val_X7_flyerOf f a1 = none → (wp_X8_then_L34   f  post)) ∧ (∀ k1 : Nat, Val_X7_flyerOf f a1 = some k1 → (((Val_X8_within f a2 (0 : Int32) (60 : Int32)) = 0 → (wp_X8_then_L34   f  post)) ∧ (¬ (Val_X8_within f a2 (0 : Int32) (60 : Int32)) = 0 → ((¬ (Val_X8_within f a3 (0 : Int32) (4 : Int32)) = 0 → (isFl k1 ∧ (∀ f9 : Fn, Post_X5_start k1 f f9 → (∀ (r11 : Int32) (f12 : Fn), Post_X5_isCaught f9 ((f9 1 5) + a2) r11 f12 → ((a3 = (0 : Int32) → (post (some (.int (Val_X5_off f12 (0 : Int32)))) f12)) ∧ (a3 = (1 : Int32) → ((r11 = 0 → (post (some (.int (0 : Int32))) f12)) ∧ (¬ r11 = 0 → (post (some (.int (1 : Int32))) f12)))) ∧ (a3 = (2 : Int32) → (post (some (.int (f12 37 7))) f12)) ∧ (a3 = (3 : Int32) → (post (some (.int (f12 37 8))) f12)) ∧ (¬ a3 = (0 : Int32) ∧ ¬ a3 = (1 : Int32) ∧ ¬ a3 = (2 : Int32) ∧ ¬ a3 = (3 : Int32) → (post (some (.int (Val_X0_harm k1 f12 (Val_J9_abs_0f7a4 f12 ((f12 37 8) - (f12 1 4)))))) f12))))))) ∧ ((Val_X8_within f a3 (0 : Int32) (4 : Int32)) = 0 → (wp_X8_then_L34   f  post)))))))
def wp_X8_can_L31   (f : Fn)  (post : Option Value → Fn → Prop) : Prop :=
  (∀ (r3 : Int32) (f4 : Fn), Post_X8_error f (1 : Int32) r3 f4 → (post (some (.int r3)) f4))
def wp_X8_can  (f : Fn) (a1 : Int32) (a2 : Int32) (a3 : Int32) (post : Option Value → Fn → Prop) : Prop :=
  ((Val_X7_flyerOf f a1 = none → (wp_X8_can_L31   f  post)) ∧ (∀ k1 : Nat, Val_X7_flyerOf f a1 = some k1 → (((Val_X8_isSpan f a2) = 0 → (wp_X8_can_L31   f  post)) ∧ (¬ (Val_X8_isSpan f a2) = 0 → ((¬ (Val_X8_within f a3 (0 : Int32) (1 : Int32)) = 0 → (isFl k1 ∧ (∀ f9 : Fn, Post_X5_start k1 f f9 → ((¬ a3 = 0 → (∀ (r12 : Int32) (f13 : Fn), Post_X5_firstCaught f9 a2 r12 f13 → (∀ (r15 : Int32) (f16 : Fn), Post_X8_orNone f13 r12 r15 f16 → (post (some (.int r15)) f16)))) ∧ (a3 = 0 → (∀ (r18 : Int32) (f19 : Fn), Post_X5_howManyCaught f9 a2 r18 f19 → (post (some (.int r18)) f19))))))) ∧ ((Val_X8_within f a3 (0 : Int32) (1 : Int32)) = 0 → (wp_X8_can_L31   f  post)))))))
def wp_X8_surest_L20   (f : Fn)  (post : Option Value → Fn → Prop) : Prop :=
  (∀ (r3 : Int32) (f4 : Fn), Post_X8_error f (1 : Int32) r3 f4 → (post (some (.int r3)) f4))
def wp_X8_surest  (f : Fn) (a1 : Int32) (a2 : Int32) (post : Option Value → Fn → Prop) : Prop :=
  ((Val_X7_flyerOf f a1 = none → (wp_X8_surest_L20   f  post)) ∧ (∀ k1 : Nat, Val_X7_flyerOf f a1 = some k1 → ((¬ (Val_X8_isSpan f a2) = 0 → (isFl k1 ∧ (∀ f8 : Fn, Post_X5_start k1 f f8 → (∀ (r10 : Int32) (f11 : Fn), Post_X5_surestWait f8 a2 r10 f11 → (post (some (.int r10)) f11))))) ∧ ((Val_X8_isSpan f a2) = 0 → (wp_X8_surest_L20   f  post)))))
def wp_X8_odds_L34   (f : Fn)  (post : Option Value → Fn → Prop) : Prop :=
  (∀ (r3 : Int32) (f4 : Fn), Post_X8_error f (1 : Int32) r3 f4 → (post (some (.int r3)) f4))
def wp_X8_odds  (f : Fn) (a1 : Int32) (a2 : Int32) (a3 : Int32) (post : Option Value → Fn → Prop) : Prop :=
  ((Val_X7_flyerOf f a1 = none → (wp_X8_odds_L34   f  post)) ∧ (∀ k1 : Nat, Val_X7_flyerOf f a1 = some k1 → (((Val_X8_within f a2 (0 : Int32) (60 : Int32)) = 0 → (wp_X8_odds_L34   f  post)) ∧ (¬ (Val_X8_within f a2 (0 : Int32) (60 : Int32)) = 0 → ((¬ (Val_X8_within f a3 (0 : Int32) (1 : Int32)) = 0 → (isFl k1 ∧ (∀ f9 : Fn, Post_X5_start k1 f f9 → (∀ (r11 : Int32) (f12 : Fn), Post_X5_casesCaught f9 ((f9 1 5) + a2) r11 f12 → (Pre_X8_partOf f12 r11 (9 : Int32) a3 ∧ (post (some (.int (Val_X8_partOf f12 r11 (9 : Int32) a3))) f12)))))) ∧ ((Val_X8_within f a3 (0 : Int32) (1 : Int32)) = 0 → (wp_X8_odds_L34   f  post)))))))
def wp_X8_pumped_L20   (f : Fn)  (post : Option Value → Fn → Prop) : Prop :=
  (∀ (r3 : Int32) (f4 : Fn), Post_X8_error f (1 : Int32) r3 f4 → (post (some (.int r3)) f4))
def wp_X8_pumped  (f : Fn) (a1 : Int32) (a2 : Int32) (post : Option Value → Fn → Prop) : Prop :=
  ((Val_X7_flyerOf f a1 = none → (wp_X8_pumped_L20   f  post)) ∧ (∀ k1 : Nat, Val_X7_flyerOf f a1 = some k1 → ((¬ (Val_X8_isSpan f a2) = 0 → (isFl k1 ∧ (∀ f8 : Fn, Post_X5_start k1 f f8 → (Pre_X5_leastPumps f8 a2 ∧ (∀ (r11 : Int32) (f12 : Fn), Post_X5_leastPumps f8 a2 r11 f12 → (∀ (r14 : Int32) (f15 : Fn), Post_X8_orNone f12 r11 r14 f15 → (post (some (.int r14)) f15))))))) ∧ ((Val_X8_isSpan f a2) = 0 → (wp_X8_pumped_L20   f  post)))))
def wp_X8_inStep_L20   (f : Fn)  (post : Option Value → Fn → Prop) : Prop :=
  (∀ (r3 : Int32) (f4 : Fn), Post_X8_error f (1 : Int32) r3 f4 → (post (some (.int r3)) f4))
def wp_X8_inStep  (f : Fn) (a1 : Int32) (a2 : Int32) (post : Option Value → Fn → Prop) : Prop :=
  ((Val_X7_flyerOf f a1 = none → (wp_X8_inStep_L20   f  post)) ∧ (∀ k1 : Nat, Val_X7_flyerOf f a1 = some k1 → ((¬ (Val_X8_isSpan f a2) = 0 → (isFl k1 ∧ (∀ f8 : Fn, Post_X5_start k1 f f8 → (Pre_X5_leastSteps f8 a2 ∧ (∀ (r11 : Int32) (f12 : Fn), Post_X5_leastSteps f8 a2 r11 f12 → (∀ (r14 : Int32) (f15 : Fn), Post_X8_orNone f12 r11 r14 f15 → (post (some (.int r14)) f15))))))) ∧ ((Val_X8_isSpan f a2) = 0 → (wp_X8_inStep_L20   f  post)))))
def wp_X8_mend_L46   (f : Fn)  (post : Option Value → Fn → Prop) : Prop :=
  (∀ (r3 : Int32) (f4 : Fn), Post_X8_error f (1 : Int32) r3 f4 → (post (some (.int r3)) f4))
def wp_X8_mend  (f : Fn) (a1 : Int32) (a2 : Int32) (a3 : Int32) (a4 : Int32) (post : Option Value → Fn → Prop) : Prop :=
  ((Val_X7_flyerOf f a1 = none → (wp_X8_mend_L46   f  post)) ∧ (∀ k1 : Nat, Val_X7_flyerOf f a1 = some k1 → (((Val_X8_within f a2 (0 : Int32) (60 : Int32)) = 0 → (wp_X8_mend_L46   f  post)) ∧ (¬ (Val_X8_within f a2 (0 : Int32) (60 : Int32)) = 0 → (((Val_X8_within f a3 (0 : Int32) (9 : Int32)) = 0 → (wp_X8_mend_L46   f  post)) ∧ (¬ (Val_X8_within f a3 (0 : Int32) (9 : Int32)) = 0 → ((¬ (Val_X8_within f a4 (0 : Int32) (9 : Int32)) = 0 → (isFl k1 ∧ (∀ f10 : Fn, Post_X5_start k1 f f10 → (∀ f12 : Fn, Post_X5_fly f10 ((f10 1 5) + a2) (0 : Int32) f12 → (post (some (.int (((Val_X5_off f12 (0 : Int32)) - (((Val_X5_off f12 (0 : Int32)) * a3) / (10 : Int32))) - (((Val_X5_off f12 (0 : Int32)) * a4) / (10 : Int32))))) f12))))) ∧ ((Val_X8_within f a4 (0 : Int32) (9 : Int32)) = 0 → (wp_X8_mend_L46   f  post)))))))))
def wp_X8_again_L65   (f : Fn)  (post : Option Value → Fn → Prop) : Prop :=
  (∀ (r4 : Int32) (f5 : Fn), Post_X8_error f (1 : Int32) r4 f5 → (post (some (.long r4.toInt64)) f5))
def wp_X8_again_L53   (f : Fn) (x2 : Int32) (x3 : Int32) (x4 : Int32) (x5 : Int32) (s0 : Int32) (post : Option Value → Fn → Prop) : Prop :=
  (wp_X8_again_L65   f  post)
def wp_X8_again_L52   (f : Fn) (x2 : Int32) (x3 : Int32) (x4 : Int32) (x5 : Int32) (post : Option Value → Fn → Prop) : Prop :=
  (wp_X8_again_L53   f x2 x3 x4 x5 (0 : Int32) post)
def wp_X8_again_L53_1   (f : Fn) (x2 : Int32) (x3 : Int32) (x4 : Int32) (x5 : Int32) (px6 : Nat) (s0 : Int32) (post : Option Value → Fn → Prop) : Prop :=
  ((¬ s0 = 0 → (isFl px6 ∧ (∀ f13 : Fn, Post_X5_start px6 f f13 → (∀ (r15 : Int32) (f16 : Fn), Post_X5_surestWait f13 x2 r15 f16 → (∀ (r18 : Int32) (f19 : Fn), Post_X5_casesCaught f16 ((f13 1 5) + r15) r18 f19 → (Pre_X8_partOf f19 ((((9 : Int32) * r18) * x3) + (((9 : Int32) - r18) * ((Val_J9_max_7cf53 f19 (0 : Int32) ((r18 * x3) - (((9 : Int32) - r18) * x4))) - ((9 : Int32) * x4)))) (81 : Int32) x5 ∧ (post (some (.long (Val_X8_partOf f19 ((((9 : Int32) * r18) * x3) + (((9 : Int32) - r18) * ((Val_J9_max_7cf53 f19 (0 : Int32) ((r18 * x3) - (((9 : Int32) - r18) * x4))) - ((9 : Int32) * x4)))) (81 : Int32) x5).toInt64)) f19))))))) ∧ (s0 = 0 → (wp_X8_again_L65   f  post)))
def wp_X8_again_L52_1   (f : Fn) (x2 : Int32) (x3 : Int32) (x4 : Int32) (x5 : Int32) (px6 : Nat) (post : Option Value → Fn → Prop) : Prop :=
  (wp_X8_again_L53_1   f x2 x3 x4 x5 px6 (0 : Int32) post)
def wp_X8_again  (f : Fn) (a1 : Int32) (a2 : Int32) (a3 : Int32) (a4 : Int32) (a5 : Int32) (post : Option Value → Fn → Prop) : Prop :=
  ((Val_X7_flyerOf f a1 = none → (((Val_X8_isSpan f a2) = 0 → (wp_X8_again_L52   f a2 a3 a4 a5 post)) ∧ (¬ (Val_X8_isSpan f a2) = 0 → (((Val_X8_within f a3 (0 : Int32) (99 : Int32)) = 0 → (wp_X8_again_L52   f a2 a3 a4 a5 post)) ∧ (¬ (Val_X8_within f a3 (0 : Int32) (99 : Int32)) = 0 → (((Val_X8_within f a4 (0 : Int32) (99 : Int32)) = 0 → (wp_X8_again_L52   f a2 a3 a4 a5 post)) ∧ (¬ (Val_X8_within f a4 (0 : Int32) (99 : Int32)) = 0 → (((Val_X8_within f a5 (0 : Int32) (1 : Int32)) = 0 → (wp_X8_again_L52   f a2 a3 a4 a5 post)) ∧ (¬ (Val_X8_within f a5 (0 : Int32) (1 : Int32)) = 0 → (wp_X8_again_L53   f a2 a3 a4 a5 (1 : Int32) post)))))))))) ∧ (∀ k1 : Nat, Val_X7_flyerOf f a1 = some k1 → (((Val_X8_isSpan f a2) = 0 → (wp_X8_again_L52_1   f a2 a3 a4 a5 k1 post)) ∧ (¬ (Val_X8_isSpan f a2) = 0 → (((Val_X8_within f a3 (0 : Int32) (99 : Int32)) = 0 → (wp_X8_again_L52_1   f a2 a3 a4 a5 k1 post)) ∧ (¬ (Val_X8_within f a3 (0 : Int32) (99 : Int32)) = 0 → (((Val_X8_within f a4 (0 : Int32) (99 : Int32)) = 0 → (wp_X8_again_L52_1   f a2 a3 a4 a5 k1 post)) ∧ (¬ (Val_X8_within f a4 (0 : Int32) (99 : Int32)) = 0 → (((Val_X8_within f a5 (0 : Int32) (1 : Int32)) = 0 → (wp_X8_again_L52_1   f a2 a3 a4 a5 k1 post)) ∧ (¬ (Val_X8_within f a5 (0 : Int32) (1 : Int32)) = 0 → (wp_X8_again_L53_1   f a2 a3 a4 a5 k1 (1 : Int32) post)))))))))))
def wp_X8_net_L31   (f : Fn)  (post : Option Value → Fn → Prop) : Prop :=
  (∀ (r3 : Int32) (f4 : Fn), Post_X8_error f (1 : Int32) r3 f4 → (post (some (.int r3)) f4))
def wp_X8_net  (f : Fn) (a1 : Int32) (a2 : Int32) (a3 : Int32) (post : Option Value → Fn → Prop) : Prop :=
  ((Val_X7_flyerOf f a1 = none → (wp_X8_net_L31   f  post)) ∧ (∀ k1 : Nat, Val_X7_flyerOf f a1 = some k1 → (((Val_X8_isSpan f a2) = 0 → (wp_X8_net_L31   f  post)) ∧ (¬ (Val_X8_isSpan f a2) = 0 → ((¬ (Val_X8_within f a3 (0 : Int32) (1 : Int32)) = 0 → (isFl k1 ∧ (∀ f9 : Fn, Post_X5_start k1 f f9 → (Pre_X5_gatherFalls f9 a2 ∧ (∀ (r12 : Int32) (f13 : Fn), Post_X5_gatherFalls f9 a2 r12 f13 → ((¬ r12 = 0 → (Pre_X5_leastHarmPlace f13 ∧ ((¬ a3 = 0 → (Pre_X5_harmTogether f13 (Val_X5_leastHarmPlace f13) ∧ (post (some (.int (Val_X5_harmTogether f13 (Val_X5_leastHarmPlace f13)))) f13))) ∧ (a3 = 0 → (post (some (.int (Val_X5_leastHarmPlace f13))) f13))))) ∧ (r12 = 0 → (∀ (r19 : Int32) (f20 : Fn), Post_X8_error f13 (2 : Int32) r19 f20 → (post (some (.int r19)) f20))))))))) ∧ ((Val_X8_within f a3 (0 : Int32) (1 : Int32)) = 0 → (wp_X8_net_L31   f  post)))))))
def wp_X8_phases_L36   (f : Fn)  (post : Option Value → Fn → Prop) : Prop :=
  (∀ (r5 : Int32) (f6 : Fn), Post_X8_error f (1 : Int32) r5 f6 → (post (some (.int r5)) f6))
def wp_X8_phases_L86   (f : Fn) (x6 : Int32) (post : Option Value → Fn → Prop) : Prop :=
  (∀ (r21 : Int32) (f22 : Fn), Post_X8_orNone f x6 r21 f22 → (post (some (.int r21)) f22))
def wp_X8_phases  (f : Fn) (a1 : Int32) (a2 : Int32) (a3 : Int32) (post : Option Value → Fn → Prop) : Prop :=
  ((Val_X7_flyerOf f a1 = none → ((Val_X8_sheetOf f a2 = none → (wp_X8_phases_L36   f  post)) ∧ (∀ k3 : Nat, Val_X8_sheetOf f a2 = some k3 → (wp_X8_phases_L36   f  post)))) ∧ (∀ k1 : Nat, Val_X7_flyerOf f a1 = some k1 → ((Val_X8_sheetOf f a2 = none → (wp_X8_phases_L36   f  post)) ∧ (∀ k8 : Nat, Val_X8_sheetOf f a2 = some k8 → ((¬ (Val_X8_within f a3 (0 : Int32) (1 : Int32)) = 0 → (isSh k8 ∧ (((Val_X3_isMissing k8 f) = 0 → (isFl k1 ∧ (∀ f14 : Fn, Post_X5_start k1 f f14 → (Pre_X5_firstPhase k8 f14 (0 : Int32) ∧ (∀ (r17 : Int32) (f18 : Fn), Post_X5_firstPhase k8 f14 (0 : Int32) r17 f18 → ((a3 = 0 → (wp_X8_phases_L86   f18 r17 post)) ∧ (¬ a3 = 0 → ((0 ≤ r17 → (Pre_X5_howManyPhases k8 f18 ∧ (∀ (r26 : Int32) (f27 : Fn), Post_X5_howManyPhases k8 f18 r26 f27 → (post (some (.int r26)) f27)))) ∧ (¬ 0 ≤ r17 → (wp_X8_phases_L86   f18 r17 post)))))))))) ∧ (¬ (Val_X3_isMissing k8 f) = 0 → (∀ (r29 : Int32) (f30 : Fn), Post_X8_error f (2 : Int32) r29 f30 → (post (some (.int r29)) f30)))))) ∧ ((Val_X8_within f a3 (0 : Int32) (1 : Int32)) = 0 → (wp_X8_phases_L36   f  post)))))))
def wp_X8_late_L25   (f : Fn)  (post : Option Value → Fn → Prop) : Prop :=
  (∀ (r5 : Int32) (f6 : Fn), Post_X8_error f (1 : Int32) r5 f6 → (post (some (.int r5)) f6))
def wp_X8_late  (f : Fn) (a1 : Int32) (a2 : Int32) (post : Option Value → Fn → Prop) : Prop :=
  ((Val_X7_flyerOf f a1 = none → ((Val_X8_sheetOf f a2 = none → (wp_X8_late_L25   f  post)) ∧ (∀ k3 : Nat, Val_X8_sheetOf f a2 = some k3 → (wp_X8_late_L25   f  post)))) ∧ (∀ k1 : Nat, Val_X7_flyerOf f a1 = some k1 → ((Val_X8_sheetOf f a2 = none → (wp_X8_late_L25   f  post)) ∧ (∀ k8 : Nat, Val_X8_sheetOf f a2 = some k8 → (isSh k8 ∧ (((Val_X3_isMissing k8 f) = 0 → (isFl k1 ∧ (∀ f13 : Fn, Post_X5_start k1 f f13 → (Pre_X5_leastLag k8 f13 ∧ (∀ (r16 : Int32) (f17 : Fn), Post_X5_leastLag k8 f13 r16 f17 → (∀ (r19 : Int32) (f20 : Fn), Post_X8_orNone f17 r16 r19 f20 → (post (some (.int r19)) f20))))))) ∧ (¬ (Val_X3_isMissing k8 f) = 0 → (∀ (r22 : Int32) (f23 : Fn), Post_X8_error f (2 : Int32) r22 f23 → (post (some (.int r22)) f23)))))))))
def wp_X8_seed  (f : Fn) (a1 : Int32) (post : Option Value → Fn → Prop) : Prop :=
  (post (some (.int (f 1 15))) (up2 f 1 15 a1))
def wp_X8_voice_L24   (f : Fn)  (post : Option Value → Fn → Prop) : Prop :=
  (∀ (r3 : Int32) (f4 : Fn), Post_X8_error f (1 : Int32) r3 f4 → (post (some (.int r3)) f4))
def wp_X8_voice  (f : Fn) (a1 : Int32) (a2 : Int32) (a3 : Int32) (post : Option Value → Fn → Prop) : Prop :=
  ((Val_X7_flyerOf f a1 = none → (wp_X8_voice_L24   f  post)) ∧ (∀ k1 : Nat, Val_X7_flyerOf f a1 = some k1 → ((¬ (Val_X8_within f a2 (0 : Int32) (3 : Int32)) = 0 → (isFl k1 ∧ (Pre_X6_speak k1 f a1 a2 a3 ∧ (∀ (r9 : Int32) (f10 : Fn), Post_X6_speak k1 f a1 a2 a3 r9 f10 → (post (some (.int r9)) f10))))) ∧ ((Val_X8_within f a2 (0 : Int32) (3 : Int32)) = 0 → (wp_X8_voice_L24   f  post)))))
def wp_X8_trace  (f : Fn) (a1 : Int32) (post : Option Value → Fn → Prop) : Prop :=
  ((¬ (Val_X8_within f a1 (0 : Int32) ((f 44 1) - (1 : Int32))) = 0 → (post (some (.int (Val_X6_bodyAt f a1))) f)) ∧ ((Val_X8_within f a1 (0 : Int32) ((f 44 1) - (1 : Int32))) = 0 → (∀ (r2 : Int32) (f3 : Fn), Post_X8_error f (2 : Int32) r2 f3 → (post (some (.int r2)) f3))))
def wp_X8_sheet_L34   (f : Fn)  (post : Option Value → Fn → Prop) : Prop :=
  (∀ (r3 : Int32) (f4 : Fn), Post_X8_error f (1 : Int32) r3 f4 → (post (some (.int r3)) f4))
def wp_X8_sheet_L70   (f : Fn) (x2 : Int32) (x3 : Int32) (px4 : Nat) (post : Option Value → Fn → Prop) : Prop :=
  (isSh px4 ∧ (∀ f10 : Fn, Post_X3_begin px4 f x2 x3 f10 → (post (some (.int (1 : Int32))) f10)))
def wp_X8_sheet_L54   (f : Fn) (x2 : Int32) (x3 : Int32) (px4 : Nat) (post : Option Value → Fn → Prop) : Prop :=
  ((x2 = 0 → (wp_X8_sheet_L70   f x2 x3 px4 post)) ∧ (¬ x2 = 0 → ((x3 ≤ (40 : Int32) → (wp_X8_sheet_L70   f x2 x3 px4 post)) ∧ (¬ x3 ≤ (40 : Int32) → (∀ (r13 : Int32) (f14 : Fn), Post_X8_error f (1 : Int32) r13 f14 → (post (some (.int r13)) f14))))))
def wp_X8_sheet_L40   (f : Fn) (x2 : Int32) (x3 : Int32) (px4 : Nat) (post : Option Value → Fn → Prop) : Prop :=
  ((x2 = 0 → (wp_X8_sheet_L54   f x2 x3 px4 post)) ∧ (¬ x2 = 0 → ((0 ≤ x3 → (wp_X8_sheet_L54   f x2 x3 px4 post)) ∧ (¬ 0 ≤ x3 → (∀ (r17 : Int32) (f18 : Fn), Post_X8_error f (3 : Int32) r17 f18 → (post (some (.int r17)) f18))))))
def wp_X8_sheet  (f : Fn) (a1 : Int32) (a2 : Int32) (a3 : Int32) (post : Option Value → Fn → Prop) : Prop :=
  ((Val_X8_sheetOf f a1 = none → (wp_X8_sheet_L34   f  post)) ∧ (∀ k1 : Nat, Val_X8_sheetOf f a1 = some k1 → ((a2 = 0 → (wp_X8_sheet_L40   f a2 a3 k1 post)) ∧ (¬ a2 = 0 → ((a2 = (8 : Int32) → (wp_X8_sheet_L40   f a2 a3 k1 post)) ∧ (¬ a2 = (8 : Int32) → ((a2 = (16 : Int32) → (wp_X8_sheet_L40   f a2 a3 k1 post)) ∧ (¬ a2 = (16 : Int32) → ((a2 = (32 : Int32) → (wp_X8_sheet_L40   f a2 a3 k1 post)) ∧ (¬ a2 = (32 : Int32) → (wp_X8_sheet_L34   f  post)))))))))))
def wp_X8_put  (f : Fn) (a1 : Int32) (a2 : Int32) (a3 : Int32) (post : Option Value → Fn → Prop) : Prop :=
  ((Val_X8_sheetOf f a1 = none → (∀ (r3 : Int32) (f4 : Fn), Post_X8_error f (1 : Int32) r3 f4 → (post (some (.int r3)) f4))) ∧ (∀ k1 : Nat, Val_X8_sheetOf f a1 = some k1 → (isSh k1 ∧ (((Val_X3_isMissing k1 f) = 0 → ((¬ (Val_X8_within f a2 (0 : Int32) ((f k1 2) - (1 : Int32))) = 0 → (Pre_X3_write k1 f a2 a3 ∧ (∀ f10 : Fn, Post_X3_write k1 f a2 a3 f10 → (post (some (.int (1 : Int32))) f10)))) ∧ ((Val_X8_within f a2 (0 : Int32) ((f k1 2) - (1 : Int32))) = 0 → (∀ (r12 : Int32) (f13 : Fn), Post_X8_error f (1 : Int32) r12 f13 → (post (some (.int r12)) f13))))) ∧ (¬ (Val_X3_isMissing k1 f) = 0 → (∀ (r15 : Int32) (f16 : Fn), Post_X8_error f (2 : Int32) r15 f16 → (post (some (.int r15)) f16)))))))
def wp_X8_move_L24   (f : Fn)  (post : Option Value → Fn → Prop) : Prop :=
  (∀ (r5 : Int32) (f6 : Fn), Post_X8_error f (1 : Int32) r5 f6 → (post (some (.int r5)) f6))
def wp_X8_move_L46   (f : Fn)  (post : Option Value → Fn → Prop) : Prop :=
  (∀ (r12 : Int32) (f13 : Fn), Post_X8_error f (2 : Int32) r12 f13 → (post (some (.int r12)) f13))
def wp_X8_move_L94   (f : Fn)  (post : Option Value → Fn → Prop) : Prop :=
  (∀ (r19 : Int32) (f20 : Fn), Post_X8_error f (1 : Int32) r19 f20 → (post (some (.int r19)) f20))
def wp_X8_move  (f : Fn) (a1 : Int32) (a2 : Int32) (a3 : Int32) (a4 : Int32) (a5 : Int32) (post : Option Value → Fn → Prop) : Prop :=
  ((Val_X8_sheetOf f a1 = none → ((Val_X8_sheetOf f a3 = none → (wp_X8_move_L24   f  post)) ∧ (∀ k3 : Nat, Val_X8_sheetOf f a3 = some k3 → (wp_X8_move_L24   f  post)))) ∧ (∀ k1 : Nat, Val_X8_sheetOf f a1 = some k1 → ((Val_X8_sheetOf f a3 = none → (wp_X8_move_L24   f  post)) ∧ (∀ k8 : Nat, Val_X8_sheetOf f a3 = some k8 → (isSh k1 ∧ ((¬ (Val_X3_isMissing k1 f) = 0 → (wp_X8_move_L46   f  post)) ∧ ((Val_X3_isMissing k1 f) = 0 → (isSh k8 ∧ (((Val_X3_isMissing k8 f) = 0 → (((f k1 1) = (f k8 1) → (((Val_X3_hasRow k1 f a2 a5) = 0 → (wp_X8_move_L94   f  post)) ∧ (¬ (Val_X3_hasRow k1 f a2 a5) = 0 → ((¬ (Val_X3_hasRow k8 f a4 a5) = 0 → (¬ a2 < 0 ∧ (¬ a4 < 0 ∧ (¬ a5 < 0 ∧ (a2.toNatClampNeg + a5.toNatClampNeg ≤ 40 ∧ (a4.toNatClampNeg + a5.toNatClampNeg ≤ 40 ∧ (∀ f28 : Fn, f28 = (fun a => if a = (k8 + 1) then va_cpy (f (k1 + 1)) (f (k8 + 1)) a2.toNatClampNeg a4.toNatClampNeg a5.toNatClampNeg else f a) → (post (some (.int a5)) f28)))))))) ∧ ((Val_X3_hasRow k8 f a4 a5) = 0 → (wp_X8_move_L94   f  post)))))) ∧ (¬ (f k1 1) = (f k8 1) → (∀ (r30 : Int32) (f31 : Fn), Post_X8_error f (5 : Int32) r30 f31 → (post (some (.int r30)) f31))))) ∧ (¬ (Val_X3_isMissing k8 f) = 0 → (wp_X8_move_L46   f  post)))))))))))
def wpb_X8_turns_L31   (K31 : Fn → Nat → Int32 → Prop) (f : Fn) (px2 : Nat) (x3 : Int32) (post : Option Value → Fn → Prop) : Prop :=
  (isSh px2 ∧ (((f px2 2) ≤ x3 → (post (some (.int (f px2 2))) f)) ∧ (¬ (f px2 2) ≤ x3 → ((Val_X7_flyerOf f x3 = none → (post (some (.int x3)) f)) ∧ (∀ k10 : Nat, Val_X7_flyerOf f x3 = some k10 → (Pre_X3_read px2 f x3 ∧ ((¬ (Val_X8_within f (Val_X3_read px2 f x3) (1 : Int32) (3 : Int32)) = 0 → (Pre_X3_read px2 f x3 ∧ (isFl k10 ∧ (K31 (up2 f k10 2 (Val_X3_read px2 f x3)) px2 (x3 + (1 : Int32)))))) ∧ ((Val_X8_within f (Val_X3_read px2 f x3) (1 : Int32) (3 : Int32)) = 0 → (post (some (.int x3)) f)))))))))
def wp_X8_turns_L31   (f : Fn) (px2 : Nat) (x3 : Int32) (post : Option Value → Fn → Prop) : Prop :=
  ∃ (I : Fn → Nat → Int32 → Prop) (μ : Fn → Nat → Int32 → Nat), I f px2 x3 ∧ ∀ (f : Fn) (px2 : Nat) (x3 : Int32), I f px2 x3 → wpb_X8_turns_L31   (fun (f9 : Fn) (px29 : Nat) (x39 : Int32) => I f9 px29 x39 ∧ μ f9 px29 x39 < μ f px2 x3) f px2 x3 post
def wp_X8_turns  (f : Fn) (a1 : Int32) (post : Option Value → Fn → Prop) : Prop :=
  ((Val_X8_sheetOf f a1 = none → (∀ (r3 : Int32) (f4 : Fn), Post_X8_error f (1 : Int32) r3 f4 → (post (some (.int r3)) f4))) ∧ (∀ k1 : Nat, Val_X8_sheetOf f a1 = some k1 → (isSh k1 ∧ (((Val_X3_isMissing k1 f) = 0 → (wp_X8_turns_L31   f k1 (0 : Int32) post)) ∧ (¬ (Val_X3_isMissing k1 f) = 0 → (∀ (r16 : Int32) (f17 : Fn), Post_X8_error f (2 : Int32) r16 f17 → (post (some (.int r16)) f17)))))))
def wpb_X8_judge_L31   (K31 : Fn → Nat → Int32 → Prop) (f : Fn) (px2 : Nat) (x3 : Int32) (post : Option Value → Fn → Prop) : Prop :=
  (isSh px2 ∧ (((f px2 2) ≤ x3 → (((f 1 7) ≤ (f px2 2) → (post (some (.int (-1 : Int32))) f)) ∧ (¬ (f 1 7) ≤ (f px2 2) → (post (some (.int (f px2 2))) f)))) ∧ (¬ (f px2 2) ≤ x3 → ((Val_X7_flyerOf f x3 = none → (post (some (.int x3)) f)) ∧ (∀ k11 : Nat, Val_X7_flyerOf f x3 = some k11 → (Pre_X3_read px2 f x3 ∧ (isFl k11 ∧ (((Val_X3_read px2 f x3) = (f k11 3) → (K31 f px2 (x3 + (1 : Int32)))) ∧ (¬ (Val_X3_read px2 f x3) = (f k11 3) → (post (some (.int x3)) f))))))))))
def wp_X8_judge_L31   (f : Fn) (px2 : Nat) (x3 : Int32) (post : Option Value → Fn → Prop) : Prop :=
  ∃ (I : Fn → Nat → Int32 → Prop) (μ : Fn → Nat → Int32 → Nat), I f px2 x3 ∧ ∀ (f : Fn) (px2 : Nat) (x3 : Int32), I f px2 x3 → wpb_X8_judge_L31   (fun (f9 : Fn) (px29 : Nat) (x39 : Int32) => I f9 px29 x39 ∧ μ f9 px29 x39 < μ f px2 x3) f px2 x3 post
def wp_X8_judge  (f : Fn) (a1 : Int32) (post : Option Value → Fn → Prop) : Prop :=
  ((Val_X8_sheetOf f a1 = none → (∀ (r3 : Int32) (f4 : Fn), Post_X8_error f (1 : Int32) r3 f4 → (post (some (.int r3)) f4))) ∧ (∀ k1 : Nat, Val_X8_sheetOf f a1 = some k1 → (isSh k1 ∧ (((Val_X3_isMissing k1 f) = 0 → (wp_X8_judge_L31   f k1 (0 : Int32) post)) ∧ (¬ (Val_X3_isMissing k1 f) = 0 → (∀ (r16 : Int32) (f17 : Fn), Post_X8_error f (2 : Int32) r16 f17 → (post (some (.int r16)) f17)))))))
def wp_X8_image  (f : Fn)  (post : Option Value → Fn → Prop) : Prop :=
  (∀ f1 : Fn, Post_X7_copyA f f1 → (post (some (.int ((f1 0 7) + (1 : Int32)))) (up2 f1 0 7 ((f1 0 7) + (1 : Int32)))))
def wp_X8_restore  (f : Fn)  (post : Option Value → Fn → Prop) : Prop :=
  ((¬ (f 0 7) = 0 → (∀ f2 : Fn, Post_X7_copyB f f2 → (post (some (.int (f2 1 5))) f2))) ∧ ((f 0 7) = 0 → (∀ (r4 : Int32) (f5 : Fn), Post_X8_error f (2 : Int32) r4 f5 → (post (some (.int r4)) f5))))
def wp_X8_tell  (f : Fn) (a1 : Int32) (post : Option Value → Fn → Prop) : Prop :=
  (((f 1 17) < (20 : Int32) → (∀ f2 : Fn, Post_X7_addWaiting f a1 f2 → (post (some (.int (f2 1 17))) f2))) ∧ (¬ (f 1 17) < (20 : Int32) → (∀ (r4 : Int32) (f5 : Fn), Post_X8_error f (4 : Int32) r4 f5 → (post (some (.int r4)) f5))))
def wpb_X8_check_L18   (K18 : Fn → Int32 → Int32 → Prop) (f : Fn) (x1 : Int32) (x2 : Int32) (post : Option Value → Fn → Prop) : Prop :=
  ((x1 ≤ x2 → (post (some (.int (0 : Int32))) f)) ∧ (¬ x1 ≤ x2 → (((20 : Int32) ≤ x2 → (post (some (.int (0 : Int32))) f)) ∧ (¬ (20 : Int32) ≤ x2 → (vp_in x2 20 ∧ (((f 18 x2.toNatClampNeg) = (Val_X4_placeAt 2 f ((f 1 5) + x2)) → (K18 f x1 (x2 + (1 : Int32)))) ∧ (¬ (f 18 x2.toNatClampNeg) = (Val_X4_placeAt 2 f ((f 1 5) + x2)) → (post (some (.int ((1 : Int32) + x2))) f))))))))
def wp_X8_check_L18   (f : Fn) (x1 : Int32) (x2 : Int32) (post : Option Value → Fn → Prop) : Prop :=
  ∃ (I : Fn → Int32 → Int32 → Prop) (μ : Fn → Int32 → Int32 → Nat), I f x1 x2 ∧ ∀ (f : Fn) (x1 : Int32) (x2 : Int32), I f x1 x2 → wpb_X8_check_L18   (fun (f9 : Fn) (x19 : Int32) (x29 : Int32) => I f9 x19 x29 ∧ μ f9 x19 x29 < μ f x1 x2) f x1 x2 post
def wp_X8_check  (f : Fn)  (post : Option Value → Fn → Prop) : Prop :=
  (wp_X8_check_L18   (up2 f 1 17 (0 : Int32)) (f 1 17) (0 : Int32) post)
def wp_X8_count  (f : Fn) (a1 : Int32) (post : Option Value → Fn → Prop) : Prop :=
  ((a1 = (0 : Int32) → (post (some (.int (f 1 7))) f)) ∧ (a1 = (1 : Int32) → (post (some (.int (f 1 5))) f)) ∧ (a1 = (2 : Int32) → (post (some (.int (f 1 12))) f)) ∧ (a1 = (3 : Int32) → (post (some (.int (f 1 13))) f)) ∧ (a1 = (4 : Int32) → (post (some (.int (f 1 14))) f)) ∧ (a1 = (5 : Int32) → (post (some (.int (f 1 2))) f)) ∧ (a1 = (6 : Int32) → (post (some (.int (f 1 3))) f)) ∧ (a1 = (7 : Int32) → (post (some (.int (f 1 4))) f)) ∧ (a1 = (8 : Int32) → (post (some (.int (f 1 9))) f)) ∧ (a1 = (9 : Int32) → (post (some (.int (f 1 17))) f)) ∧ (a1 = (10 : Int32) → (post (some (.int (f 44 1))) f)) ∧ (a1 = (11 : Int32) → (post (some (.int (f 1 15))) f)) ∧ (¬ a1 = (0 : Int32) ∧ ¬ a1 = (1 : Int32) ∧ ¬ a1 = (2 : Int32) ∧ ¬ a1 = (3 : Int32) ∧ ¬ a1 = (4 : Int32) ∧ ¬ a1 = (5 : Int32) ∧ ¬ a1 = (6 : Int32) ∧ ¬ a1 = (7 : Int32) ∧ ¬ a1 = (8 : Int32) ∧ ¬ a1 = (9 : Int32) ∧ ¬ a1 = (10 : Int32) ∧ ¬ a1 = (11 : Int32) → (∀ (r2 : Int32) (f3 : Fn), Post_X8_error f (1 : Int32) r2 f3 → (post (some (.int r2)) f3))))
def wp_X8_told  (f : Fn) (a1 : Int32) (post : Option Value → Fn → Prop) : Prop :=
  ((¬ (Val_X8_within f a1 (1 : Int32) (5 : Int32)) = 0 → (vp_in a1 6 ∧ (post (some (.int (f 56 a1.toNatClampNeg))) f))) ∧ ((Val_X8_within f a1 (1 : Int32) (5 : Int32)) = 0 → (∀ (r3 : Int32) (f4 : Fn), Post_X8_error f (1 : Int32) r3 f4 → (post (some (.int r3)) f4))))
def vcS_X8_error : Prop := ∀  (f : Fn) (a1 : Int32), wp_X8_error f a1 (pI (Post_X8_error f a1))
def vcS_X8_orNone : Prop := ∀  (f : Fn) (a1 : Int32), wp_X8_orNone f a1 (pI (Post_X8_orNone f a1))
def vcS_X8_sheetOf : Prop := ∀ (ad : Nat → Nat)  (f : Fn) (a1 : Int32), wp_X8_sheetOf ad f a1 (pR ad (fun r9 f9 => r9 = Val_X8_sheetOf f a1 ∧ f9 = f))
def vcS_X8_isSpan : Prop := ∀  (f : Fn) (a1 : Int32), wp_X8_isSpan f a1 (pI (fun r9 f9 => r9 = Val_X8_isSpan f a1 ∧ f9 = f))
def vcS_X8_isKindAndNumber : Prop := ∀  (f : Fn) (a1 : Int32), wp_X8_isKindAndNumber f a1 (pI (fun r9 f9 => r9 = Val_X8_isKindAndNumber f a1 ∧ f9 = f))
def vcS_X8_partOf : Prop := ∀  (f : Fn) (a1 : Int32) (a2 : Int32) (a3 : Int32), Pre_X8_partOf f a1 a2 a3 → wp_X8_partOf f a1 a2 a3 (pI (fun r9 f9 => r9 = Val_X8_partOf f a1 a2 a3 ∧ f9 = f))
def vcS_X8_goToldAt : Prop := ∀ (o : Nat) (f : Fn) (a2 : Int32), isFl o → Pre_X8_goToldAt o f a2 → wp_X8_goToldAt o f a2 (pI (Post_X8_goToldAt o f a2))
def vcS_X8_oneEvening : Prop := ∀  (f : Fn) , Pre_X8_oneEvening f → wp_X8_oneEvening f (pV (Post_X8_oneEvening f))
def vcS_X8_swing : Prop := ∀  (f : Fn) (a1 : Int32) (a2 : Int32) (a3 : Int32), Pre_X8_swing f a1 a2 a3 → wp_X8_swing f a1 a2 a3 (pI (Post_X8_swing f a1 a2 a3))
def vcS_X8_bar : Prop := ∀  (f : Fn) (a1 : Int32) (a2 : Int32), Pre_X8_bar f a1 a2 → wp_X8_bar f a1 a2 (pI (Post_X8_bar f a1 a2))
def vcS_X8_set : Prop := ∀  (f : Fn) (a1 : Int32) (a2 : Int32), Pre_X8_set f a1 a2 → wp_X8_set f a1 a2 (pI (Post_X8_set f a1 a2))
def vcS_X8_flyer : Prop := ∀  (f : Fn) (a1 : Int32), Pre_X8_flyer f a1 → wp_X8_flyer f a1 (pI (Post_X8_flyer f a1))
def vcS_X8_ofFlyer : Prop := ∀  (f : Fn) (a1 : Int32) (a2 : Int32), Pre_X8_ofFlyer f a1 a2 → wp_X8_ofFlyer f a1 a2 (pI (Post_X8_ofFlyer f a1 a2))
def vcS_X8_become : Prop := ∀  (f : Fn) (a1 : Int32) (a2 : Int32), Pre_X8_become f a1 a2 → wp_X8_become f a1 a2 (pI (Post_X8_become f a1 a2))
def vcS_X8_as : Prop := ∀  (f : Fn) (a1 : Int32) (a2 : Int32), Pre_X8_as f a1 a2 → wp_X8_as f a1 a2 (pI (Post_X8_as f a1 a2))
def vcS_X8_turn : Prop := ∀  (f : Fn) (a1 : Int32) (a2 : Int32), Pre_X8_turn f a1 a2 → wp_X8_turn f a1 a2 (pI (Post_X8_turn f a1 a2))
def vcS_X8_feed : Prop := ∀  (f : Fn) (a1 : Int64) (a2 : Int32), Pre_X8_feed f a1 a2 → wp_X8_feed f a1 a2 (pI (Post_X8_feed f a1 a2))
def vcS_X8_text : Prop := ∀  (f : Fn) (a1 : Int32), Pre_X8_text f a1 → wp_X8_text f a1 (pI (Post_X8_text f a1))
def vcS_X8_law : Prop := ∀  (f : Fn) (a1 : Int32) (a2 : Int32) (a3 : Int32) (a4 : Int32), Pre_X8_law f a1 a2 a3 a4 → wp_X8_law f a1 a2 a3 a4 (pI (Post_X8_law f a1 a2 a3 a4))
def vcS_X8_go : Prop := ∀  (f : Fn) (a1 : Int32), Pre_X8_go f a1 → wp_X8_go f a1 (pI (Post_X8_go f a1))
def vcS_X8_ticks : Prop := ∀  (f : Fn) (a1 : Int32), Pre_X8_ticks f a1 → wp_X8_ticks f a1 (pI (Post_X8_ticks f a1))
def vcS_X8_evenings : Prop := ∀  (f : Fn) (a1 : Int32), Pre_X8_evenings f a1 → wp_X8_evenings f a1 (pI (Post_X8_evenings f a1))
def vcS_X8_rest : Prop := ∀  (f : Fn) , Pre_X8_rest f → wp_X8_rest f (pI (Post_X8_rest f))
def vcS_X8_then : Prop := ∀  (f : Fn) (a1 : Int32) (a2 : Int32) (a3 : Int32), Pre_X8_then f a1 a2 a3 → wp_X8_then f a1 a2 a3 (pI (Post_X8_then f a1 a2 a3))
def vcS_X8_can : Prop := ∀  (f : Fn) (a1 : Int32) (a2 : Int32) (a3 : Int32), Pre_X8_can f a1 a2 a3 → wp_X8_can f a1 a2 a3 (pI (Post_X8_can f a1 a2 a3))
def vcS_X8_surest : Prop := ∀  (f : Fn) (a1 : Int32) (a2 : Int32), Pre_X8_surest f a1 a2 → wp_X8_surest f a1 a2 (pI (Post_X8_surest f a1 a2))
def vcS_X8_odds : Prop := ∀  (f : Fn) (a1 : Int32) (a2 : Int32) (a3 : Int32), Pre_X8_odds f a1 a2 a3 → wp_X8_odds f a1 a2 a3 (pI (Post_X8_odds f a1 a2 a3))
def vcS_X8_pumped : Prop := ∀  (f : Fn) (a1 : Int32) (a2 : Int32), Pre_X8_pumped f a1 a2 → wp_X8_pumped f a1 a2 (pI (Post_X8_pumped f a1 a2))
def vcS_X8_inStep : Prop := ∀  (f : Fn) (a1 : Int32) (a2 : Int32), Pre_X8_inStep f a1 a2 → wp_X8_inStep f a1 a2 (pI (Post_X8_inStep f a1 a2))
def vcS_X8_mend : Prop := ∀  (f : Fn) (a1 : Int32) (a2 : Int32) (a3 : Int32) (a4 : Int32), Pre_X8_mend f a1 a2 a3 a4 → wp_X8_mend f a1 a2 a3 a4 (pI (Post_X8_mend f a1 a2 a3 a4))
def vcS_X8_again : Prop := ∀  (f : Fn) (a1 : Int32) (a2 : Int32) (a3 : Int32) (a4 : Int32) (a5 : Int32), Pre_X8_again f a1 a2 a3 a4 a5 → wp_X8_again f a1 a2 a3 a4 a5 (pL (Post_X8_again f a1 a2 a3 a4 a5))
def vcS_X8_net : Prop := ∀  (f : Fn) (a1 : Int32) (a2 : Int32) (a3 : Int32), Pre_X8_net f a1 a2 a3 → wp_X8_net f a1 a2 a3 (pI (Post_X8_net f a1 a2 a3))
def vcS_X8_phases : Prop := ∀  (f : Fn) (a1 : Int32) (a2 : Int32) (a3 : Int32), Pre_X8_phases f a1 a2 a3 → wp_X8_phases f a1 a2 a3 (pI (Post_X8_phases f a1 a2 a3))
def vcS_X8_late : Prop := ∀  (f : Fn) (a1 : Int32) (a2 : Int32), Pre_X8_late f a1 a2 → wp_X8_late f a1 a2 (pI (Post_X8_late f a1 a2))
def vcS_X8_seed : Prop := ∀  (f : Fn) (a1 : Int32), Pre_X8_seed f a1 → wp_X8_seed f a1 (pI (Post_X8_seed f a1))
def vcS_X8_voice : Prop := ∀  (f : Fn) (a1 : Int32) (a2 : Int32) (a3 : Int32), Pre_X8_voice f a1 a2 a3 → wp_X8_voice f a1 a2 a3 (pI (Post_X8_voice f a1 a2 a3))
def vcS_X8_trace : Prop := ∀  (f : Fn) (a1 : Int32), Pre_X8_trace f a1 → wp_X8_trace f a1 (pI (Post_X8_trace f a1))
def vcS_X8_sheet : Prop := ∀  (f : Fn) (a1 : Int32) (a2 : Int32) (a3 : Int32), Pre_X8_sheet f a1 a2 a3 → wp_X8_sheet f a1 a2 a3 (pI (Post_X8_sheet f a1 a2 a3))
def vcS_X8_put : Prop := ∀  (f : Fn) (a1 : Int32) (a2 : Int32) (a3 : Int32), Pre_X8_put f a1 a2 a3 → wp_X8_put f a1 a2 a3 (pI (Post_X8_put f a1 a2 a3))
def vcS_X8_move : Prop := ∀  (f : Fn) (a1 : Int32) (a2 : Int32) (a3 : Int32) (a4 : Int32) (a5 : Int32), Pre_X8_move f a1 a2 a3 a4 a5 → wp_X8_move f a1 a2 a3 a4 a5 (pI (Post_X8_move f a1 a2 a3 a4 a5))
def vcS_X8_turns : Prop := ∀  (f : Fn) (a1 : Int32), Pre_X8_turns f a1 → wp_X8_turns f a1 (pI (Post_X8_turns f a1))
def vcS_X8_judge : Prop := ∀  (f : Fn) (a1 : Int32), Pre_X8_judge f a1 → wp_X8_judge f a1 (pI (Post_X8_judge f a1))
def vcS_X8_image : Prop := ∀  (f : Fn) , Pre_X8_image f → wp_X8_image f (pI (Post_X8_image f))
def vcS_X8_restore : Prop := ∀  (f : Fn) , Pre_X8_restore f → wp_X8_restore f (pI (Post_X8_restore f))
def vcS_X8_tell : Prop := ∀  (f : Fn) (a1 : Int32), Pre_X8_tell f a1 → wp_X8_tell f a1 (pI (Post_X8_tell f a1))
def vcS_X8_check : Prop := ∀  (f : Fn) , Pre_X8_check f → wp_X8_check f (pI (Post_X8_check f))
def vcS_X8_count : Prop := ∀  (f : Fn) (a1 : Int32), Pre_X8_count f a1 → wp_X8_count f a1 (pI (Post_X8_count f a1))
def vcS_X8_told : Prop := ∀  (f : Fn) (a1 : Int32), Pre_X8_told f a1 → wp_X8_told f a1 (pI (Post_X8_told f a1))
def VC_x8 : Prop := vcS_X8_error ∧ vcS_X8_orNone ∧ vcS_X8_sheetOf ∧ vcS_X8_isSpan ∧ vcS_X8_isKindAndNumber ∧ vcS_X8_partOf ∧ vcS_X8_goToldAt ∧ vcS_X8_oneEvening ∧ vcS_X8_swing ∧ vcS_X8_bar ∧ vcS_X8_set ∧ vcS_X8_flyer ∧ vcS_X8_ofFlyer ∧ vcS_X8_become ∧ vcS_X8_as ∧ vcS_X8_turn ∧ vcS_X8_feed ∧ vcS_X8_text ∧ vcS_X8_law ∧ vcS_X8_go ∧ vcS_X8_ticks ∧ vcS_X8_evenings ∧ vcS_X8_rest ∧ vcS_X8_then ∧ vcS_X8_can ∧ vcS_X8_surest ∧ vcS_X8_odds ∧ vcS_X8_pumped ∧ vcS_X8_inStep ∧ vcS_X8_mend ∧ vcS_X8_again ∧ vcS_X8_net ∧ vcS_X8_phases ∧ vcS_X8_late ∧ vcS_X8_seed ∧ vcS_X8_voice ∧ vcS_X8_trace ∧ vcS_X8_sheet ∧ vcS_X8_put ∧ vcS_X8_move ∧ vcS_X8_turns ∧ vcS_X8_judge ∧ vcS_X8_image ∧ vcS_X8_restore ∧ vcS_X8_tell ∧ vcS_X8_check ∧ vcS_X8_count ∧ vcS_X8_told ∧ True
theorem kb_69 : (Int8.ofInt 69).toInt32 = (69 : Int32) := by decide +kernel
theorem kb_81 : (Int8.ofInt 81).toInt32 = (81 : Int32) := by decide +kernel
theorem ks_200 : (Int16.ofInt 200).toInt32 = (200 : Int32) := by decide +kernel
theorem ks_255 : (Int16.ofInt 255).toInt32 = (255 : Int32) := by decide +kernel
theorem ks_19999 : (Int16.ofInt 19999).toInt32 = (19999 : Int32) := by decide +kernel
theorem fg_X8_10R {Z : Zt} {la : List CD} {cc : ByteArray} {n : Nat} {ret : Option FieldType} {d : Nat} {f : Fn} {lv : List (Nat × Value)} {pc q : Nat} {st : List Value} {k : Nat} {fl : List Nat} {p : Nat} (C : CX Z la RX8 cc n ret d) (hk : la[k]? = some (.inl (8, fl))) (hf : fl[0]? = some (p + 2)) (hd : decode cc pc = .ok (.getfield 10, 3)) (hq : pc + 3 = q) (g : GG Z f lv q (.ref (zad Z p) :: st)) : GG Z f lv pc (.ref (zad Z k) :: st) := g_get (T := TX8) (N := 8) C gwi8 rfl (by decide) rfl rfl rfl tw_284 hk hf hd hq (by rw [fvl_2]; exact g)
theorem fg_X8_16R {Z : Zt} {la : List CD} {cc : ByteArray} {n : Nat} {ret : Option FieldType} {d : Nat} {f : Fn} {lv : List (Nat × Value)} {pc q : Nat} {st : List Value} {k : Nat} {fl : List Nat} {p : Nat} (C : CX Z la RX8 cc n ret d) (hk : la[k]? = some (.inl (8, fl))) (hf : fl[1]? = some (p + 2)) (hd : decode cc pc = .ok (.getfield 16, 3)) (hq : pc + 3 = q) (g : GG Z f lv q (.ref (zad Z p) :: st)) : GG Z f lv pc (.ref (zad Z k) :: st) := g_get (T := TX8) (N := 8) C gwi8 rfl (by decide) rfl rfl rfl tw_285 hk hf hd hq (by rw [fvl_2]; exact g)
theorem fg_X8_24R {Z : Zt} {la : List CD} {cc : ByteArray} {n : Nat} {ret : Option FieldType} {d : Nat} {f : Fn} {lv : List (Nat × Value)} {pc q : Nat} {st : List Value} {k : Nat} {fl : List Nat} {p : Nat} (C : CX Z la RX8 cc n ret d) (hk : la[k]? = some (.inl (8, fl))) (hf : fl[2]? = some (p + 2)) (hd : decode cc pc = .ok (.getfield 24, 3)) (hq : pc + 3 = q) (g : GG Z f lv q (.ref (zad Z p) :: st)) : GG Z f lv pc (.ref (zad Z k) :: st) := g_get (T := TX8) (N := 8) C gwi8 rfl (by decide) rfl rfl rfl tw_286 hk hf hd hq (by rw [fvl_2]; exact g)
theorem fg_X8_31R {Z : Zt} {la : List CD} {cc : ByteArray} {n : Nat} {ret : Option FieldType} {d : Nat} {f : Fn} {lv : List (Nat × Value)} {pc q : Nat} {st : List Value} {k : Nat} {fl : List Nat} {p : Nat} (C : CX Z la RX8 cc n ret d) (hk : la[k]? = some (.inl (8, fl))) (hf : fl[3]? = some (p + 2)) (hd : decode cc pc = .ok (.getfield 31, 3)) (hq : pc + 3 = q) (g : GG Z f lv q (.ref (zad Z p) :: st)) : GG Z f lv pc (.ref (zad Z k) :: st) := g_get (T := TX8) (N := 8) C gwi8 rfl (by decide) rfl rfl rfl tw_287 hk hf hd hq (by rw [fvl_2]; exact g)
theorem fg_X8_38R {Z : Zt} {la : List CD} {cc : ByteArray} {n : Nat} {ret : Option FieldType} {d : Nat} {f : Fn} {lv : List (Nat × Value)} {pc q : Nat} {st : List Value} {k : Nat} {fl : List Nat} {p : Nat} (C : CX Z la RX8 cc n ret d) (hk : la[k]? = some (.inl (8, fl))) (hf : fl[4]? = some (p + 2)) (hd : decode cc pc = .ok (.getfield 38, 3)) (hq : pc + 3 = q) (g : GG Z f lv q (.ref (zad Z p) :: st)) : GG Z f lv pc (.ref (zad Z k) :: st) := g_get (T := TX8) (N := 8) C gwi8 rfl (by decide) rfl rfl rfl tw_288 hk hf hd hq (by rw [fvl_2]; exact g)
theorem fg_X8_44R {Z : Zt} {la : List CD} {cc : ByteArray} {n : Nat} {ret : Option FieldType} {d : Nat} {f : Fn} {lv : List (Nat × Value)} {pc q : Nat} {st : List Value} {k : Nat} {fl : List Nat} {p : Nat} (C : CX Z la RX8 cc n ret d) (hk : la[k]? = some (.inl (8, fl))) (hf : fl[5]? = some (p + 2)) (hd : decode cc pc = .ok (.getfield 44, 3)) (hq : pc + 3 = q) (g : GG Z f lv q (.ref (zad Z p) :: st)) : GG Z f lv pc (.ref (zad Z k) :: st) := g_get (T := TX8) (N := 8) C gwi8 rfl (by decide) rfl rfl rfl tw_289 hk hf hd hq (by rw [fvl_2]; exact g)
theorem fg_X8_48R {Z : Zt} {la : List CD} {cc : ByteArray} {n : Nat} {ret : Option FieldType} {d : Nat} {f : Fn} {lv : List (Nat × Value)} {pc q : Nat} {st : List Value} {k : Nat} {fl : List Nat} {p : Nat} (C : CX Z la RX8 cc n ret d) (hk : la[k]? = some (.inl (8, fl))) (hf : fl[6]? = some (p + 2)) (hd : decode cc pc = .ok (.getfield 48, 3)) (hq : pc + 3 = q) (g : GG Z f lv q (.ref (zad Z p) :: st)) : GG Z f lv pc (.ref (zad Z k) :: st) := g_get (T := TX8) (N := 8) C gwi8 rfl (by decide) rfl rfl rfl tw_290 hk hf hd hq (by rw [fvl_2]; exact g)
theorem fg_X8_78I {Z : Zt} {la : List CD} {cc : ByteArray} {n : Nat} {ret : Option FieldType} {d : Nat} {f : Fn} {lv : List (Nat × Value)} {pc q : Nat} {st : List Value} {k : Nat} {fl : List Nat} {x : Int32} (C : CX Z la RX8 cc n ret d) (hk : la[k]? = some (.inl (7, fl))) (hf : fl[2]? = some 0) (hx : f k 2 = x) (hd : decode cc pc = .ok (.getfield 78, 3)) (hq : pc + 3 = q) (g : GG Z f lv q (.int x :: st)) : GG Z f lv pc (.ref (zad Z k) :: st) := g_getN (T := TX7) (N := 18) C gwi7 rfl (by decide) rfl rfl rfl nw_17 hk hf hd hq (by rw [fvl_0, hx]; exact g)
theorem fg_X8_82I {Z : Zt} {la : List CD} {cc : ByteArray} {n : Nat} {ret : Option FieldType} {d : Nat} {f : Fn} {lv : List (Nat × Value)} {pc q : Nat} {st : List Value} {k : Nat} {fl : List Nat} {x : Int32} (C : CX Z la RX8 cc n ret d) (hk : la[k]? = some (.inl (7, fl))) (hf : fl[3]? = some 0) (hx : f k 3 = x) (hd : decode cc pc = .ok (.getfield 82, 3)) (hq : pc + 3 = q) (g : GG Z f lv q (.int x :: st)) : GG Z f lv pc (.ref (zad Z k) :: st) := g_getN (T := TX7) (N := 18) C gwi7 rfl (by decide) rfl rfl rfl nw_18 hk hf hd hq (by rw [fvl_0, hx]; exact g)
theorem fg_X8_85I {Z : Zt} {la : List CD} {cc : ByteArray} {n : Nat} {ret : Option FieldType} {d : Nat} {f : Fn} {lv : List (Nat × Value)} {pc q : Nat} {st : List Value} {k : Nat} {fl : List Nat} {x : Int32} (C : CX Z la RX8 cc n ret d) (hk : la[k]? = some (.inl (7, fl))) (hf : fl[4]? = some 0) (hx : f k 4 = x) (hd : decode cc pc = .ok (.getfield 85, 3)) (hq : pc + 3 = q) (g : GG Z f lv q (.int x :: st)) : GG Z f lv pc (.ref (zad Z k) :: st) := g_getN (T := TX7) (N := 18) C gwi7 rfl (by decide) rfl rfl rfl nw_20 hk hf hd hq (by rw [fvl_0, hx]; exact g)
theorem fg_X8_92I {Z : Zt} {la : List CD} {cc : ByteArray} {n : Nat} {ret : Option FieldType} {d : Nat} {f : Fn} {lv : List (Nat × Value)} {pc q : Nat} {st : List Value} {k : Nat} {fl : List Nat} {x : Int32} (C : CX Z la RX8 cc n ret d) (hk : la[k]? = some (.inl (7, fl))) (hf : fl[7]? = some 0) (hx : f k 7 = x) (hd : decode cc pc = .ok (.getfield 92, 3)) (hq : pc + 3 = q) (g : GG Z f lv q (.int x :: st)) : GG Z f lv pc (.ref (zad Z k) :: st) := g_getN (T := TX7) (N := 18) C gwi7 rfl (by decide) rfl rfl rfl nw_23 hk hf hd hq (by rw [fvl_0, hx]; exact g)
theorem fg_X8_105I {Z : Zt} {la : List CD} {cc : ByteArray} {n : Nat} {ret : Option FieldType} {d : Nat} {f : Fn} {lv : List (Nat × Value)} {pc q : Nat} {st : List Value} {k : Nat} {fl : List Nat} {x : Int32} (C : CX Z la RX8 cc n ret d) (hk : la[k]? = some (.inl (0, fl))) (hf : fl[0]? = some 0) (hx : f k 0 = x) (hd : decode cc pc = .ok (.getfield 105, 3)) (hq : pc + 3 = q) (g : GG Z f lv q (.int x :: st)) : GG Z f lv pc (.ref (zad Z k) :: st) := g_getN (T := TX0) (N := 4) C gwi0 rfl (by decide) rfl rfl rfl nw_6 hk hf hd hq (by rw [fvl_0, hx]; exact g)
theorem fg_X8_108I {Z : Zt} {la : List CD} {cc : ByteArray} {n : Nat} {ret : Option FieldType} {d : Nat} {f : Fn} {lv : List (Nat × Value)} {pc q : Nat} {st : List Value} {k : Nat} {fl : List Nat} {x : Int32} (C : CX Z la RX8 cc n ret d) (hk : la[k]? = some (.inl (0, fl))) (hf : fl[1]? = some 0) (hx : f k 1 = x) (hd : decode cc pc = .ok (.getfield 108, 3)) (hq : pc + 3 = q) (g : GG Z f lv q (.int x :: st)) : GG Z f lv pc (.ref (zad Z k) :: st) := g_getN (T := TX0) (N := 4) C gwi0 rfl (by decide) rfl rfl rfl nw_8 hk hf hd hq (by rw [fvl_0, hx]; exact g)
theorem fg_X8_111I {Z : Zt} {la : List CD} {cc : ByteArray} {n : Nat} {ret : Option FieldType} {d : Nat} {f : Fn} {lv : List (Nat × Value)} {pc q : Nat} {st : List Value} {k : Nat} {fl : List Nat} {x : Int32} (C : CX Z la RX8 cc n ret d) (hk : la[k]? = some (.inl (0, fl))) (hf : fl[2]? = some 0) (hx : f k 2 = x) (hd : decode cc pc = .ok (.getfield 111, 3)) (hq : pc + 3 = q) (g : GG Z f lv q (.int x :: st)) : GG Z f lv pc (.ref (zad Z k) :: st) := g_getN (T := TX0) (N := 4) C gwi0 rfl (by decide) rfl rfl rfl nw_11 hk hf hd hq (by rw [fvl_0, hx]; exact g)
theorem fg_X8_114I {Z : Zt} {la : List CD} {cc : ByteArray} {n : Nat} {ret : Option FieldType} {d : Nat} {f : Fn} {lv : List (Nat × Value)} {pc q : Nat} {st : List Value} {k : Nat} {fl : List Nat} {x : Int32} (C : CX Z la RX8 cc n ret d) (hk : la[k]? = some (.inl (0, fl))) (hf : fl[3]? = some 0) (hx : f k 3 = x) (hd : decode cc pc = .ok (.getfield 114, 3)) (hq : pc + 3 = q) (g : GG Z f lv q (.int x :: st)) : GG Z f lv pc (.ref (zad Z k) :: st) := g_getN (T := TX0) (N := 4) C gwi0 rfl (by decide) rfl rfl rfl nw_12 hk hf hd hq (by rw [fvl_0, hx]; exact g)
theorem fg_X8_133I {Z : Zt} {la : List CD} {cc : ByteArray} {n : Nat} {ret : Option FieldType} {d : Nat} {f : Fn} {lv : List (Nat × Value)} {pc q : Nat} {st : List Value} {k : Nat} {fl : List Nat} {x : Int32} (C : CX Z la RX8 cc n ret d) (hk : la[k]? = some (.inl (7, fl))) (hf : fl[9]? = some 0) (hx : f k 9 = x) (hd : decode cc pc = .ok (.getfield 133, 3)) (hq : pc + 3 = q) (g : GG Z f lv q (.int x :: st)) : GG Z f lv pc (.ref (zad Z k) :: st) := g_getN (T := TX7) (N := 18) C gwi7 rfl (by decide) rfl rfl rfl nw_26 hk hf hd hq (by rw [fvl_0, hx]; exact g)
theorem fg_X8_146R {Z : Zt} {la : List CD} {cc : ByteArray} {n : Nat} {ret : Option FieldType} {d : Nat} {f : Fn} {lv : List (Nat × Value)} {pc q : Nat} {st : List Value} {k : Nat} {fl : List Nat} {p : Nat} (C : CX Z la RX8 cc n ret d) (hk : la[k]? = some (.inl (2, fl))) (hf : fl[1]? = some (p + 2)) (hd : decode cc pc = .ok (.getfield 146, 3)) (hq : pc + 3 = q) (g : GG Z f lv q (.ref (zad Z p) :: st)) : GG Z f lv pc (.ref (zad Z k) :: st) := g_getN (T := TX2) (N := 5) C gwi2 rfl (by decide) rfl rfl rfl nw_39 hk hf hd hq (by rw [fvl_2]; exact g)
theorem fg_X8_149I {Z : Zt} {la : List CD} {cc : ByteArray} {n : Nat} {ret : Option FieldType} {d : Nat} {f : Fn} {lv : List (Nat × Value)} {pc q : Nat} {st : List Value} {k : Nat} {fl : List Nat} {x : Int32} (C : CX Z la RX8 cc n ret d) (hk : la[k]? = some (.inl (2, fl))) (hf : fl[2]? = some 0) (hx : f k 2 = x) (hd : decode cc pc = .ok (.getfield 149, 3)) (hq : pc + 3 = q) (g : GG Z f lv q (.int x :: st)) : GG Z f lv pc (.ref (zad Z k) :: st) := g_getN (T := TX2) (N := 5) C gwi2 rfl (by decide) rfl rfl rfl nw_40 hk hf hd hq (by rw [fvl_0, hx]; exact g)
theorem fg_X8_161I {Z : Zt} {la : List CD} {cc : ByteArray} {n : Nat} {ret : Option FieldType} {d : Nat} {f : Fn} {lv : List (Nat × Value)} {pc q : Nat} {st : List Value} {k : Nat} {fl : List Nat} {x : Int32} (C : CX Z la RX8 cc n ret d) (hk : la[k]? = some (.inl (7, fl))) (hf : fl[5]? = some 0) (hx : f k 5 = x) (hd : decode cc pc = .ok (.getfield 161, 3)) (hq : pc + 3 = q) (g : GG Z f lv q (.int x :: st)) : GG Z f lv pc (.ref (zad Z k) :: st) := g_getN (T := TX7) (N := 18) C gwi7 rfl (by decide) rfl rfl rfl nw_22 hk hf hd hq (by rw [fvl_0, hx]; exact g)
theorem fg_X8_171I {Z : Zt} {la : List CD} {cc : ByteArray} {n : Nat} {ret : Option FieldType} {d : Nat} {f : Fn} {lv : List (Nat × Value)} {pc q : Nat} {st : List Value} {k : Nat} {fl : List Nat} {x : Int32} (C : CX Z la RX8 cc n ret d) (hk : la[k]? = some (.inl (7, fl))) (hf : fl[12]? = some 0) (hx : f k 12 = x) (hd : decode cc pc = .ok (.getfield 171, 3)) (hq : pc + 3 = q) (g : GG Z f lv q (.int x :: st)) : GG Z f lv pc (.ref (zad Z k) :: st) := g_getN (T := TX7) (N := 18) C gwi7 rfl (by decide) rfl rfl rfl nw_29 hk hf hd hq (by rw [fvl_0, hx]; exact g)
theorem fg_X8_184I {Z : Zt} {la : List CD} {cc : ByteArray} {n : Nat} {ret : Option FieldType} {d : Nat} {f : Fn} {lv : List (Nat × Value)} {pc q : Nat} {st : List Value} {k : Nat} {fl : List Nat} {x : Int32} (C : CX Z la RX8 cc n ret d) (hk : la[k]? = some (.inl (5, fl))) (hf : fl[7]? = some 0) (hx : f k 7 = x) (hd : decode cc pc = .ok (.getfield 184, 3)) (hq : pc + 3 = q) (g : GG Z f lv q (.int x :: st)) : GG Z f lv pc (.ref (zad Z k) :: st) := g_getN (T := TX5) (N := 9) C gwi5 rfl (by decide) rfl rfl rfl nw_37 hk hf hd hq (by rw [fvl_0, hx]; exact g)
theorem fg_X8_187I {Z : Zt} {la : List CD} {cc : ByteArray} {n : Nat} {ret : Option FieldType} {d : Nat} {f : Fn} {lv : List (Nat × Value)} {pc q : Nat} {st : List Value} {k : Nat} {fl : List Nat} {x : Int32} (C : CX Z la RX8 cc n ret d) (hk : la[k]? = some (.inl (5, fl))) (hf : fl[8]? = some 0) (hx : f k 8 = x) (hd : decode cc pc = .ok (.getfield 187, 3)) (hq : pc + 3 = q) (g : GG Z f lv q (.int x :: st)) : GG Z f lv pc (.ref (zad Z k) :: st) := g_getN (T := TX5) (N := 9) C gwi5 rfl (by decide) rfl rfl rfl nw_38 hk hf hd hq (by rw [fvl_0, hx]; exact g)
theorem fg_X8_257I {Z : Zt} {la : List CD} {cc : ByteArray} {n : Nat} {ret : Option FieldType} {d : Nat} {f : Fn} {lv : List (Nat × Value)} {pc q : Nat} {st : List Value} {k : Nat} {fl : List Nat} {x : Int32} (C : CX Z la RX8 cc n ret d) (hk : la[k]? = some (.inl (7, fl))) (hf : fl[15]? = some 0) (hx : f k 15 = x) (hd : decode cc pc = .ok (.getfield 257, 3)) (hq : pc + 3 = q) (g : GG Z f lv q (.int x :: st)) : GG Z f lv pc (.ref (zad Z k) :: st) := g_getN (T := TX7) (N := 18) C gwi7 rfl (by decide) rfl rfl rfl nw_32 hk hf hd hq (by rw [fvl_0, hx]; exact g)
theorem fg_X8_264I {Z : Zt} {la : List CD} {cc : ByteArray} {n : Nat} {ret : Option FieldType} {d : Nat} {f : Fn} {lv : List (Nat × Value)} {pc q : Nat} {st : List Value} {k : Nat} {fl : List Nat} {x : Int32} (C : CX Z la RX8 cc n ret d) (hk : la[k]? = some (.inl (6, fl))) (hf : fl[1]? = some 0) (hx : f k 1 = x) (hd : decode cc pc = .ok (.getfield 264, 3)) (hq : pc + 3 = q) (g : GG Z f lv q (.int x :: st)) : GG Z f lv pc (.ref (zad Z k) :: st) := g_getN (T := TX6) (N := 4) C gwi6 rfl (by decide) rfl rfl rfl nw_43 hk hf hd hq (by rw [fvl_0, hx]; exact g)
theorem fg_X8_272I {Z : Zt} {la : List CD} {cc : ByteArray} {n : Nat} {ret : Option FieldType} {d : Nat} {f : Fn} {lv : List (Nat × Value)} {pc q : Nat} {st : List Value} {k : Nat} {fl : List Nat} {x : Int32} (C : CX Z la RX8 cc n ret d) (hk : la[k]? = some (.inl (3, fl))) (hf : fl[2]? = some 0) (hx : f k 2 = x) (hd : decode cc pc = .ok (.getfield 272, 3)) (hq : pc + 3 = q) (g : GG Z f lv q (.int x :: st)) : GG Z f lv pc (.ref (zad Z k) :: st) := g_getN (T := TX3) (N := 3) C gwi3 rfl (by decide) rfl rfl rfl nw_48 hk hf hd hq (by rw [fvl_0, hx]; exact g)
theorem fg_X8_278I {Z : Zt} {la : List CD} {cc : ByteArray} {n : Nat} {ret : Option FieldType} {d : Nat} {f : Fn} {lv : List (Nat × Value)} {pc q : Nat} {st : List Value} {k : Nat} {fl : List Nat} {x : Int32} (C : CX Z la RX8 cc n ret d) (hk : la[k]? = some (.inl (3, fl))) (hf : fl[1]? = some 0) (hx : f k 1 = x) (hd : decode cc pc = .ok (.getfield 278, 3)) (hq : pc + 3 = q) (g : GG Z f lv q (.int x :: st)) : GG Z f lv pc (.ref (zad Z k) :: st) := g_getN (T := TX3) (N := 3) C gwi3 rfl (by decide) rfl rfl rfl nw_46 hk hf hd hq (by rw [fvl_0, hx]; exact g)
theorem fg_X8_284R {Z : Zt} {la : List CD} {cc : ByteArray} {n : Nat} {ret : Option FieldType} {d : Nat} {f : Fn} {lv : List (Nat × Value)} {pc q : Nat} {st : List Value} {k : Nat} {fl : List Nat} {p : Nat} (C : CX Z la RX8 cc n ret d) (hk : la[k]? = some (.inl (3, fl))) (hf : fl[0]? = some (p + 2)) (hd : decode cc pc = .ok (.getfield 284, 3)) (hq : pc + 3 = q) (g : GG Z f lv q (.ref (zad Z p) :: st)) : GG Z f lv pc (.ref (zad Z k) :: st) := g_getN (T := TX3) (N := 3) C gwi3 rfl (by decide) rfl rfl rfl nw_45 hk hf hd hq (by rw [fvl_2]; exact g)
theorem fg_X8_299I {Z : Zt} {la : List CD} {cc : ByteArray} {n : Nat} {ret : Option FieldType} {d : Nat} {f : Fn} {lv : List (Nat × Value)} {pc q : Nat} {st : List Value} {k : Nat} {fl : List Nat} {x : Int32} (C : CX Z la RX8 cc n ret d) (hk : la[k]? = some (.inl (8, fl))) (hf : fl[7]? = some 0) (hx : f k 7 = x) (hd : decode cc pc = .ok (.getfield 299, 3)) (hq : pc + 3 = q) (g : GG Z f lv q (.int x :: st)) : GG Z f lv pc (.ref (zad Z k) :: st) := g_get (T := TX8) (N := 8) C gwi8 rfl (by decide) rfl rfl rfl tw_291 hk hf hd hq (by rw [fvl_0, hx]; exact g)
theorem fg_X8_302I {Z : Zt} {la : List CD} {cc : ByteArray} {n : Nat} {ret : Option FieldType} {d : Nat} {f : Fn} {lv : List (Nat × Value)} {pc q : Nat} {st : List Value} {k : Nat} {fl : List Nat} {x : Int32} (C : CX Z la RX8 cc n ret d) (hk : la[k]? = some (.inl (7, fl))) (hf : fl[17]? = some 0) (hx : f k 17 = x) (hd : decode cc pc = .ok (.getfield 302, 3)) (hq : pc + 3 = q) (g : GG Z f lv q (.int x :: st)) : GG Z f lv pc (.ref (zad Z k) :: st) := g_getN (T := TX7) (N := 18) C gwi7 rfl (by decide) rfl rfl rfl nw_34 hk hf hd hq (by rw [fvl_0, hx]; exact g)
theorem fg_X8_308R {Z : Zt} {la : List CD} {cc : ByteArray} {n : Nat} {ret : Option FieldType} {d : Nat} {f : Fn} {lv : List (Nat × Value)} {pc q : Nat} {st : List Value} {k : Nat} {fl : List Nat} {p : Nat} (C : CX Z la RX8 cc n ret d) (hk : la[k]? = some (.inl (7, fl))) (hf : fl[16]? = some (p + 2)) (hd : decode cc pc = .ok (.getfield 308, 3)) (hq : pc + 3 = q) (g : GG Z f lv q (.ref (zad Z p) :: st)) : GG Z f lv pc (.ref (zad Z k) :: st) := g_getN (T := TX7) (N := 18) C gwi7 rfl (by decide) rfl rfl rfl nw_33 hk hf hd hq (by rw [fvl_2]; exact g)
theorem fg_X8_311R {Z : Zt} {la : List CD} {cc : ByteArray} {n : Nat} {ret : Option FieldType} {d : Nat} {f : Fn} {lv : List (Nat × Value)} {pc q : Nat} {st : List Value} {k : Nat} {fl : List Nat} {p : Nat} (C : CX Z la RX8 cc n ret d) (hk : la[k]? = some (.inl (7, fl))) (hf : fl[0]? = some (p + 2)) (hd : decode cc pc = .ok (.getfield 311, 3)) (hq : pc + 3 = q) (g : GG Z f lv q (.ref (zad Z p) :: st)) : GG Z f lv pc (.ref (zad Z k) :: st) := g_getN (T := TX7) (N := 18) C gwi7 rfl (by decide) rfl rfl rfl nw_14 hk hf hd hq (by rw [fvl_2]; exact g)
theorem fg_X8_315I {Z : Zt} {la : List CD} {cc : ByteArray} {n : Nat} {ret : Option FieldType} {d : Nat} {f : Fn} {lv : List (Nat × Value)} {pc q : Nat} {st : List Value} {k : Nat} {fl : List Nat} {x : Int32} (C : CX Z la RX8 cc n ret d) (hk : la[k]? = some (.inl (7, fl))) (hf : fl[13]? = some 0) (hx : f k 13 = x) (hd : decode cc pc = .ok (.getfield 315, 3)) (hq : pc + 3 = q) (g : GG Z f lv q (.int x :: st)) : GG Z f lv pc (.ref (zad Z k) :: st) := g_getN (T := TX7) (N := 18) C gwi7 rfl (by decide) rfl rfl rfl nw_30 hk hf hd hq (by rw [fvl_0, hx]; exact g)
theorem fg_X8_318I {Z : Zt} {la : List CD} {cc : ByteArray} {n : Nat} {ret : Option FieldType} {d : Nat} {f : Fn} {lv : List (Nat × Value)} {pc q : Nat} {st : List Value} {k : Nat} {fl : List Nat} {x : Int32} (C : CX Z la RX8 cc n ret d) (hk : la[k]? = some (.inl (7, fl))) (hf : fl[14]? = some 0) (hx : f k 14 = x) (hd : decode cc pc = .ok (.getfield 318, 3)) (hq : pc + 3 = q) (g : GG Z f lv q (.int x :: st)) : GG Z f lv pc (.ref (zad Z k) :: st) := g_getN (T := TX7) (N := 18) C gwi7 rfl (by decide) rfl rfl rfl nw_31 hk hf hd hq (by rw [fvl_0, hx]; exact g)
theorem fp_X8_78 {Z : Zt} {la : List CD} {cc : ByteArray} {n : Nat} {ret : Option FieldType} {d : Nat} {f : Fn} {lv : List (Nat × Value)} {pc q : Nat} {st : List Value} {k : Nat} {fl : List Nat} {v : Int32} (C : CX Z la RX8 cc n ret d) (hk : la[k]? = some (.inl (7, fl))) (hf : fl[2]? = some 0) (hlen : fl.length ≤ 100) (hd : decode cc pc = .ok (.putfield 78, 3)) (hq : pc + 3 = q) (g : GG Z (up2 f k 2 v) lv q st) : GG Z f lv pc (.int v :: .ref (zad Z k) :: st) := g_putN (T := TX7) (N := 18) (j := 2) C gwi7 tyX7_ok nmX7 rfl (by decide) rfl rfl rfl rfl nw_17 rfl rfl hk hf hlen hd hq g
theorem fp_X8_82 {Z : Zt} {la : List CD} {cc : ByteArray} {n : Nat} {ret : Option FieldType} {d : Nat} {f : Fn} {lv : List (Nat × Value)} {pc q : Nat} {st : List Value} {k : Nat} {fl : List Nat} {v : Int32} (C : CX Z la RX8 cc n ret d) (hk : la[k]? = some (.inl (7, fl))) (hf : fl[3]? = some 0) (hlen : fl.length ≤ 100) (hd : decode cc pc = .ok (.putfield 82, 3)) (hq : pc + 3 = q) (g : GG Z (up2 f k 3 v) lv q st) : GG Z f lv pc (.int v :: .ref (zad Z k) :: st) := g_putN (T := TX7) (N := 18) (j := 3) C gwi7 tyX7_ok nmX7 rfl (by decide) rfl rfl rfl rfl nw_18 rfl rfl hk hf hlen hd hq g
theorem fp_X8_85 {Z : Zt} {la : List CD} {cc : ByteArray} {n : Nat} {ret : Option FieldType} {d : Nat} {f : Fn} {lv : List (Nat × Value)} {pc q : Nat} {st : List Value} {k : Nat} {fl : List Nat} {v : Int32} (C : CX Z la RX8 cc n ret d) (hk : la[k]? = some (.inl (7, fl))) (hf : fl[4]? = some 0) (hlen : fl.length ≤ 100) (hd : decode cc pc = .ok (.putfield 85, 3)) (hq : pc + 3 = q) (g : GG Z (up2 f k 4 v) lv q st) : GG Z f lv pc (.int v :: .ref (zad Z k) :: st) := g_putN (T := TX7) (N := 18) (j := 4) C gwi7 tyX7_ok nmX7 rfl (by decide) rfl rfl rfl rfl nw_20 rfl rfl hk hf hlen hd hq g
theorem fp_X8_92 {Z : Zt} {la : List CD} {cc : ByteArray} {n : Nat} {ret : Option FieldType} {d : Nat} {f : Fn} {lv : List (Nat × Value)} {pc q : Nat} {st : List Value} {k : Nat} {fl : List Nat} {v : Int32} (C : CX Z la RX8 cc n ret d) (hk : la[k]? = some (.inl (7, fl))) (hf : fl[7]? = some 0) (hlen : fl.length ≤ 100) (hd : decode cc pc = .ok (.putfield 92, 3)) (hq : pc + 3 = q) (g : GG Z (up2 f k 7 v) lv q st) : GG Z f lv pc (.int v :: .ref (zad Z k) :: st) := g_putN (T := TX7) (N := 18) (j := 7) C gwi7 tyX7_ok nmX7 rfl (by decide) rfl rfl rfl rfl nw_23 rfl rfl hk hf hlen hd hq g
theorem fp_X8_111 {Z : Zt} {la : List CD} {cc : ByteArray} {n : Nat} {ret : Option FieldType} {d : Nat} {f : Fn} {lv : List (Nat × Value)} {pc q : Nat} {st : List Value} {k : Nat} {fl : List Nat} {v : Int32} (C : CX Z la RX8 cc n ret d) (hk : la[k]? = some (.inl (0, fl))) (hf : fl[2]? = some 0) (hlen : fl.length ≤ 100) (hd : decode cc pc = .ok (.putfield 111, 3)) (hq : pc + 3 = q) (g : GG Z (up2 f k 2 v) lv q st) : GG Z f lv pc (.int v :: .ref (zad Z k) :: st) := g_putN (T := TX0) (N := 4) (j := 2) C gwi0 tyX0_ok nmX0 rfl (by decide) rfl rfl rfl rfl nw_11 rfl rfl hk hf hlen hd hq g
theorem fp_X8_114 {Z : Zt} {la : List CD} {cc : ByteArray} {n : Nat} {ret : Option FieldType} {d : Nat} {f : Fn} {lv : List (Nat × Value)} {pc q : Nat} {st : List Value} {k : Nat} {fl : List Nat} {v : Int32} (C : CX Z la RX8 cc n ret d) (hk : la[k]? = some (.inl (0, fl))) (hf : fl[3]? = some 0) (hlen : fl.length ≤ 100) (hd : decode cc pc = .ok (.putfield 114, 3)) (hq : pc + 3 = q) (g : GG Z (up2 f k 3 v) lv q st) : GG Z f lv pc (.int v :: .ref (zad Z k) :: st) := g_putN (T := TX0) (N := 4) (j := 3) C gwi0 tyX0_ok nmX0 rfl (by decide) rfl rfl rfl rfl nw_12 rfl rfl hk hf hlen hd hq g
theorem fp_X8_133 {Z : Zt} {la : List CD} {cc : ByteArray} {n : Nat} {ret : Option FieldType} {d : Nat} {f : Fn} {lv : List (Nat × Value)} {pc q : Nat} {st : List Value} {k : Nat} {fl : List Nat} {v : Int32} (C : CX Z la RX8 cc n ret d) (hk : la[k]? = some (.inl (7, fl))) (hf : fl[9]? = some 0) (hlen : fl.length ≤ 100) (hd : decode cc pc = .ok (.putfield 133, 3)) (hq : pc + 3 = q) (g : GG Z (up2 f k 9 v) lv q st) : GG Z f lv pc (.int v :: .ref (zad Z k) :: st) := g_putN (T := TX7) (N := 18) (j := 9) C gwi7 tyX7_ok nmX7 rfl (by decide) rfl rfl rfl rfl nw_26 rfl rfl hk hf hlen hd hq g
theorem fp_X8_161 {Z : Zt} {la : List CD} {cc : ByteArray} {n : Nat} {ret : Option FieldType} {d : Nat} {f : Fn} {lv : List (Nat × Value)} {pc q : Nat} {st : List Value} {k : Nat} {fl : List Nat} {v : Int32} (C : CX Z la RX8 cc n ret d) (hk : la[k]? = some (.inl (7, fl))) (hf : fl[5]? = some 0) (hlen : fl.length ≤ 100) (hd : decode cc pc = .ok (.putfield 161, 3)) (hq : pc + 3 = q) (g : GG Z (up2 f k 5 v) lv q st) : GG Z f lv pc (.int v :: .ref (zad Z k) :: st) := g_putN (T := TX7) (N := 18) (j := 5) C gwi7 tyX7_ok nmX7 rfl (by decide) rfl rfl rfl rfl nw_22 rfl rfl hk hf hlen hd hq g
theorem fp_X8_171 {Z : Zt} {la : List CD} {cc : ByteArray} {n : Nat} {ret : Option FieldType} {d : Nat} {f : Fn} {lv : List (Nat × Value)} {pc q : Nat} {st : List Value} {k : Nat} {fl : List Nat} {v : Int32} (C : CX Z la RX8 cc n ret d) (hk : la[k]? = some (.inl (7, fl))) (hf : fl[12]? = some 0) (hlen : fl.length ≤ 100) (hd : decode cc pc = .ok (.putfield 171, 3)) (hq : pc + 3 = q) (g : GG Z (up2 f k 12 v) lv q st) : GG Z f lv pc (.int v :: .ref (zad Z k) :: st) := g_putN (T := TX7) (N := 18) (j := 12) C gwi7 tyX7_ok nmX7 rfl (by decide) rfl rfl rfl rfl nw_29 rfl rfl hk hf hlen hd hq g
theorem fp_X8_257 {Z : Zt} {la : List CD} {cc : ByteArray} {n : Nat} {ret : Option FieldType} {d : Nat} {f : Fn} {lv : List (Nat × Value)} {pc q : Nat} {st : List Value} {k : Nat} {fl : List Nat} {v : Int32} (C : CX Z la RX8 cc n ret d) (hk : la[k]? = some (.inl (7, fl))) (hf : fl[15]? = some 0) (hlen : fl.length ≤ 100) (hd : decode cc pc = .ok (.putfield 257, 3)) (hq : pc + 3 = q) (g : GG Z (up2 f k 15 v) lv q st) : GG Z f lv pc (.int v :: .ref (zad Z k) :: st) := g_putN (T := TX7) (N := 18) (j := 15) C gwi7 tyX7_ok nmX7 rfl (by decide) rfl rfl rfl rfl nw_32 rfl rfl hk hf hlen hd hq g
theorem fp_X8_299 {Z : Zt} {la : List CD} {cc : ByteArray} {n : Nat} {ret : Option FieldType} {d : Nat} {f : Fn} {lv : List (Nat × Value)} {pc q : Nat} {st : List Value} {k : Nat} {fl : List Nat} {v : Int32} (C : CX Z la RX8 cc n ret d) (hk : la[k]? = some (.inl (8, fl))) (hf : fl[7]? = some 0) (hlen : fl.length ≤ 100) (hd : decode cc pc = .ok (.putfield 299, 3)) (hq : pc + 3 = q) (g : GG Z (up2 f k 7 v) lv q st) : GG Z f lv pc (.int v :: .ref (zad Z k) :: st) := g_put (T := TX8) (N := 8) (j := 7) C gwi8 tyX8_ok nmX8 rfl (by decide) rfl rfl rfl rfl tw_291 rfl rfl hk hf hlen hd hq g
theorem fp_X8_302 {Z : Zt} {la : List CD} {cc : ByteArray} {n : Nat} {ret : Option FieldType} {d : Nat} {f : Fn} {lv : List (Nat × Value)} {pc q : Nat} {st : List Value} {k : Nat} {fl : List Nat} {v : Int32} (C : CX Z la RX8 cc n ret d) (hk : la[k]? = some (.inl (7, fl))) (hf : fl[17]? = some 0) (hlen : fl.length ≤ 100) (hd : decode cc pc = .ok (.putfield 302, 3)) (hq : pc + 3 = q) (g : GG Z (up2 f k 17 v) lv q st) : GG Z f lv pc (.int v :: .ref (zad Z k) :: st) := g_putN (T := TX7) (N := 18) (j := 17) C gwi7 tyX7_ok nmX7 rfl (by decide) rfl rfl rfl rfl nw_34 rfl rfl hk hf hlen hd hq g
theorem fp_X8_315 {Z : Zt} {la : List CD} {cc : ByteArray} {n : Nat} {ret : Option FieldType} {d : Nat} {f : Fn} {lv : List (Nat × Value)} {pc q : Nat} {st : List Value} {k : Nat} {fl : List Nat} {v : Int32} (C : CX Z la RX8 cc n ret d) (hk : la[k]? = some (.inl (7, fl))) (hf : fl[13]? = some 0) (hlen : fl.length ≤ 100) (hd : decode cc pc = .ok (.putfield 315, 3)) (hq : pc + 3 = q) (g : GG Z (up2 f k 13 v) lv q st) : GG Z f lv pc (.int v :: .ref (zad Z k) :: st) := g_putN (T := TX7) (N := 18) (j := 13) C gwi7 tyX7_ok nmX7 rfl (by decide) rfl rfl rfl rfl nw_30 rfl rfl hk hf hlen hd hq g
theorem fp_X8_318 {Z : Zt} {la : List CD} {cc : ByteArray} {n : Nat} {ret : Option FieldType} {d : Nat} {f : Fn} {lv : List (Nat × Value)} {pc q : Nat} {st : List Value} {k : Nat} {fl : List Nat} {v : Int32} (C : CX Z la RX8 cc n ret d) (hk : la[k]? = some (.inl (7, fl))) (hf : fl[14]? = some 0) (hlen : fl.length ≤ 100) (hd : decode cc pc = .ok (.putfield 318, 3)) (hq : pc + 3 = q) (g : GG Z (up2 f k 14 v) lv q st) : GG Z f lv pc (.int v :: .ref (zad Z k) :: st) := g_putN (T := TX7) (N := 18) (j := 14) C gwi7 tyX7_ok nmX7 rfl (by decide) rfl rfl rfl rfl nw_31 rfl rfl hk hf hlen hd hq g
theorem hy_X0_begin : yX0_begin.cls ≠ "java/lang/invoke/MethodHandle" ∧ yX0_begin.cls ≠ "java/lang/invoke/VarHandle" ∧ (parseMethodDescriptor yX0_begin.desc).map (fun d => d.parameters.length) = some 1 := by decide +kernel
theorem hy_X0_isOf : yX0_isOf.cls ≠ "java/lang/invoke/MethodHandle" ∧ yX0_isOf.cls ≠ "java/lang/invoke/VarHandle" ∧ (parseMethodDescriptor yX0_isOf.desc).map (fun d => d.parameters.length) = some 1 := by decide +kernel
theorem hy_X2_readTape : yX2_readTape.cls ≠ "java/lang/invoke/MethodHandle" ∧ yX2_readTape.cls ≠ "java/lang/invoke/VarHandle" ∧ (parseMethodDescriptor yX2_readTape.desc).map (fun d => d.parameters.length) = some 0 := by decide +kernel
theorem hy_X3_begin : yX3_begin.cls ≠ "java/lang/invoke/MethodHandle" ∧ yX3_begin.cls ≠ "java/lang/invoke/VarHandle" ∧ (parseMethodDescriptor yX3_begin.desc).map (fun d => d.parameters.length) = some 2 := by decide +kernel
theorem hy_X3_hasRow : yX3_hasRow.cls ≠ "java/lang/invoke/MethodHandle" ∧ yX3_hasRow.cls ≠ "java/lang/invoke/VarHandle" ∧ (parseMethodDescriptor yX3_hasRow.desc).map (fun d => d.parameters.length) = some 2 := by decide +kernel
theorem hy_X3_isMissing : yX3_isMissing.cls ≠ "java/lang/invoke/MethodHandle" ∧ yX3_isMissing.cls ≠ "java/lang/invoke/VarHandle" ∧ (parseMethodDescriptor yX3_isMissing.desc).map (fun d => d.parameters.length) = some 0 := by decide +kernel
theorem hy_X3_write : yX3_write.cls ≠ "java/lang/invoke/MethodHandle" ∧ yX3_write.cls ≠ "java/lang/invoke/VarHandle" ∧ (parseMethodDescriptor yX3_write.desc).map (fun d => d.parameters.length) = some 2 := by decide +kernel
theorem hy_X4_change : yX4_change.cls ≠ "java/lang/invoke/MethodHandle" ∧ yX4_change.cls ≠ "java/lang/invoke/VarHandle" ∧ (parseMethodDescriptor yX4_change.desc).map (fun d => d.parameters.length) = some 2 := by decide +kernel
theorem hy_X4_takes : yX4_takes.cls ≠ "java/lang/invoke/MethodHandle" ∧ yX4_takes.cls ≠ "java/lang/invoke/VarHandle" ∧ (parseMethodDescriptor yX4_takes.desc).map (fun d => d.parameters.length) = some 2 := by decide +kernel
theorem hy_X5_gatherFalls : yX5_gatherFalls.cls ≠ "java/lang/invoke/MethodHandle" ∧ yX5_gatherFalls.cls ≠ "java/lang/invoke/VarHandle" ∧ (parseMethodDescriptor yX5_gatherFalls.desc).map (fun d => d.parameters.length) = some 1 := by decide +kernel
theorem hy_X5_howManyCaught : yX5_howManyCaught.cls ≠ "java/lang/invoke/MethodHandle" ∧ yX5_howManyCaught.cls ≠ "java/lang/invoke/VarHandle" ∧ (parseMethodDescriptor yX5_howManyCaught.desc).map (fun d => d.parameters.length) = some 1 := by decide +kernel
theorem hy_X5_howManyPhases : yX5_howManyPhases.cls ≠ "java/lang/invoke/MethodHandle" ∧ yX5_howManyPhases.cls ≠ "java/lang/invoke/VarHandle" ∧ (parseMethodDescriptor yX5_howManyPhases.desc).map (fun d => d.parameters.length) = some 1 := by decide +kernel
theorem hy_X5_leastHarmPlace : yX5_leastHarmPlace.cls ≠ "java/lang/invoke/MethodHandle" ∧ yX5_leastHarmPlace.cls ≠ "java/lang/invoke/VarHandle" ∧ (parseMethodDescriptor yX5_leastHarmPlace.desc).map (fun d => d.parameters.length) = some 0 := by decide +kernel
theorem hy_X5_leastLag : yX5_leastLag.cls ≠ "java/lang/invoke/MethodHandle" ∧ yX5_leastLag.cls ≠ "java/lang/invoke/VarHandle" ∧ (parseMethodDescriptor yX5_leastLag.desc).map (fun d => d.parameters.length) = some 1 := by decide +kernel
theorem hy_X5_leastPumps : yX5_leastPumps.cls ≠ "java/lang/invoke/MethodHandle" ∧ yX5_leastPumps.cls ≠ "java/lang/invoke/VarHandle" ∧ (parseMethodDescriptor yX5_leastPumps.desc).map (fun d => d.parameters.length) = some 1 := by decide +kernel
theorem hy_X5_leastSteps : yX5_leastSteps.cls ≠ "java/lang/invoke/MethodHandle" ∧ yX5_leastSteps.cls ≠ "java/lang/invoke/VarHandle" ∧ (parseMethodDescriptor yX5_leastSteps.desc).map (fun d => d.parameters.length) = some 1 := by decide +kernel
theorem hy_X5_start : yX5_start.cls ≠ "java/lang/invoke/MethodHandle" ∧ yX5_start.cls ≠ "java/lang/invoke/VarHandle" ∧ (parseMethodDescriptor yX5_start.desc).map (fun d => d.parameters.length) = some 1 := by decide +kernel
theorem hy_X5_surestWait : yX5_surestWait.cls ≠ "java/lang/invoke/MethodHandle" ∧ yX5_surestWait.cls ≠ "java/lang/invoke/VarHandle" ∧ (parseMethodDescriptor yX5_surestWait.desc).map (fun d => d.parameters.length) = some 1 := by decide +kernel
theorem hy_X6_bodyAt : yX6_bodyAt.cls ≠ "java/lang/invoke/MethodHandle" ∧ yX6_bodyAt.cls ≠ "java/lang/invoke/VarHandle" ∧ (parseMethodDescriptor yX6_bodyAt.desc).map (fun d => d.parameters.length) = some 1 := by decide +kernel
theorem hy_X6_speak : yX6_speak.cls ≠ "java/lang/invoke/MethodHandle" ∧ yX6_speak.cls ≠ "java/lang/invoke/VarHandle" ∧ (parseMethodDescriptor yX6_speak.desc).map (fun d => d.parameters.length) = some 4 := by decide +kernel
theorem hy_X7_addByte : yX7_addByte.cls ≠ "java/lang/invoke/MethodHandle" ∧ yX7_addByte.cls ≠ "java/lang/invoke/VarHandle" ∧ (parseMethodDescriptor yX7_addByte.desc).map (fun d => d.parameters.length) = some 1 := by decide +kernel
theorem hy_X7_addWaiting : yX7_addWaiting.cls ≠ "java/lang/invoke/MethodHandle" ∧ yX7_addWaiting.cls ≠ "java/lang/invoke/VarHandle" ∧ (parseMethodDescriptor yX7_addWaiting.desc).map (fun d => d.parameters.length) = some 1 := by decide +kernel
theorem hy_X7_copy : yX7_copy.cls ≠ "java/lang/invoke/MethodHandle" ∧ yX7_copy.cls ≠ "java/lang/invoke/VarHandle" ∧ (parseMethodDescriptor yX7_copy.desc).map (fun d => d.parameters.length) = some 1 := by decide +kernel
theorem hy_X7_draw : yX7_draw.cls ≠ "java/lang/invoke/MethodHandle" ∧ yX7_draw.cls ≠ "java/lang/invoke/VarHandle" ∧ (parseMethodDescriptor yX7_draw.desc).map (fun d => d.parameters.length) = some 0 := by decide +kernel
theorem hy_X7_flyerOf : yX7_flyerOf.cls ≠ "java/lang/invoke/MethodHandle" ∧ yX7_flyerOf.cls ≠ "java/lang/invoke/VarHandle" ∧ (parseMethodDescriptor yX7_flyerOf.desc).map (fun d => d.parameters.length) = some 1 := by decide +kernel
theorem hy_X7_lawOf : yX7_lawOf.cls ≠ "java/lang/invoke/MethodHandle" ∧ yX7_lawOf.cls ≠ "java/lang/invoke/VarHandle" ∧ (parseMethodDescriptor yX7_lawOf.desc).map (fun d => d.parameters.length) = some 1 := by decide +kernel
theorem hy_X7_swingOf : yX7_swingOf.cls ≠ "java/lang/invoke/MethodHandle" ∧ yX7_swingOf.cls ≠ "java/lang/invoke/VarHandle" ∧ (parseMethodDescriptor yX7_swingOf.desc).map (fun d => d.parameters.length) = some 1 := by decide +kernel
theorem hy_X8_error : yX8_error.cls ≠ "java/lang/invoke/MethodHandle" ∧ yX8_error.cls ≠ "java/lang/invoke/VarHandle" ∧ (parseMethodDescriptor yX8_error.desc).map (fun d => d.parameters.length) = some 1 := by decide +kernel
theorem hy_X8_goToldAt : yX8_goToldAt.cls ≠ "java/lang/invoke/MethodHandle" ∧ yX8_goToldAt.cls ≠ "java/lang/invoke/VarHandle" ∧ (parseMethodDescriptor yX8_goToldAt.desc).map (fun d => d.parameters.length) = some 2 := by decide +kernel
theorem hy_X8_isKindAndNumber : yX8_isKindAndNumber.cls ≠ "java/lang/invoke/MethodHandle" ∧ yX8_isKindAndNumber.cls ≠ "java/lang/invoke/VarHandle" ∧ (parseMethodDescriptor yX8_isKindAndNumber.desc).map (fun d => d.parameters.length) = some 1 := by decide +kernel
theorem hy_X8_isSpan : yX8_isSpan.cls ≠ "java/lang/invoke/MethodHandle" ∧ yX8_isSpan.cls ≠ "java/lang/invoke/VarHandle" ∧ (parseMethodDescriptor yX8_isSpan.desc).map (fun d => d.parameters.length) = some 1 := by decide +kernel
theorem hy_X8_oneEvening : yX8_oneEvening.cls ≠ "java/lang/invoke/MethodHandle" ∧ yX8_oneEvening.cls ≠ "java/lang/invoke/VarHandle" ∧ (parseMethodDescriptor yX8_oneEvening.desc).map (fun d => d.parameters.length) = some 0 := by decide +kernel
theorem hy_X8_orNone : yX8_orNone.cls ≠ "java/lang/invoke/MethodHandle" ∧ yX8_orNone.cls ≠ "java/lang/invoke/VarHandle" ∧ (parseMethodDescriptor yX8_orNone.desc).map (fun d => d.parameters.length) = some 1 := by decide +kernel
theorem hy_X8_partOf : yX8_partOf.cls ≠ "java/lang/invoke/MethodHandle" ∧ yX8_partOf.cls ≠ "java/lang/invoke/VarHandle" ∧ (parseMethodDescriptor yX8_partOf.desc).map (fun d => d.parameters.length) = some 3 := by decide +kernel
theorem hy_X8_sheetOf : yX8_sheetOf.cls ≠ "java/lang/invoke/MethodHandle" ∧ yX8_sheetOf.cls ≠ "java/lang/invoke/VarHandle" ∧ (parseMethodDescriptor yX8_sheetOf.desc).map (fun d => d.parameters.length) = some 1 := by decide +kernel
set_option maxHeartbeats 4000000 in
set_option maxRecDepth 100000 in
theorem wk_X8_error_L19 (V_l1 : VC_l1) (V_l2 : VC_l2) (V_m1 : VC_m1) (V_m2 : VC_m2) (V_x8 : VC_x8) {Z : Zt}  (C : CX Z layC RX8 cX8_error 2 (some .int) 1)     (f : Fn) (x1 : Int32) (h : wp_X8_error_L19   f x1 (zp Z)) : GG Z f [(1, .int x1)] 19 [] := by
  refine g_ldcw C tw_329 dX8_error_19 rfl ?_
  refine g_iload_n C rfl dX8_error_22 rfl ?_
  refine g_isub C dX8_error_23 rfl ?_
  exact g_iret C dX8_error_24 h
set_option maxHeartbeats 4000000 in
set_option maxRecDepth 100000 in
theorem wk_X8_error (V_l1 : VC_l1) (V_l2 : VC_l2) (V_m1 : VC_m1) (V_m2 : VC_m2) (V_x8 : VC_x8) {Z : Zt}  (C : CX Z layC RX8 cX8_error 2 (some .int) 1)     (f : Fn) (a1 : Int32) (h : wp_X8_error  f a1 (zp Z)) : GG Z f [(0, .ref (zad Z 0)), (1, .int a1)] 0 [] := by
  refine g_iload_n C rfl dX8_error_0 rfl ?_
  refine g_iconst C ki_1 dX8_error_1 rfl ?_
  refine g_iconst C ki_5 dX8_error_2 rfl ?_
  refine g_callSD C tw_328 tw_322 tw_1 tw_323 hy_X8_within (by decide) (by decide) rfl (Nat.le_of_ble_eq_true rfl) (ct_X8_within V_l1   f a1 (1 : Int32) (5 : Int32) ) dX8_error_3 rfl rfl ?_
  refine g_if_eq (tgt := 19) C dX8_error_6 (by decide) rfl (fun hc1 => ?_) (fun hc1 => ?_)
  · replace h := h.1 hc1
    refine g_lps [1] rfl ?_
    exact wk_X8_error_L19 V_l1 V_l2 V_m1 V_m2 V_x8  C    _ _ h
  · replace h := h.2 hc1
    refine g_aload_n C rfl dX8_error_9 rfl ?_
    refine fg_X8_48R (k := 0) (p := 56) C rfl rfl dX8_error_10 rfl ?_
    refine g_iload_n C rfl dX8_error_13 rfl ?_
    refine g_dup2 C rfl rfl dX8_error_14 rfl ?_
    have hs2 := h.1
    replace h := h.2
    refine g_ialdx (k := 56) (j := a1.toNatClampNeg) (x := (f 56 a1.toNatClampNeg)) C rfl hs2 rfl rfl dX8_error_15 rfl ?_
    refine g_iconst C ki_1 dX8_error_16 rfl ?_
    refine g_iadd C dX8_error_17 rfl ?_
    have hs3 := h.1
    replace h := h.2
    refine g_iastx (k := 56) (j := a1.toNatClampNeg) C rfl hs3 rfl dX8_error_18 rfl ?_
    refine g_lps [1] rfl ?_
    exact wk_X8_error_L19 V_l1 V_l2 V_m1 V_m2 V_x8  C    _ _ h
set_option maxRecDepth 100000 in
theorem ct_X8_error (V_l1 : VC_l1) (V_l2 : VC_l2) (V_m1 : VC_m1) (V_m2 : VC_m2) (V_x8 : VC_x8) {l : Launch} {E : Ev}   (f : Fn) (a1 : Int32)  : CT l E layC yX8_error cX8_error 2 (some .int) 1 [.ref (E.2.1 0), .int a1] f (pI (Post_X8_error f a1)) := by
  refine CT.of (by decide +kernel) (Nat.le_of_ble_eq_true rfl) (fun Z hl9 hE9 hp9 C => ?_)
  subst hl9
  subst hE9
  exact wk_X8_error V_l1 V_l2 V_m1 V_m2 V_x8 C   f a1 (by rw [hp9]; exact V_x8.1  f a1  )
set_option maxHeartbeats 4000000 in
set_option maxRecDepth 100000 in
theorem wk_X8_orNone (V_l1 : VC_l1) (V_l2 : VC_l2) (V_m1 : VC_m1) (V_m2 : VC_m2) (V_x8 : VC_x8) {Z : Zt}  (C : CX Z layC RX8 cX8_orNone 2 (some .int) 2)     (f : Fn) (a1 : Int32) (h : wp_X8_orNone  f a1 (zp Z)) : GG Z f [(0, .ref (zad Z 0)), (1, .int a1)] 0 [] := by
  refine g_iload_n C rfl dX8_orNone_0 rfl ?_
  refine g_if_ge (tgt := 12) C dX8_orNone_1 (by decide) rfl (fun hc1 => ?_) (fun hc1 => ?_)
  · replace h := h.1 hc1
    refine g_iload_n C rfl dX8_orNone_12 rfl ?_
    exact g_iret C dX8_orNone_13 h
  · replace h := h.2 hc1
    refine g_aload_n C rfl dX8_orNone_4 rfl ?_
    refine g_iconst C ki_2 dX8_orNone_5 rfl ?_
    refine g_callVI C tw_324 tw_326 tp_0 tw_1 tw_327 hy_X8_error (by decide) (by decide) rfl (Nat.le_of_ble_eq_true rfl) rfl rfl (ct_X8_error V_l1 V_l2 V_m1 V_m2 V_x8   f (2 : Int32) ) dX8_orNone_6 rfl rfl (fun r2 f3 hp4 => ?_)
    replace h := h r2 f3 hp4
    refine g_goto (q := 13) C dX8_orNone_9 (by decide) ?_
    exact g_iret C dX8_orNone_13 h
set_option maxRecDepth 100000 in
theorem ct_X8_orNone (V_l1 : VC_l1) (V_l2 : VC_l2) (V_m1 : VC_m1) (V_m2 : VC_m2) (V_x8 : VC_x8) {l : Launch} {E : Ev}   (f : Fn) (a1 : Int32)  : CT l E layC yX8_orNone cX8_orNone 2 (some .int) 2 [.ref (E.2.1 0), .int a1] f (pI (Post_X8_orNone f a1)) := by
  refine CT.of (by decide +kernel) (Nat.le_of_ble_eq_true rfl) (fun Z hl9 hE9 hp9 C => ?_)
  subst hl9
  subst hE9
  exact wk_X8_orNone V_l1 V_l2 V_m1 V_m2 V_x8 C   f a1 (by rw [hp9]; exact V_x8.2.1  f a1  )
set_option maxHeartbeats 4000000 in
set_option maxRecDepth 100000 in
theorem wk_X8_sheetOf (V_l1 : VC_l1) (V_l2 : VC_l2) (V_m1 : VC_m1) (V_m2 : VC_m2) (V_x8 : VC_x8) {Z : Zt}  (C : CX Z layC RX8 cX8_sheetOf 2 (some (.object "CatchBars$Sheet")) 1)     (f : Fn) (a1 : Int32) (h : wp_X8_sheetOf (zad Z)  f a1 (zp Z)) : GG Z f [(0, .ref (zad Z 0)), (1, .int a1)] 0 [] := by
  refine g_iload_n C rfl dX8_sheetOf_0 rfl ?_
  refine g_iconst C ki_0 dX8_sheetOf_1 rfl ?_
  refine g_iconst C ki_3 dX8_sheetOf_2 rfl ?_
  refine g_callSD C tw_328 tw_322 tw_1 tw_323 hy_X8_within (by decide) (by decide) rfl (Nat.le_of_ble_eq_true rfl) (ct_X8_within V_l1   f a1 (0 : Int32) (3 : Int32) ) dX8_sheetOf_3 rfl rfl ?_
  refine g_if_eq (tgt := 18) C dX8_sheetOf_6 (by decide) rfl (fun hc1 => ?_) (fun hc1 => ?_)
  · replace h := h.1 hc1
    refine g_null C dX8_sheetOf_18 rfl ?_
    exact g_aret C (Or.inl rfl) dX8_sheetOf_19 h
  · replace h := h.2 hc1
    refine g_aload_n C rfl dX8_sheetOf_9 rfl ?_
    refine fg_X8_44R (k := 0) (p := 47) C rfl rfl dX8_sheetOf_10 rfl ?_
    refine g_iload_n C rfl dX8_sheetOf_13 rfl ?_
    have hs2 := h.1
    replace h := h.2
    refine g_aald (k := 47) C rfl (by decide) hs2 dX8_sheetOf_14 rfl (fun k3 hr4 => ?_)
    replace h := h k3 hr4
    refine g_goto (q := 19) C dX8_sheetOf_15 (by decide) ?_
    exact g_aret C (Or.inr ⟨_, rfl⟩) dX8_sheetOf_19 h
set_option maxRecDepth 100000 in
theorem ct_X8_sheetOf (V_l1 : VC_l1) (V_l2 : VC_l2) (V_m1 : VC_m1) (V_m2 : VC_m2) (V_x8 : VC_x8) {l : Launch} {E : Ev}   (f : Fn) (a1 : Int32)  : CT l E layC yX8_sheetOf cX8_sheetOf 2 (some (.object "CatchBars$Sheet")) 1 [.ref (E.2.1 0), .int a1] f (pR E.2.1 (fun r9 f9 => r9 = Val_X8_sheetOf f a1 ∧ f9 = f)) := by
  refine CT.of (by decide +kernel) (Nat.le_of_ble_eq_true rfl) (fun Z hl9 hE9 hp9 C => ?_)
  subst hl9
  subst hE9
  exact wk_X8_sheetOf V_l1 V_l2 V_m1 V_m2 V_x8 C   f a1 (by rw [hp9]; exact V_x8.2.2.1 (zad Z)  f a1  )
set_option maxHeartbeats 4000000 in
set_option maxRecDepth 100000 in
theorem wk_X8_isSpan (V_l1 : VC_l1) (V_l2 : VC_l2) (V_m1 : VC_m1) (V_m2 : VC_m2) (V_x8 : VC_x8) {Z : Zt}  (C : CX Z layC RX8 cX8_isSpan 1 (some .boolean) 1)     (f : Fn) (a1 : Int32) (h : wp_X8_isSpan  f a1 (zp Z)) : GG Z f [(0, .int a1)] 0 [] := by
  refine g_iload_n C rfl dX8_isSpan_0 rfl ?_
  refine g_iconst C ki_1 dX8_isSpan_1 rfl ?_
  refine g_bipush C kb_60 dX8_isSpan_2 rfl ?_
  refine g_callSD C tw_328 tw_322 tw_1 tw_323 hy_X8_within (by decide) (by decide) rfl (Nat.le_of_ble_eq_true rfl) (ct_X8_within V_l1   f a1 (1 : Int32) (60 : Int32) ) dX8_isSpan_4 rfl rfl ?_
  have hs1 := h.1
  replace h := h.2
  exact g_zret C hs1 dX8_isSpan_7 h
set_option maxRecDepth 100000 in
theorem ct_X8_isSpan (V_l1 : VC_l1) (V_l2 : VC_l2) (V_m1 : VC_m1) (V_m2 : VC_m2) (V_x8 : VC_x8) {l : Launch} {E : Ev}   (f : Fn) (a1 : Int32)  : CT l E layC yX8_isSpan cX8_isSpan 1 (some .boolean) 1 [.int a1] f (pI (fun r9 f9 => r9 = Val_X8_isSpan f a1 ∧ f9 = f)) := by
  refine CT.of (by decide +kernel) (Nat.le_of_ble_eq_true rfl) (fun Z hl9 hE9 hp9 C => ?_)
  subst hl9
  subst hE9
  exact wk_X8_isSpan V_l1 V_l2 V_m1 V_m2 V_x8 C   f a1 (by rw [hp9]; exact V_x8.2.2.2.1  f a1  )
set_option maxHeartbeats 4000000 in
set_option maxRecDepth 100000 in
theorem wk_X8_isKindAndNumber (V_l1 : VC_l1) (V_l2 : VC_l2) (V_m1 : VC_m1) (V_m2 : VC_m2) (V_x8 : VC_x8) {Z : Zt}  (C : CX Z layC RX8 cX8_isKindAndNumber 1 (some .boolean) 1)     (f : Fn) (a1 : Int32) (h : wp_X8_isKindAndNumber  f a1 (zp Z)) : GG Z f [(0, .int a1)] 0 [] := by
  refine g_iload_n C rfl dX8_isKindAndNumber_0 rfl ?_
  refine g_iconst C ki_0 dX8_isKindAndNumber_1 rfl ?_
  refine g_bipush C kb_69 dX8_isKindAndNumber_2 rfl ?_
  refine g_callSD C tw_328 tw_322 tw_1 tw_323 hy_X8_within (by decide) (by decide) rfl (Nat.le_of_ble_eq_true rfl) (ct_X8_within V_l1   f a1 (0 : Int32) (69 : Int32) ) dX8_isKindAndNumber_4 rfl rfl ?_
  have hs1 := h.1
  replace h := h.2
  exact g_zret C hs1 dX8_isKindAndNumber_7 h
set_option maxRecDepth 100000 in
theorem ct_X8_isKindAndNumber (V_l1 : VC_l1) (V_l2 : VC_l2) (V_m1 : VC_m1) (V_m2 : VC_m2) (V_x8 : VC_x8) {l : Launch} {E : Ev}   (f : Fn) (a1 : Int32)  : CT l E layC yX8_isKindAndNumber cX8_isKindAndNumber 1 (some .boolean) 1 [.int a1] f (pI (fun r9 f9 => r9 = Val_X8_isKindAndNumber f a1 ∧ f9 = f)) := by
  refine CT.of (by decide +kernel) (Nat.le_of_ble_eq_true rfl) (fun Z hl9 hE9 hp9 C => ?_)
  subst hl9
  subst hE9
  exact wk_X8_isKindAndNumber V_l1 V_l2 V_m1 V_m2 V_x8 C   f a1 (by rw [hp9]; exact V_x8.2.2.2.2.1  f a1  )
set_option maxHeartbeats 4000000 in
set_option maxRecDepth 100000 in
theorem wk_X8_partOf_L41 (V_l1 : VC_l1) (V_l2 : VC_l2) (V_m1 : VC_m1) (V_m2 : VC_m2) (V_x8 : VC_x8) {Z : Zt}  (C : CX Z layC RX8 cX8_partOf 7 (some .int) 1)     (f : Fn) (x0 : Int32) (x1 : Int32) (x2 : Int32) (x3 : Int32) (h : wp_X8_partOf_L41   f x0 x1 x2 x3 (zp Z)) : GG Z f [(0, .int x0), (1, .int x1), (2, .int x2), (3, .int x3)] 41 [] := by
  refine g_iconst C ki_1 dX8_partOf_41 rfl ?_
  refine g_iload_n C rfl dX8_partOf_42 rfl ?_
  refine g_callSD C tw_589 tw_335 tw_11 tw_336 hy_J9_max_7cf53 (by decide) (by decide) rfl (Nat.le_of_ble_eq_true rfl) (ct_J9_max_7cf53 V_l1   f (1 : Int32) x3 ) dX8_partOf_43 rfl rfl ?_
  refine g_istore (lv' := [(5, .int (Val_J9_max_7cf53 f (1 : Int32) x3)), (0, .int x0), (1, .int x1), (2, .int x2), (3, .int x3)]) C dX8_partOf_46 (by decide) rfl rfl ?_
  refine g_iload_n C rfl dX8_partOf_48 rfl ?_
  refine g_if_ne (tgt := 59) C dX8_partOf_49 (by decide) rfl (fun hc2 => ?_) (fun hc2 => ?_)
  · replace h := h.1 hc2
    refine g_iload_n C rfl dX8_partOf_59 rfl ?_
    refine g_iload C rfl dX8_partOf_60 rfl ?_
    have hs3 := h.1
    replace h := h.2
    refine g_idiv C hs3 dX8_partOf_62 rfl ?_
    exact g_iret C dX8_partOf_63 h
  · replace h := h.2 hc2
    refine g_iload_n C rfl dX8_partOf_52 rfl ?_
    refine g_iload C rfl dX8_partOf_53 rfl ?_
    have hs4 := h.1
    replace h := h.2
    refine g_idiv C hs4 dX8_partOf_55 rfl ?_
    refine g_goto (q := 63) C dX8_partOf_56 (by decide) ?_
    exact g_iret C dX8_partOf_63 h
set_option maxHeartbeats 4000000 in
set_option maxRecDepth 100000 in
theorem wkb_X8_partOf_L11 (V_l1 : VC_l1) (V_l2 : VC_l2) (V_m1 : VC_m1) (V_m2 : VC_m2) (V_x8 : VC_x8) {Z : Zt}  (C : CX Z layC RX8 cX8_partOf 7 (some .int) 1)   {K11 : Fn → Int32 → Int32 → Int32 → Int32 → Int32 → Int32 → Prop} (hK11 : ∀ (f : Fn) (x0 : Int32) (x1 : Int32) (x2 : Int32) (x3 : Int32) (x4 : Int32) (x5 : Int32), K11 f x0 x1 x2 x3 x4 x5 → GG Z f [(0, .int x0), (1, .int x1), (2, .int x2), (3, .int x3), (4, .int x4), (5, .int x5)] 11 []) (f : Fn) (x0 : Int32) (x1 : Int32) (x2 : Int32) (x3 : Int32) (x4 : Int32) (x5 : Int32) (h : wpb_X8_partOf_L11   K11 f x0 x1 x2 x3 x4 x5 (zp Z)) : GG Z f [(0, .int x0), (1, .int x1), (2, .int x2), (3, .int x3), (4, .int x4), (5, .int x5)] 11 [] := by
  refine g_iload C rfl dX8_partOf_11 rfl ?_
  refine g_iload_n C rfl dX8_partOf_13 rfl ?_
  refine g_icmp_ge (tgt := 41) C dX8_partOf_14 (by decide) rfl (fun hc1 => ?_) (fun hc1 => ?_)
  · replace h := h.1 hc1
    refine g_lps [0, 1, 2, 3] rfl ?_
    exact wk_X8_partOf_L41 V_l1 V_l2 V_m1 V_m2 V_x8  C    _ _ _ _ _ h
  · replace h := h.2 hc1
    refine g_iload C rfl dX8_partOf_17 rfl ?_
    refine g_if_eq (tgt := 41) C dX8_partOf_19 (by decide) rfl (fun hc5 => ?_) (fun hc5 => ?_)
    · replace h := h.1 hc5
      refine g_lps [0, 1, 2, 3] rfl ?_
      exact wk_X8_partOf_L41 V_l1 V_l2 V_m1 V_m2 V_x8  C    _ _ _ _ _ h
    · replace h := h.2 hc5
      refine g_iload_n C rfl dX8_partOf_22 rfl ?_
      refine g_iload C rfl dX8_partOf_23 rfl ?_
      have hs6 := h.1
      replace h := h.2
      refine g_irem C hs6 dX8_partOf_25 rfl ?_
      refine g_istore (lv' := [(6, .int (x3 - (x3 / x4) * x4)), (0, .int x0), (1, .int x1), (2, .int x2), (3, .int x3), (4, .int x4), (5, .int x5)]) C dX8_partOf_26 (by decide) rfl rfl ?_
      refine g_iload C rfl dX8_partOf_28 rfl ?_
      refine g_istore_n (lv' := [(3, .int x4), (6, .int (x3 - (x3 / x4) * x4)), (0, .int x0), (1, .int x1), (2, .int x2), (4, .int x4), (5, .int x5)]) C dX8_partOf_30 (by decide) rfl rfl ?_
      refine g_iload C rfl dX8_partOf_31 rfl ?_
      refine g_istore (lv' := [(4, .int (x3 - (x3 / x4) * x4)), (3, .int x4), (6, .int (x3 - (x3 / x4) * x4)), (0, .int x0), (1, .int x1), (2, .int x2), (5, .int x5)]) C dX8_partOf_33 (by decide) rfl rfl ?_
      refine g_iinc (lv' := [(5, .int (x5 + (1 : Int32))), (4, .int (x3 - (x3 / x4) * x4)), (3, .int x4), (6, .int (x3 - (x3 / x4) * x4)), (0, .int x0), (1, .int x1), (2, .int x2)]) C dX8_partOf_35 rfl (inc_1 _) (by decide) rfl rfl ?_
      refine g_goto (q := 11) C dX8_partOf_38 (by decide) ?_
      refine g_lps [0, 1, 2, 3, 4, 5] rfl ?_
      exact hK11 _ _ _ _ _ _ _ h
set_option maxHeartbeats 4000000 in
set_option maxRecDepth 100000 in
theorem wk_X8_partOf_L11 (V_l1 : VC_l1) (V_l2 : VC_l2) (V_m1 : VC_m1) (V_m2 : VC_m2) (V_x8 : VC_x8) {Z : Zt}  (C : CX Z layC RX8 cX8_partOf 7 (some .int) 1)     (f : Fn) (x0 : Int32) (x1 : Int32) (x2 : Int32) (x3 : Int32) (x4 : Int32) (x5 : Int32) (h : wp_X8_partOf_L11   f x0 x1 x2 x3 x4 x5 (zp Z)) : GG Z f [(0, .int x0), (1, .int x1), (2, .int x2), (3, .int x3), (4, .int x4), (5, .int x5)] 11 [] := by
  obtain ⟨I, μ, h0, hs⟩ := h
  suffices H : ∀ (N : Nat) (f : Fn) (x0 : Int32) (x1 : Int32) (x2 : Int32) (x3 : Int32) (x4 : Int32) (x5 : Int32), μ f x0 x1 x2 x3 x4 x5 < N → I f x0 x1 x2 x3 x4 x5 → GG Z f [(0, .int x0), (1, .int x1), (2, .int x2), (3, .int x3), (4, .int x4), (5, .int x5)] 11 [] from H _ f x0 x1 x2 x3 x4 x5 (Nat.lt_succ_self _) h0
  clear h0
  intro N
  induction N with
  | zero => intro f x0 x1 x2 x3 x4 x5 hm; exact absurd hm (Nat.not_lt_zero _)
  | succ N ih =>
    intro f x0 x1 x2 x3 x4 x5 hm hi
    exact wkb_X8_partOf_L11 V_l1 V_l2 V_m1 V_m2 V_x8  C    (fun f9 x09 x19 x29 x39 x49 x59 hk => ih f9 x09 x19 x29 x39 x49 x59 (Nat.lt_of_lt_of_le hk.2 (Nat.le_of_lt_succ hm)) hk.1) f x0 x1 x2 x3 x4 x5 (hs f x0 x1 x2 x3 x4 x5 hi)
set_option maxHeartbeats 4000000 in
set_option maxRecDepth 100000 in
theorem wk_X8_partOf (V_l1 : VC_l1) (V_l2 : VC_l2) (V_m1 : VC_m1) (V_m2 : VC_m2) (V_x8 : VC_x8) {Z : Zt}  (C : CX Z layC RX8 cX8_partOf 7 (some .int) 1)     (f : Fn) (a1 : Int32) (a2 : Int32) (a3 : Int32) (h : wp_X8_partOf  f a1 a2 a3 (zp Z)) : GG Z f [(0, .int a1), (1, .int a2), (2, .int a3)] 0 [] := by
  refine g_iload_n C rfl dX8_partOf_0 rfl ?_
  refine g_callSD C tw_520 tw_349 tw_11 tw_350 hy_J9_abs_0f7a4 (by decide) (by decide) rfl (Nat.le_of_ble_eq_true rfl) (ct_J9_abs_0f7a4 V_l1   f a1 ) dX8_partOf_1 rfl rfl ?_
  refine g_istore_n (lv' := [(3, .int (Val_J9_abs_0f7a4 f a1)), (0, .int a1), (1, .int a2), (2, .int a3)]) C dX8_partOf_4 (by decide) rfl rfl ?_
  refine g_iload_n C rfl dX8_partOf_5 rfl ?_
  refine g_istore (lv' := [(4, .int a2), (3, .int (Val_J9_abs_0f7a4 f a1)), (0, .int a1), (1, .int a2), (2, .int a3)]) C dX8_partOf_6 (by decide) rfl rfl ?_
  refine g_iconst C ki_0 dX8_partOf_8 rfl ?_
  refine g_istore (lv' := [(5, .int (0 : Int32)), (4, .int a2), (3, .int (Val_J9_abs_0f7a4 f a1)), (0, .int a1), (1, .int a2), (2, .int a3)]) C dX8_partOf_9 (by decide) rfl rfl ?_
  refine g_lps [0, 1, 2, 3, 4, 5] rfl ?_
  exact wk_X8_partOf_L11 V_l1 V_l2 V_m1 V_m2 V_x8  C    _ _ _ _ _ _ _ h
set_option maxRecDepth 100000 in
theorem ct_X8_partOf (V_l1 : VC_l1) (V_l2 : VC_l2) (V_m1 : VC_m1) (V_m2 : VC_m2) (V_x8 : VC_x8) {l : Launch} {E : Ev}   (f : Fn) (a1 : Int32) (a2 : Int32) (a3 : Int32) (hpre : Pre_X8_partOf f a1 a2 a3) : CT l E layC yX8_partOf cX8_partOf 7 (some .int) 1 [.int a1, .int a2, .int a3] f (pI (fun r9 f9 => r9 = Val_X8_partOf f a1 a2 a3 ∧ f9 = f)) := by
  refine CT.of (by decide +kernel) (Nat.le_of_ble_eq_true rfl) (fun Z hl9 hE9 hp9 C => ?_)
  subst hl9
  subst hE9
  exact wk_X8_partOf V_l1 V_l2 V_m1 V_m2 V_x8 C   f a1 a2 a3 (by rw [hp9]; exact V_x8.2.2.2.2.2.1  f a1 a2 a3  hpre)
set_option maxHeartbeats 4000000 in
set_option maxRecDepth 100000 in
theorem wk_X8_goToldAt (V_l1 : VC_l1) (V_l2 : VC_l2) (V_m1 : VC_m1) (V_m2 : VC_m2) (V_x8 : VC_x8) {Z : Zt}  (C : CX Z layC RX8 cX8_goToldAt 5 (some .int) 4) (o : Nat) (ho : isFl o)   (f : Fn) (a2 : Int32) (h : wp_X8_goToldAt o f a2 (zp Z)) : GG Z f [(0, .ref (zad Z 0)), (1, .ref (zad Z o)), (2, .int a2)] 0 [] := by
  refine g_aload_n C rfl dX8_goToldAt_0 rfl ?_
  refine fg_X8_24R (k := 0) (p := 37) C rfl rfl dX8_goToldAt_1 rfl ?_
  refine g_aload_n C rfl dX8_goToldAt_4 rfl ?_
  refine g_callVV C tw_487 tw_488 tw_489 tw_6 tw_490 hy_X5_start (by decide) (by decide) rfl (Nat.le_of_ble_eq_true rfl) rfl rfl (ct_X5_start V_l1 V_l2 o ho f ) dX8_goToldAt_5 rfl rfl (fun f1 hp2 => ?_)
  replace h := h f1 hp2
  refine g_aload_n C rfl dX8_goToldAt_8 rfl ?_
  refine fg_X8_24R (k := 0) (p := 37) C rfl rfl dX8_goToldAt_9 rfl ?_
  refine g_iload_n C rfl dX8_goToldAt_12 rfl ?_
  refine g_callVI C tw_500 tw_501 tw_502 tw_6 tw_503 hy_X5_isCaught (by decide) (by decide) rfl (Nat.le_of_ble_eq_true rfl) rfl rfl (ct_X5_isCaught V_l1 V_l2   f1 a2 ) dX8_goToldAt_13 rfl rfl (fun r3 f4 hp5 => ?_)
  replace h := h r3 f4 hp5
  refine g_istore_n (lv' := [(3, .int r3), (0, .ref (zad Z 0)), (1, .ref (zad Z o)), (2, .int a2)]) C dX8_goToldAt_16 (by decide) rfl rfl ?_
  refine g_aload_n C rfl dX8_goToldAt_17 rfl ?_
  refine g_aload_n C rfl dX8_goToldAt_18 rfl ?_
  refine fg_X8_24R (k := 0) (p := 37) C rfl rfl dX8_goToldAt_19 rfl ?_
  refine fg_X8_187I (k := 37) (x := (f4 37 8)) C rfl rfl rfl dX8_goToldAt_22 rfl ?_
  refine g_aload_n C rfl dX8_goToldAt_25 rfl ?_
  refine fg_X8_10R (k := 0) (p := 1) C rfl rfl dX8_goToldAt_26 rfl ?_
  refine fg_X8_85I (k := 1) (x := (f4 1 4)) C rfl rfl rfl dX8_goToldAt_29 rfl ?_
  refine g_isub C dX8_goToldAt_32 rfl ?_
  refine g_callSD C tw_520 tw_349 tw_11 tw_350 hy_J9_abs_0f7a4 (by decide) (by decide) rfl (Nat.le_of_ble_eq_true rfl) (ct_J9_abs_0f7a4 V_l1   f4 ((f4 37 8) - (f4 1 4)) ) dX8_goToldAt_33 rfl rfl ?_
  refine g_callVD C tw_387 tw_388 tw_389 tw_5 tw_390 hy_X0_harm (by decide) (by decide) rfl (Nat.le_of_ble_eq_true rfl) ho rfl (ct_X0_harm V_l1 o ho f4 (Val_J9_abs_0f7a4 f4 ((f4 37 8) - (f4 1 4))) ) dX8_goToldAt_36 rfl rfl ?_
  refine g_istore (lv' := [(4, .int (Val_X0_harm o f4 (Val_J9_abs_0f7a4 f4 ((f4 37 8) - (f4 1 4))))), (3, .int r3), (0, .ref (zad Z 0)), (1, .ref (zad Z o)), (2, .int a2)]) C dX8_goToldAt_39 (by decide) rfl rfl ?_
  refine g_aload_n C rfl dX8_goToldAt_41 rfl ?_
  refine g_bipush C kb_99 dX8_goToldAt_42 rfl ?_
  refine g_aload_n C rfl dX8_goToldAt_44 rfl ?_
  refine fg_X8_114I (k := o) (x := (f4 o 3)) C ho rfl rfl dX8_goToldAt_45 rfl ?_
  refine g_iconst C ki_1 dX8_goToldAt_48 rfl ?_
  refine g_iadd C dX8_goToldAt_49 rfl ?_
  refine g_callSD C tw_521 tw_462 tw_11 tw_463 hy_J9_min_7cf53 (by decide) (by decide) rfl (Nat.le_of_ble_eq_true rfl) (ct_J9_min_7cf53 V_l1   f4 (99 : Int32) ((f4 o 3) + (1 : Int32)) ) dX8_goToldAt_50 rfl rfl ?_
  refine fp_X8_114 (k := o) C ho rfl (Nat.le_of_ble_eq_true rfl) dX8_goToldAt_53 rfl ?_
  refine g_iload_n C rfl dX8_goToldAt_56 rfl ?_
  refine g_if_eq (tgt := 84) C dX8_goToldAt_57 (by decide) rfl (fun hc6 => ?_) (fun hc6 => ?_)
  · replace h := h.1 hc6
    refine g_aload_n C rfl dX8_goToldAt_84 rfl ?_
    refine fg_X8_10R (k := 0) (p := 1) C rfl rfl dX8_goToldAt_85 rfl ?_
    refine g_sipush C ks_9999 dX8_goToldAt_88 rfl ?_
    refine g_aload_n C rfl dX8_goToldAt_91 rfl ?_
    refine fg_X8_10R (k := 0) (p := 1) C rfl rfl dX8_goToldAt_92 rfl ?_
    refine fg_X8_315I (k := 1) (x := ((up2 f4 o 3 (Val_J9_min_7cf53 f4 (99 : Int32) ((f4 o 3) + (1 : Int32)))) 1 13)) C rfl rfl rfl dX8_goToldAt_95 rfl ?_
    refine g_iconst C ki_1 dX8_goToldAt_98 rfl ?_
    refine g_iadd C dX8_goToldAt_99 rfl ?_
    refine g_callSD C tw_521 tw_462 tw_11 tw_463 hy_J9_min_7cf53 (by decide) (by decide) rfl (Nat.le_of_ble_eq_true rfl) (ct_J9_min_7cf53 V_l1   (up2 f4 o 3 (Val_J9_min_7cf53 f4 (99 : Int32) ((f4 o 3) + (1 : Int32)))) (9999 : Int32) (((up2 f4 o 3 (Val_J9_min_7cf53 f4 (99 : Int32) ((f4 o 3) + (1 : Int32)))) 1 13) + (1 : Int32)) ) dX8_goToldAt_100 rfl rfl ?_
    refine fp_X8_315 (k := 1) C rfl rfl (Nat.le_of_ble_eq_true rfl) dX8_goToldAt_103 rfl ?_
    refine g_aload_n C rfl dX8_goToldAt_106 rfl ?_
    refine fg_X8_10R (k := 0) (p := 1) C rfl rfl dX8_goToldAt_107 rfl ?_
    refine g_ldcw C tw_522 dX8_goToldAt_110 rfl ?_
    refine g_aload_n C rfl dX8_goToldAt_113 rfl ?_
    refine fg_X8_10R (k := 0) (p := 1) C rfl rfl dX8_goToldAt_114 rfl ?_
    refine fg_X8_318I (k := 1) (x := ((up2 f4 o 3 (Val_J9_min_7cf53 f4 (99 : Int32) ((f4 o 3) + (1 : Int32)))) 1 14)) C rfl rfl (by simp [up2, upd]) dX8_goToldAt_117 rfl ?_
    refine g_iload C rfl dX8_goToldAt_120 rfl ?_
    refine g_iadd C dX8_goToldAt_122 rfl ?_
    refine g_callSD C tw_521 tw_462 tw_11 tw_463 hy_J9_min_7cf53 (by decide) (by decide) rfl (Nat.le_of_ble_eq_true rfl) (ct_J9_min_7cf53 V_l1   (up2 (up2 f4 o 3 (Val_J9_min_7cf53 f4 (99 : Int32) ((f4 o 3) + (1 : Int32)))) 1 13 (Val_J9_min_7cf53 (up2 f4 o 3 (Val_J9_min_7cf53 f4 (99 : Int32) ((f4 o 3) + (1 : Int32)))) (9999 : Int32) (((up2 f4 o 3 (Val_J9_min_7cf53 f4 (99 : Int32) ((f4 o 3) + (1 : Int32)))) 1 13) + (1 : Int32)))) (99999 : Int32) (((up2 f4 o 3 (Val_J9_min_7cf53 f4 (99 : Int32) ((f4 o 3) + (1 : Int32)))) 1 14) + (Val_X0_harm o f4 (Val_J9_abs_0f7a4 f4 ((f4 37 8) - (f4 1 4))))) ) dX8_goToldAt_123 rfl rfl ?_
    refine fp_X8_318 (k := 1) C rfl rfl (Nat.le_of_ble_eq_true rfl) dX8_goToldAt_126 rfl ?_
    refine g_iconst C ki_1 dX8_goToldAt_129 rfl ?_
    refine g_iload C rfl dX8_goToldAt_130 rfl ?_
    refine g_iadd C dX8_goToldAt_132 rfl ?_
    exact g_iret C dX8_goToldAt_133 h
  · replace h := h.2 hc6
    refine g_aload_n C rfl dX8_goToldAt_60 rfl ?_
    refine fg_X8_10R (k := 0) (p := 1) C rfl rfl dX8_goToldAt_61 rfl ?_
    refine g_sipush C ks_9999 dX8_goToldAt_64 rfl ?_
    refine g_aload_n C rfl dX8_goToldAt_67 rfl ?_
    refine fg_X8_10R (k := 0) (p := 1) C rfl rfl dX8_goToldAt_68 rfl ?_
    refine fg_X8_171I (k := 1) (x := ((up2 f4 o 3 (Val_J9_min_7cf53 f4 (99 : Int32) ((f4 o 3) + (1 : Int32)))) 1 12)) C rfl rfl rfl dX8_goToldAt_71 rfl ?_
    refine g_iconst C ki_1 dX8_goToldAt_74 rfl ?_
    refine g_iadd C dX8_goToldAt_75 rfl ?_
    refine g_callSD C tw_521 tw_462 tw_11 tw_463 hy_J9_min_7cf53 (by decide) (by decide) rfl (Nat.le_of_ble_eq_true rfl) (ct_J9_min_7cf53 V_l1   (up2 f4 o 3 (Val_J9_min_7cf53 f4 (99 : Int32) ((f4 o 3) + (1 : Int32)))) (9999 : Int32) (((up2 f4 o 3 (Val_J9_min_7cf53 f4 (99 : Int32) ((f4 o 3) + (1 : Int32)))) 1 12) + (1 : Int32)) ) dX8_goToldAt_76 rfl rfl ?_
    refine fp_X8_171 (k := 1) C rfl rfl (Nat.le_of_ble_eq_true rfl) dX8_goToldAt_79 rfl ?_
    refine g_iconst C ki_0 dX8_goToldAt_82 rfl ?_
    exact g_iret C dX8_goToldAt_83 h
set_option maxRecDepth 100000 in
theorem ct_X8_goToldAt (V_l1 : VC_l1) (V_l2 : VC_l2) (V_m1 : VC_m1) (V_m2 : VC_m2) (V_x8 : VC_x8) {l : Launch} {E : Ev} (o : Nat) (ho : isFl o) (f : Fn) (a2 : Int32) (hpre : Pre_X8_goToldAt o f a2) : CT l E layC yX8_goToldAt cX8_goToldAt 5 (some .int) 4 [.ref (E.2.1 0), .ref (E.2.1 o), .int a2] f (pI (Post_X8_goToldAt o f a2)) := by
  refine CT.of (by decide +kernel) (Nat.le_of_ble_eq_true rfl) (fun Z hl9 hE9 hp9 C => ?_)
  subst hl9
  subst hE9
  exact wk_X8_goToldAt V_l1 V_l2 V_m1 V_m2 V_x8 C o ho f a2 (by rw [hp9]; exact V_x8.2.2.2.2.2.2.1 o f a2 ho hpre)
set_option maxHeartbeats 4000000 in
set_option maxRecDepth 100000 in
theorem wk_X8_oneEvening_L52 (V_l1 : VC_l1) (V_l2 : VC_l2) (V_m1 : VC_m1) (V_m2 : VC_m2) (V_x8 : VC_x8) {Z : Zt}  (C : CX Z layC RX8 cX8_oneEvening 4 none 5)   {K2 : Fn → Int32 → Prop} (hK2 : ∀ (f : Fn) (x1 : Int32), K2 f x1 → GG Z f [(0, .ref (zad Z 0)), (1, .int x1)] 2 []) (f : Fn) (x1 : Int32) (h : wp_X8_oneEvening_L52  K2 f x1 (zp Z)) : GG Z f [(0, .ref (zad Z 0)), (1, .int x1)] 52 [] := by
  refine g_iinc (lv' := [(1, .int (x1 + (1 : Int32))), (0, .ref (zad Z 0))]) C dX8_oneEvening_52 rfl (inc_1 _) (by decide) rfl rfl ?_
  refine g_goto (q := 2) C dX8_oneEvening_55 (by decide) ?_
  refine g_lps [0, 1] rfl ?_
  exact hK2 _ _ h
set_option maxHeartbeats 4000000 in
set_option maxRecDepth 100000 in
theorem wkb_X8_oneEvening_L2 (V_l1 : VC_l1) (V_l2 : VC_l2) (V_m1 : VC_m1) (V_m2 : VC_m2) (V_x8 : VC_x8) {Z : Zt}  (C : CX Z layC RX8 cX8_oneEvening 4 none 5)   {K2 : Fn → Int32 → Prop} (hK2 : ∀ (f : Fn) (x1 : Int32), K2 f x1 → GG Z f [(0, .ref (zad Z 0)), (1, .int x1)] 2 []) (f : Fn) (x1 : Int32) (h : wpb_X8_oneEvening_L2   K2 f x1 (zp Z)) : GG Z f [(0, .ref (zad Z 0)), (1, .int x1)] 2 [] := by
  refine g_iload_n C rfl dX8_oneEvening_2 rfl ?_
  refine g_aload_n C rfl dX8_oneEvening_3 rfl ?_
  refine fg_X8_10R (k := 0) (p := 1) C rfl rfl dX8_oneEvening_4 rfl ?_
  refine fg_X8_92I (k := 1) (x := (f 1 7)) C rfl rfl rfl dX8_oneEvening_7 rfl ?_
  refine g_icmp_ge (tgt := 58) C dX8_oneEvening_10 (by decide) rfl (fun hc1 => ?_) (fun hc1 => ?_)
  · replace h := h.1 hc1
    refine g_aload_n C rfl dX8_oneEvening_58 rfl ?_
    refine fg_X8_10R (k := 0) (p := 1) C rfl rfl dX8_oneEvening_59 rfl ?_
    refine g_dup C rfl dX8_oneEvening_62 rfl ?_
    refine fg_X8_161I (k := 1) (x := (f 1 5)) C rfl rfl rfl dX8_oneEvening_63 rfl ?_
    refine g_bipush C kb_12 dX8_oneEvening_66 rfl ?_
    refine g_iadd C dX8_oneEvening_68 rfl ?_
    refine fp_X8_161 (k := 1) C rfl rfl (Nat.le_of_ble_eq_true rfl) dX8_oneEvening_69 rfl ?_
    exact g_vret C dX8_oneEvening_72 h
  · replace h := h.2 hc1
    refine g_aload_n C rfl dX8_oneEvening_13 rfl ?_
    refine fg_X8_10R (k := 0) (p := 1) C rfl rfl dX8_oneEvening_14 rfl ?_
    refine g_callVI C tw_535 tw_536 tw_537 tw_2 tw_538 hy_X7_draw (by decide) (by decide) rfl (Nat.le_of_ble_eq_true rfl) rfl rfl (ct_X7_draw V_l1 V_l2   f ) dX8_oneEvening_17 rfl rfl (fun r2 f3 hp4 => ?_)
    replace h := h r2 f3 hp4
    refine g_bipush C kb_12 dX8_oneEvening_20 rfl ?_
    refine g_irem C (by decide) dX8_oneEvening_22 rfl ?_
    refine g_istore_n (lv' := [(2, .int (r2 - (r2 / (12 : Int32)) * (12 : Int32))), (0, .ref (zad Z 0)), (1, .int x1)]) C dX8_oneEvening_23 (by decide) rfl rfl ?_
    refine g_aload_n C rfl dX8_oneEvening_24 rfl ?_
    refine fg_X8_10R (k := 0) (p := 1) C rfl rfl dX8_oneEvening_25 rfl ?_
    refine g_iload_n C rfl dX8_oneEvening_28 rfl ?_
    refine g_callVQ C tw_362 tw_363 tw_364 tw_2 tw_365 hy_X7_flyerOf (by decide) (by decide) rfl (Nat.le_of_ble_eq_true rfl) rfl rfl (ct_X7_flyerOf V_l1 V_l2   f3 x1 ) dX8_oneEvening_29 rfl rfl (fun hv6 => ?_) (fun k5 hv6 => ?_)
    · replace h := h.1 hv6
      refine g_astore_nN (lv' := [(3, .null), (2, .int (r2 - (r2 / (12 : Int32)) * (12 : Int32))), (0, .ref (zad Z 0)), (1, .int x1)]) C dX8_oneEvening_32 (by decide) rfl rfl ?_
      refine g_aload_nN C rfl dX8_oneEvening_33 rfl ?_
      refine g_ifnull_n (q := 52) C dX8_oneEvening_34 (by decide) ?_
      refine g_lps [0, 1] rfl ?_
      exact wk_X8_oneEvening_L52 V_l1 V_l2 V_m1 V_m2 V_x8  C   hK2 _ _ h
    · replace h := h.2 k5 hv6
      refine g_astore_n (lv' := [(3, .ref (zad Z k5)), (2, .int (r2 - (r2 / (12 : Int32)) * (12 : Int32))), (0, .ref (zad Z 0)), (1, .int x1)]) C dX8_oneEvening_32 (by decide) rfl rfl ?_
      refine g_aload_n C rfl dX8_oneEvening_33 rfl ?_
      refine g_ifnull_r (q := 37) C dX8_oneEvening_34 rfl ?_
      refine g_aload_n C rfl dX8_oneEvening_37 rfl ?_
      refine g_aload_n C rfl dX8_oneEvening_38 rfl ?_
      refine g_aload_n C rfl dX8_oneEvening_39 rfl ?_
      refine fg_X8_10R (k := 0) (p := 1) C rfl rfl dX8_oneEvening_40 rfl ?_
      refine fg_X8_161I (k := 1) (x := (f3 1 5)) C rfl rfl rfl dX8_oneEvening_43 rfl ?_
      refine g_iload_n C rfl dX8_oneEvening_46 rfl ?_
      refine g_iadd C dX8_oneEvening_47 rfl ?_
      have hs7 := h.1
      replace h := h.2
      have hs8 := h.1
      replace h := h.2
      refine g_callVI C tw_483 tw_485 tp_6 tw_1 tw_486 hy_X8_goToldAt (by decide) (by decide) rfl (Nat.le_of_ble_eq_true rfl) rfl rfl (ct_X8_goToldAt V_l1 V_l2 V_m1 V_m2 V_x8 k5 hs7 f3 ((f3 1 5) + (r2 - (r2 / (12 : Int32)) * (12 : Int32))) hs8) dX8_oneEvening_48 rfl rfl (fun r9 f10 hp11 => ?_)
      replace h := h r9 f10 hp11
      refine g_pop C rfl dX8_oneEvening_51 rfl ?_
      refine g_lps [0, 1] rfl ?_
      exact wk_X8_oneEvening_L52 V_l1 V_l2 V_m1 V_m2 V_x8  C   hK2 _ _ h
set_option maxHeartbeats 4000000 in
set_option maxRecDepth 100000 in
theorem wk_X8_oneEvening_L2 (V_l1 : VC_l1) (V_l2 : VC_l2) (V_m1 : VC_m1) (V_m2 : VC_m2) (V_x8 : VC_x8) {Z : Zt}  (C : CX Z layC RX8 cX8_oneEvening 4 none 5)     (f : Fn) (x1 : Int32) (h : wp_X8_oneEvening_L2   f x1 (zp Z)) : GG Z f [(0, .ref (zad Z 0)), (1, .int x1)] 2 [] := by
  obtain ⟨I, μ, h0, hs⟩ := h
  suffices H : ∀ (N : Nat) (f : Fn) (x1 : Int32), μ f x1 < N → I f x1 → GG Z f [(0, .ref (zad Z 0)), (1, .int x1)] 2 [] from H _ f x1 (Nat.lt_succ_self _) h0
  clear h0
  intro N
  induction N with
  | zero => intro f x1 hm; exact absurd hm (Nat.not_lt_zero _)
  | succ N ih =>
    intro f x1 hm hi
    exact wkb_X8_oneEvening_L2 V_l1 V_l2 V_m1 V_m2 V_x8  C    (fun f9 x19 hk => ih f9 x19 (Nat.lt_of_lt_of_le hk.2 (Nat.le_of_lt_succ hm)) hk.1) f x1 (hs f x1 hi)
set_option maxHeartbeats 4000000 in
set_option maxRecDepth 100000 in
theorem wk_X8_oneEvening (V_l1 : VC_l1) (V_l2 : VC_l2) (V_m1 : VC_m1) (V_m2 : VC_m2) (V_x8 : VC_x8) {Z : Zt}  (C : CX Z layC RX8 cX8_oneEvening 4 none 5)     (f : Fn)  (h : wp_X8_oneEvening  f  (zp Z)) : GG Z f [(0, .ref (zad Z 0))] 0 [] := by
  refine g_iconst C ki_0 dX8_oneEvening_0 rfl ?_
  refine g_istore_n (lv' := [(1, .int (0 : Int32)), (0, .ref (zad Z 0))]) C dX8_oneEvening_1 (by decide) rfl rfl ?_
  refine g_lps [0, 1] rfl ?_
  exact wk_X8_oneEvening_L2 V_l1 V_l2 V_m1 V_m2 V_x8  C    _ _ h
set_option maxRecDepth 100000 in
theorem ct_X8_oneEvening (V_l1 : VC_l1) (V_l2 : VC_l2) (V_m1 : VC_m1) (V_m2 : VC_m2) (V_x8 : VC_x8) {l : Launch} {E : Ev}   (f : Fn)  (hpre : Pre_X8_oneEvening f) : CT l E layC yX8_oneEvening cX8_oneEvening 4 none 5 [.ref (E.2.1 0)] f (pV (Post_X8_oneEvening f)) := by
  refine CT.of (by decide +kernel) (Nat.le_of_ble_eq_true rfl) (fun Z hl9 hE9 hp9 C => ?_)
  subst hl9
  subst hE9
  exact wk_X8_oneEvening V_l1 V_l2 V_m1 V_m2 V_x8 C   f  (by rw [hp9]; exact V_x8.2.2.2.2.2.2.2.1  f   hpre)
set_option maxHeartbeats 4000000 in
set_option maxRecDepth 100000 in
theorem wk_X8_swing_L25 (V_l1 : VC_l1) (V_l2 : VC_l2) (V_m1 : VC_m1) (V_m2 : VC_m2) (V_x8 : VC_x8) {Z : Zt}  (C : CX Z layC RX8 cX8_swing 5 (some .int) 2)     (f : Fn)  (h : wp_X8_swing_L25   f  (zp Z)) : GG Z f [(0, .ref (zad Z 0))] 25 [] := by
  refine g_aload_n C rfl dX8_swing_25 rfl ?_
  refine g_iconst C ki_1 dX8_swing_26 rfl ?_
  refine g_callVI C tw_324 tw_326 tp_0 tw_1 tw_327 hy_X8_error (by decide) (by decide) rfl (Nat.le_of_ble_eq_true rfl) rfl rfl (ct_X8_error V_l1 V_l2 V_m1 V_m2 V_x8   f (1 : Int32) ) dX8_swing_27 rfl rfl (fun r3 f4 hp5 => ?_)
  replace h := h r3 f4 hp5
  exact g_iret C dX8_swing_30 h
set_option maxHeartbeats 4000000 in
set_option maxRecDepth 100000 in
theorem wk_X8_swing (V_l1 : VC_l1) (V_l2 : VC_l2) (V_m1 : VC_m1) (V_m2 : VC_m2) (V_x8 : VC_x8) {Z : Zt}  (C : CX Z layC RX8 cX8_swing 5 (some .int) 2)     (f : Fn) (a1 : Int32) (a2 : Int32) (a3 : Int32) (h : wp_X8_swing  f a1 a2 a3 (zp Z)) : GG Z f [(0, .ref (zad Z 0)), (1, .int a1), (2, .int a2), (3, .int a3)] 0 [] := by
  refine g_aload_n C rfl dX8_swing_0 rfl ?_
  refine fg_X8_10R (k := 0) (p := 1) C rfl rfl dX8_swing_1 rfl ?_
  refine g_iload_n C rfl dX8_swing_4 rfl ?_
  refine g_callVQ C tw_313 tw_314 tw_315 tw_2 tw_316 hy_X7_swingOf (by decide) (by decide) rfl (Nat.le_of_ble_eq_true rfl) rfl rfl (ct_X7_swingOf V_l1 V_l2   f a1 ) dX8_swing_5 rfl rfl (fun hv2 => ?_) (fun k1 hv2 => ?_)
  · replace h := h.1 hv2
    refine g_astoreN (lv' := [(4, .null), (0, .ref (zad Z 0)), (1, .int a1), (2, .int a2), (3, .int a3)]) C dX8_swing_8 (by decide) rfl rfl ?_
    refine g_aloadN C rfl dX8_swing_10 rfl ?_
    refine g_ifnull_n (q := 25) C dX8_swing_12 (by decide) ?_
    refine g_lps [0] rfl ?_
    exact wk_X8_swing_L25 V_l1 V_l2 V_m1 V_m2 V_x8  C    _  h
  · replace h := h.2 k1 hv2
    refine g_astore (lv' := [(4, .ref (zad Z k1)), (0, .ref (zad Z 0)), (1, .int a1), (2, .int a2), (3, .int a3)]) C dX8_swing_8 (by decide) rfl rfl ?_
    refine g_aload C rfl dX8_swing_10 rfl ?_
    refine g_ifnull_r (q := 15) C dX8_swing_12 rfl ?_
    refine g_aload C rfl dX8_swing_15 rfl ?_
    refine g_iload_n C rfl dX8_swing_17 rfl ?_
    refine g_iload_n C rfl dX8_swing_18 rfl ?_
    have hs6 := h.1
    replace h := h.2
    refine g_callVD C tw_317 tw_318 tw_319 tw_3 tw_320 hy_X4_takes (by decide) (by decide) rfl (Nat.le_of_ble_eq_true rfl) hs6 rfl (ct_X4_takes V_l1 k1 hs6 f a2 a3 ) dX8_swing_19 rfl rfl ?_
    refine g_if_ne (tgt := 31) C dX8_swing_22 (by decide) rfl (fun hc7 => ?_) (fun hc7 => ?_)
    · replace h := h.1 hc7
      refine g_aload C rfl dX8_swing_31 rfl ?_
      refine g_iload_n C rfl dX8_swing_33 rfl ?_
      refine g_iload_n C rfl dX8_swing_34 rfl ?_
      refine g_callVI C tw_330 tw_331 tw_332 tw_3 tw_333 hy_X4_change (by decide) (by decide) rfl (Nat.le_of_ble_eq_true rfl) hs6 rfl (ct_X4_change V_l1 k1 hs6 f a2 a3 ) dX8_swing_35 rfl rfl (fun r8 f9 hp10 => ?_)
      replace h := h r8 f9 hp10
      exact g_iret C dX8_swing_38 h
    · replace h := h.2 hc7
      refine g_lps [0] rfl ?_
      exact wk_X8_swing_L25 V_l1 V_l2 V_m1 V_m2 V_x8  C    _  h
set_option maxRecDepth 100000 in
theorem ct_X8_swing (V_l1 : VC_l1) (V_l2 : VC_l2) (V_m1 : VC_m1) (V_m2 : VC_m2) (V_x8 : VC_x8) {l : Launch} {E : Ev}   (f : Fn) (a1 : Int32) (a2 : Int32) (a3 : Int32) (hpre : Pre_X8_swing f a1 a2 a3) : CT l E layC yX8_swing cX8_swing 5 (some .int) 2 [.ref (E.2.1 0), .int a1, .int a2, .int a3] f (pI (Post_X8_swing f a1 a2 a3)) := by
  refine CT.of (by decide +kernel) (Nat.le_of_ble_eq_true rfl) (fun Z hl9 hE9 hp9 C => ?_)
  subst hl9
  subst hE9
  exact wk_X8_swing V_l1 V_l2 V_m1 V_m2 V_x8 C   f a1 a2 a3 (by rw [hp9]; exact V_x8.2.2.2.2.2.2.2.2.1  f a1 a2 a3  hpre)
set_option maxHeartbeats 4000000 in
set_option maxRecDepth 100000 in
theorem wk_X8_bar_L24 (V_l1 : VC_l1) (V_l2 : VC_l2) (V_m1 : VC_m1) (V_m2 : VC_m2) (V_x8 : VC_x8) {Z : Zt}  (C : CX Z layC RX8 cX8_bar 4 (some .int) 2)     (f : Fn)  (h : wp_X8_bar_L24   f  (zp Z)) : GG Z f [(0, .ref (zad Z 0))] 24 [] := by
  refine g_aload_n C rfl dX8_bar_24 rfl ?_
  refine g_iconst C ki_1 dX8_bar_25 rfl ?_
  refine g_callVI C tw_324 tw_326 tp_0 tw_1 tw_327 hy_X8_error (by decide) (by decide) rfl (Nat.le_of_ble_eq_true rfl) rfl rfl (ct_X8_error V_l1 V_l2 V_m1 V_m2 V_x8   f (1 : Int32) ) dX8_bar_26 rfl rfl (fun r3 f4 hp5 => ?_)
  replace h := h r3 f4 hp5
  exact g_iret C dX8_bar_29 h
set_option maxHeartbeats 4000000 in
set_option maxRecDepth 100000 in
theorem wk_X8_bar (V_l1 : VC_l1) (V_l2 : VC_l2) (V_m1 : VC_m1) (V_m2 : VC_m2) (V_x8 : VC_x8) {Z : Zt}  (C : CX Z layC RX8 cX8_bar 4 (some .int) 2)     (f : Fn) (a1 : Int32) (a2 : Int32) (h : wp_X8_bar  f a1 a2 (zp Z)) : GG Z f [(0, .ref (zad Z 0)), (1, .int a1), (2, .int a2)] 0 [] := by
  refine g_aload_n C rfl dX8_bar_0 rfl ?_
  refine fg_X8_10R (k := 0) (p := 1) C rfl rfl dX8_bar_1 rfl ?_
  refine g_iload_n C rfl dX8_bar_4 rfl ?_
  refine g_callVQ C tw_313 tw_314 tw_315 tw_2 tw_316 hy_X7_swingOf (by decide) (by decide) rfl (Nat.le_of_ble_eq_true rfl) rfl rfl (ct_X7_swingOf V_l1 V_l2   f a1 ) dX8_bar_5 rfl rfl (fun hv2 => ?_) (fun k1 hv2 => ?_)
  · replace h := h.1 hv2
    refine g_astore_nN (lv' := [(3, .null), (0, .ref (zad Z 0)), (1, .int a1), (2, .int a2)]) C dX8_bar_8 (by decide) rfl rfl ?_
    refine g_aload_nN C rfl dX8_bar_9 rfl ?_
    refine g_ifnull_n (q := 24) C dX8_bar_10 (by decide) ?_
    refine g_lps [0] rfl ?_
    exact wk_X8_bar_L24 V_l1 V_l2 V_m1 V_m2 V_x8  C    _  h
  · replace h := h.2 k1 hv2
    refine g_astore_n (lv' := [(3, .ref (zad Z k1)), (0, .ref (zad Z 0)), (1, .int a1), (2, .int a2)]) C dX8_bar_8 (by decide) rfl rfl ?_
    refine g_aload_n C rfl dX8_bar_9 rfl ?_
    refine g_ifnull_r (q := 13) C dX8_bar_10 rfl ?_
    refine g_iload_n C rfl dX8_bar_13 rfl ?_
    refine g_iconst C ki_0 dX8_bar_14 rfl ?_
    refine g_sipush C ks_19999 dX8_bar_15 rfl ?_
    refine g_callSD C tw_328 tw_322 tw_1 tw_323 hy_X8_within (by decide) (by decide) rfl (Nat.le_of_ble_eq_true rfl) (ct_X8_within V_l1   f a2 (0 : Int32) (19999 : Int32) ) dX8_bar_18 rfl rfl ?_
    refine g_if_ne (tgt := 30) C dX8_bar_21 (by decide) rfl (fun hc6 => ?_) (fun hc6 => ?_)
    · replace h := h.1 hc6
      refine g_aload_n C rfl dX8_bar_30 rfl ?_
      refine g_iload_n C rfl dX8_bar_31 rfl ?_
      have hs7 := h.1
      replace h := h.2
      refine g_callVD C tw_341 tw_342 tw_343 tw_3 tw_344 hy_X4_placeAt (by decide) (by decide) rfl (Nat.le_of_ble_eq_true rfl) hs7 rfl (ct_X4_placeAt V_l1 k1 hs7 f a2 ) dX8_bar_32 rfl rfl ?_
      exact g_iret C dX8_bar_35 h
    · replace h := h.2 hc6
      refine g_lps [0] rfl ?_
      exact wk_X8_bar_L24 V_l1 V_l2 V_m1 V_m2 V_x8  C    _  h
set_option maxRecDepth 100000 in
theorem ct_X8_bar (V_l1 : VC_l1) (V_l2 : VC_l2) (V_m1 : VC_m1) (V_m2 : VC_m2) (V_x8 : VC_x8) {l : Launch} {E : Ev}   (f : Fn) (a1 : Int32) (a2 : Int32) (hpre : Pre_X8_bar f a1 a2) : CT l E layC yX8_bar cX8_bar 4 (some .int) 2 [.ref (E.2.1 0), .int a1, .int a2] f (pI (Post_X8_bar f a1 a2)) := by
  refine CT.of (by decide +kernel) (Nat.le_of_ble_eq_true rfl) (fun Z hl9 hE9 hp9 C => ?_)
  subst hl9
  subst hE9
  exact wk_X8_bar V_l1 V_l2 V_m1 V_m2 V_x8 C   f a1 a2 (by rw [hp9]; exact V_x8.2.2.2.2.2.2.2.2.2.1  f a1 a2  hpre)
set_option maxHeartbeats 4000000 in
set_option maxRecDepth 100000 in
theorem wk_X8_set_L104 (V_l1 : VC_l1) (V_l2 : VC_l2) (V_m1 : VC_m1) (V_m2 : VC_m2) (V_x8 : VC_x8) {Z : Zt}  (C : CX Z layC RX8 cX8_set 4 (some .int) 2)     (f : Fn)  (h : wp_X8_set_L104   f  (zp Z)) : GG Z f [(0, .ref (zad Z 0))] 104 [] := by
  refine g_aload_n C rfl dX8_set_104 rfl ?_
  refine g_iconst C ki_1 dX8_set_105 rfl ?_
  refine g_callVI C tw_324 tw_326 tp_0 tw_1 tw_327 hy_X8_error (by decide) (by decide) rfl (Nat.le_of_ble_eq_true rfl) rfl rfl (ct_X8_error V_l1 V_l2 V_m1 V_m2 V_x8   f (1 : Int32) ) dX8_set_106 rfl rfl (fun r4 f5 hp6 => ?_)
  replace h := h r4 f5 hp6
  exact g_iret C dX8_set_109 h
set_option maxHeartbeats 4000000 in
set_option maxRecDepth 100000 in
theorem wk_X8_set_L68 (V_l1 : VC_l1) (V_l2 : VC_l2) (V_m1 : VC_m1) (V_m2 : VC_m2) (V_x8 : VC_x8) {Z : Zt}  (C : CX Z layC RX8 cX8_set 4 (some .int) 2)     (f : Fn) (x1 : Int32) (x2 : Int32) (h : wp_X8_set_L68   f x1 x2 (zp Z)) : GG Z f [(0, .ref (zad Z 0)), (1, .int x1), (2, .int x2)] 68 [] := by
  refine g_iload_n C rfl dX8_set_68 rfl ?_
  refine g_iconst C ki_2 dX8_set_69 rfl ?_
  refine g_icmp_ne (tgt := 104) C dX8_set_70 (by decide) rfl (fun hc3 => ?_) (fun hc3 => ?_)
  · replace h := h.1 hc3
    refine g_lps [0] rfl ?_
    exact wk_X8_set_L104 V_l1 V_l2 V_m1 V_m2 V_x8  C    _  h
  · replace h := h.2 hc3
    refine g_iload_n C rfl dX8_set_73 rfl ?_
    refine g_bipush C kb_m99 dX8_set_74 rfl ?_
    refine g_sipush C ks_299 dX8_set_76 rfl ?_
    refine g_callSD C tw_328 tw_322 tw_1 tw_323 hy_X8_within (by decide) (by decide) rfl (Nat.le_of_ble_eq_true rfl) (ct_X8_within V_l1   f x2 (-99 : Int32) (299 : Int32) ) dX8_set_79 rfl rfl ?_
    refine g_if_eq (tgt := 104) C dX8_set_82 (by decide) rfl (fun hc7 => ?_) (fun hc7 => ?_)
    · replace h := h.1 hc7
      refine g_lps [0] rfl ?_
      exact wk_X8_set_L104 V_l1 V_l2 V_m1 V_m2 V_x8  C    _  h
    · replace h := h.2 hc7
      refine g_aload_n C rfl dX8_set_85 rfl ?_
      refine fg_X8_10R (k := 0) (p := 1) C rfl rfl dX8_set_86 rfl ?_
      refine fg_X8_85I (k := 1) (x := (f 1 4)) C rfl rfl rfl dX8_set_89 rfl ?_
      refine g_istore_n (lv' := [(3, .int (f 1 4)), (0, .ref (zad Z 0)), (1, .int x1), (2, .int x2)]) C dX8_set_92 (by decide) rfl rfl ?_
      refine g_aload_n C rfl dX8_set_93 rfl ?_
      refine fg_X8_10R (k := 0) (p := 1) C rfl rfl dX8_set_94 rfl ?_
      refine g_iload_n C rfl dX8_set_97 rfl ?_
      refine fp_X8_85 (k := 1) C rfl rfl (Nat.le_of_ble_eq_true rfl) dX8_set_98 rfl ?_
      refine g_goto (q := 110) C dX8_set_101 (by decide) ?_
      refine g_iload_n C rfl dX8_set_110 rfl ?_
      exact g_iret C dX8_set_111 h
set_option maxHeartbeats 4000000 in
set_option maxRecDepth 100000 in
theorem wk_X8_set_L34 (V_l1 : VC_l1) (V_l2 : VC_l2) (V_m1 : VC_m1) (V_m2 : VC_m2) (V_x8 : VC_x8) {Z : Zt}  (C : CX Z layC RX8 cX8_set 4 (some .int) 2)     (f : Fn) (x1 : Int32) (x2 : Int32) (h : wp_X8_set_L34   f x1 x2 (zp Z)) : GG Z f [(0, .ref (zad Z 0)), (1, .int x1), (2, .int x2)] 34 [] := by
  refine g_iload_n C rfl dX8_set_34 rfl ?_
  refine g_iconst C ki_1 dX8_set_35 rfl ?_
  refine g_icmp_ne (tgt := 68) C dX8_set_36 (by decide) rfl (fun hc2 => ?_) (fun hc2 => ?_)
  · replace h := h.1 hc2
    exact wk_X8_set_L68 V_l1 V_l2 V_m1 V_m2 V_x8  C    _ _ _ h
  · replace h := h.2 hc2
    refine g_iload_n C rfl dX8_set_39 rfl ?_
    refine g_iconst C ki_0 dX8_set_40 rfl ?_
    refine g_bipush C kb_30 dX8_set_41 rfl ?_
    refine g_callSD C tw_328 tw_322 tw_1 tw_323 hy_X8_within (by decide) (by decide) rfl (Nat.le_of_ble_eq_true rfl) (ct_X8_within V_l1   f x2 (0 : Int32) (30 : Int32) ) dX8_set_43 rfl rfl ?_
    refine g_if_eq (tgt := 68) C dX8_set_46 (by decide) rfl (fun hc8 => ?_) (fun hc8 => ?_)
    · replace h := h.1 hc8
      exact wk_X8_set_L68 V_l1 V_l2 V_m1 V_m2 V_x8  C    _ _ _ h
    · replace h := h.2 hc8
      refine g_aload_n C rfl dX8_set_49 rfl ?_
      refine fg_X8_10R (k := 0) (p := 1) C rfl rfl dX8_set_50 rfl ?_
      refine fg_X8_82I (k := 1) (x := (f 1 3)) C rfl rfl rfl dX8_set_53 rfl ?_
      refine g_istore_n (lv' := [(3, .int (f 1 3)), (0, .ref (zad Z 0)), (1, .int x1), (2, .int x2)]) C dX8_set_56 (by decide) rfl rfl ?_
      refine g_aload_n C rfl dX8_set_57 rfl ?_
      refine fg_X8_10R (k := 0) (p := 1) C rfl rfl dX8_set_58 rfl ?_
      refine g_iload_n C rfl dX8_set_61 rfl ?_
      refine fp_X8_82 (k := 1) C rfl rfl (Nat.le_of_ble_eq_true rfl) dX8_set_62 rfl ?_
      refine g_goto (q := 110) C dX8_set_65 (by decide) ?_
      refine g_iload_n C rfl dX8_set_110 rfl ?_
      exact g_iret C dX8_set_111 h
set_option maxHeartbeats 4000000 in
set_option maxRecDepth 100000 in
theorem wk_X8_set (V_l1 : VC_l1) (V_l2 : VC_l2) (V_m1 : VC_m1) (V_m2 : VC_m2) (V_x8 : VC_x8) {Z : Zt}  (C : CX Z layC RX8 cX8_set 4 (some .int) 2)     (f : Fn) (a1 : Int32) (a2 : Int32) (h : wp_X8_set  f a1 a2 (zp Z)) : GG Z f [(0, .ref (zad Z 0)), (1, .int a1), (2, .int a2)] 0 [] := by
  refine g_iload_n C rfl dX8_set_0 rfl ?_
  refine g_if_ne (tgt := 34) C dX8_set_1 (by decide) rfl (fun hc1 => ?_) (fun hc1 => ?_)
  · replace h := h.1 hc1
    exact wk_X8_set_L34 V_l1 V_l2 V_m1 V_m2 V_x8  C    _ _ _ h
  · replace h := h.2 hc1
    refine g_iload_n C rfl dX8_set_4 rfl ?_
    refine g_iconst C ki_0 dX8_set_5 rfl ?_
    refine g_sipush C ks_200 dX8_set_6 rfl ?_
    refine g_callSD C tw_328 tw_322 tw_1 tw_323 hy_X8_within (by decide) (by decide) rfl (Nat.le_of_ble_eq_true rfl) (ct_X8_within V_l1   f a2 (0 : Int32) (200 : Int32) ) dX8_set_9 rfl rfl ?_
    refine g_if_eq (tgt := 34) C dX8_set_12 (by decide) rfl (fun hc9 => ?_) (fun hc9 => ?_)
    · replace h := h.1 hc9
      exact wk_X8_set_L34 V_l1 V_l2 V_m1 V_m2 V_x8  C    _ _ _ h
    · replace h := h.2 hc9
      refine g_aload_n C rfl dX8_set_15 rfl ?_
      refine fg_X8_10R (k := 0) (p := 1) C rfl rfl dX8_set_16 rfl ?_
      refine fg_X8_78I (k := 1) (x := (f 1 2)) C rfl rfl rfl dX8_set_19 rfl ?_
      refine g_istore_n (lv' := [(3, .int (f 1 2)), (0, .ref (zad Z 0)), (1, .int a1), (2, .int a2)]) C dX8_set_22 (by decide) rfl rfl ?_
      refine g_aload_n C rfl dX8_set_23 rfl ?_
      refine fg_X8_10R (k := 0) (p := 1) C rfl rfl dX8_set_24 rfl ?_
      refine g_iload_n C rfl dX8_set_27 rfl ?_
      refine fp_X8_78 (k := 1) C rfl rfl (Nat.le_of_ble_eq_true rfl) dX8_set_28 rfl ?_
      refine g_goto (q := 110) C dX8_set_31 (by decide) ?_
      refine g_iload_n C rfl dX8_set_110 rfl ?_
      exact g_iret C dX8_set_111 h
set_option maxRecDepth 100000 in
theorem ct_X8_set (V_l1 : VC_l1) (V_l2 : VC_l2) (V_m1 : VC_m1) (V_m2 : VC_m2) (V_x8 : VC_x8) {l : Launch} {E : Ev}   (f : Fn) (a1 : Int32) (a2 : Int32) (hpre : Pre_X8_set f a1 a2) : CT l E layC yX8_set cX8_set 4 (some .int) 2 [.ref (E.2.1 0), .int a1, .int a2] f (pI (Post_X8_set f a1 a2)) := by
  refine CT.of (by decide +kernel) (Nat.le_of_ble_eq_true rfl) (fun Z hl9 hE9 hp9 C => ?_)
  subst hl9
  subst hE9
  exact wk_X8_set V_l1 V_l2 V_m1 V_m2 V_x8 C   f a1 a2 (by rw [hp9]; exact V_x8.2.2.2.2.2.2.2.2.2.2.1  f a1 a2  hpre)
set_option maxHeartbeats 4000000 in
set_option maxRecDepth 100000 in
theorem wk_X8_flyer_L70 (V_l1 : VC_l1) (V_l2 : VC_l2) (V_m1 : VC_m1) (V_m2 : VC_m2) (V_x8 : VC_x8) {Z : Zt}  (C : CX Z layC RX8 cX8_flyer 3 (some .int) 2)     (f : Fn)  (h : wp_X8_flyer_L70   f  (zp Z)) : GG Z f [(0, .ref (zad Z 0))] 70 [] := by
  refine g_aload_n C rfl dX8_flyer_70 rfl ?_
  refine fg_X8_10R (k := 0) (p := 1) C rfl rfl dX8_flyer_71 rfl ?_
  refine fg_X8_92I (k := 1) (x := (f 1 7)) C rfl rfl rfl dX8_flyer_74 rfl ?_
  refine g_iconst C ki_1 dX8_flyer_77 rfl ?_
  refine g_isub C dX8_flyer_78 rfl ?_
  exact g_iret C dX8_flyer_79 h
set_option maxHeartbeats 4000000 in
set_option maxRecDepth 100000 in
theorem wk_X8_flyer (V_l1 : VC_l1) (V_l2 : VC_l2) (V_m1 : VC_m1) (V_m2 : VC_m2) (V_x8 : VC_x8) {Z : Zt}  (C : CX Z layC RX8 cX8_flyer 3 (some .int) 2)     (f : Fn) (a1 : Int32) (h : wp_X8_flyer  f a1 (zp Z)) : GG Z f [(0, .ref (zad Z 0)), (1, .int a1)] 0 [] := by
  refine g_iload_n C rfl dX8_flyer_0 rfl ?_
  refine g_callSD C tw_359 tw_360 tw_1 tw_361 hy_X8_isKindAndNumber (by decide) (by decide) rfl (Nat.le_of_ble_eq_true rfl) (ct_X8_isKindAndNumber V_l1 V_l2 V_m1 V_m2 V_x8   f a1 ) dX8_flyer_1 rfl rfl ?_
  refine g_if_ne (tgt := 13) C dX8_flyer_4 (by decide) rfl (fun hc1 => ?_) (fun hc1 => ?_)
  · replace h := h.1 hc1
    refine g_aload_n C rfl dX8_flyer_13 rfl ?_
    refine fg_X8_10R (k := 0) (p := 1) C rfl rfl dX8_flyer_14 rfl ?_
    refine fg_X8_92I (k := 1) (x := (f 1 7)) C rfl rfl rfl dX8_flyer_17 rfl ?_
    refine g_bipush C kb_6 dX8_flyer_20 rfl ?_
    refine g_icmp_lt (tgt := 31) C dX8_flyer_22 (by decide) rfl (fun hc2 => ?_) (fun hc2 => ?_)
    · replace h := h.1 hc2
      refine g_aload_n C rfl dX8_flyer_31 rfl ?_
      refine fg_X8_10R (k := 0) (p := 1) C rfl rfl dX8_flyer_32 rfl ?_
      refine g_dup C rfl dX8_flyer_35 rfl ?_
      refine fg_X8_92I (k := 1) (x := (f 1 7)) C rfl rfl rfl dX8_flyer_36 rfl ?_
      refine g_iconst C ki_1 dX8_flyer_39 rfl ?_
      refine g_iadd C dX8_flyer_40 rfl ?_
      refine fp_X8_92 (k := 1) C rfl rfl (Nat.le_of_ble_eq_true rfl) dX8_flyer_41 rfl ?_
      refine g_aload_n C rfl dX8_flyer_44 rfl ?_
      refine fg_X8_10R (k := 0) (p := 1) C rfl rfl dX8_flyer_45 rfl ?_
      refine g_aload_n C rfl dX8_flyer_48 rfl ?_
      refine fg_X8_10R (k := 0) (p := 1) C rfl rfl dX8_flyer_49 rfl ?_
      refine fg_X8_92I (k := 1) (x := ((f 1 7) + (1 : Int32))) C rfl rfl (by simp [up2, upd]) dX8_flyer_52 rfl ?_
      refine g_iconst C ki_1 dX8_flyer_55 rfl ?_
      refine g_isub C dX8_flyer_56 rfl ?_
      refine g_callVQ C tw_362 tw_363 tw_364 tw_2 tw_365 hy_X7_flyerOf (by decide) (by decide) rfl (Nat.le_of_ble_eq_true rfl) rfl rfl (ct_X7_flyerOf V_l1 V_l2   (up2 f 1 7 ((f 1 7) + (1 : Int32))) (((f 1 7) + (1 : Int32)) - (1 : Int32)) ) dX8_flyer_57 rfl rfl (fun hv4 => ?_) (fun k3 hv4 => ?_)
      · replace h := h.1 hv4
        refine g_astore_nN (lv' := [(2, .null), (0, .ref (zad Z 0)), (1, .int a1)]) C dX8_flyer_60 (by decide) rfl rfl ?_
        refine g_aload_nN C rfl dX8_flyer_61 rfl ?_
        refine g_ifnull_n (q := 70) C dX8_flyer_62 (by decide) ?_
        refine g_lps [0] rfl ?_
        exact wk_X8_flyer_L70 V_l1 V_l2 V_m1 V_m2 V_x8  C    _  h
      · replace h := h.2 k3 hv4
        refine g_astore_n (lv' := [(2, .ref (zad Z k3)), (0, .ref (zad Z 0)), (1, .int a1)]) C dX8_flyer_60 (by decide) rfl rfl ?_
        refine g_aload_n C rfl dX8_flyer_61 rfl ?_
        refine g_ifnull_r (q := 65) C dX8_flyer_62 rfl ?_
        refine g_aload_n C rfl dX8_flyer_65 rfl ?_
        refine g_iload_n C rfl dX8_flyer_66 rfl ?_
        have hs5 := h.1
        replace h := h.2
        refine g_callVV C tw_366 tw_367 tw_368 tw_5 tw_369 hy_X0_begin (by decide) (by decide) rfl (Nat.le_of_ble_eq_true rfl) hs5 rfl (ct_X0_begin V_l1 k3 hs5 (up2 f 1 7 ((f 1 7) + (1 : Int32))) a1 ) dX8_flyer_67 rfl rfl (fun f6 hp7 => ?_)
        replace h := h f6 hp7
        refine g_lps [0] rfl ?_
        exact wk_X8_flyer_L70 V_l1 V_l2 V_m1 V_m2 V_x8  C    _  h
    · replace h := h.2 hc2
      refine g_aload_n C rfl dX8_flyer_25 rfl ?_
      refine g_iconst C ki_4 dX8_flyer_26 rfl ?_
      refine g_callVI C tw_324 tw_326 tp_0 tw_1 tw_327 hy_X8_error (by decide) (by decide) rfl (Nat.le_of_ble_eq_true rfl) rfl rfl (ct_X8_error V_l1 V_l2 V_m1 V_m2 V_x8   f (4 : Int32) ) dX8_flyer_27 rfl rfl (fun r8 f9 hp10 => ?_)
      replace h := h r8 f9 hp10
      exact g_iret C dX8_flyer_30 h
  · replace h := h.2 hc1
    refine g_aload_n C rfl dX8_flyer_7 rfl ?_
    refine g_iconst C ki_1 dX8_flyer_8 rfl ?_
    refine g_callVI C tw_324 tw_326 tp_0 tw_1 tw_327 hy_X8_error (by decide) (by decide) rfl (Nat.le_of_ble_eq_true rfl) rfl rfl (ct_X8_error V_l1 V_l2 V_m1 V_m2 V_x8   f (1 : Int32) ) dX8_flyer_9 rfl rfl (fun r11 f12 hp13 => ?_)
    replace h := h r11 f12 hp13
    exact g_iret C dX8_flyer_12 h
set_option maxRecDepth 100000 in
theorem ct_X8_flyer (V_l1 : VC_l1) (V_l2 : VC_l2) (V_m1 : VC_m1) (V_m2 : VC_m2) (V_x8 : VC_x8) {l : Launch} {E : Ev}   (f : Fn) (a1 : Int32) (hpre : Pre_X8_flyer f a1) : CT l E layC yX8_flyer cX8_flyer 3 (some .int) 2 [.ref (E.2.1 0), .int a1] f (pI (Post_X8_flyer f a1)) := by
  refine CT.of (by decide +kernel) (Nat.le_of_ble_eq_true rfl) (fun Z hl9 hE9 hp9 C => ?_)
  subst hl9
  subst hE9
  exact wk_X8_flyer V_l1 V_l2 V_m1 V_m2 V_x8 C   f a1 (by rw [hp9]; exact V_x8.2.2.2.2.2.2.2.2.2.2.2.1  f a1  hpre)
set_option maxHeartbeats 4000000 in
set_option maxRecDepth 100000 in
theorem wk_X8_ofFlyer_L23 (V_l1 : VC_l1) (V_l2 : VC_l2) (V_m1 : VC_m1) (V_m2 : VC_m2) (V_x8 : VC_x8) {Z : Zt}  (C : CX Z layC RX8 cX8_ofFlyer 4 (some .int) 2)     (f : Fn)  (h : wp_X8_ofFlyer_L23   f  (zp Z)) : GG Z f [(0, .ref (zad Z 0))] 23 [] := by
  refine g_aload_n C rfl dX8_ofFlyer_23 rfl ?_
  refine g_iconst C ki_1 dX8_ofFlyer_24 rfl ?_
  refine g_callVI C tw_324 tw_326 tp_0 tw_1 tw_327 hy_X8_error (by decide) (by decide) rfl (Nat.le_of_ble_eq_true rfl) rfl rfl (ct_X8_error V_l1 V_l2 V_m1 V_m2 V_x8   f (1 : Int32) ) dX8_ofFlyer_25 rfl rfl (fun r3 f4 hp5 => ?_)
  replace h := h r3 f4 hp5
  exact g_iret C dX8_ofFlyer_28 h
set_option maxHeartbeats 4000000 in
set_option maxRecDepth 100000 in
theorem wk_X8_ofFlyer (V_l1 : VC_l1) (V_l2 : VC_l2) (V_m1 : VC_m1) (V_m2 : VC_m2) (V_x8 : VC_x8) {Z : Zt}  (C : CX Z layC RX8 cX8_ofFlyer 4 (some .int) 2)     (f : Fn) (a1 : Int32) (a2 : Int32) (h : wp_X8_ofFlyer  f a1 a2 (zp Z)) : GG Z f [(0, .ref (zad Z 0)), (1, .int a1), (2, .int a2)] 0 [] := by
  refine g_aload_n C rfl dX8_ofFlyer_0 rfl ?_
  refine fg_X8_10R (k := 0) (p := 1) C rfl rfl dX8_ofFlyer_1 rfl ?_
  refine g_iload_n C rfl dX8_ofFlyer_4 rfl ?_
  refine g_callVQ C tw_362 tw_363 tw_364 tw_2 tw_365 hy_X7_flyerOf (by decide) (by decide) rfl (Nat.le_of_ble_eq_true rfl) rfl rfl (ct_X7_flyerOf V_l1 V_l2   f a1 ) dX8_ofFlyer_5 rfl rfl (fun hv2 => ?_) (fun k1 hv2 => ?_)
  · replace h := h.1 hv2
    refine g_astore_nN (lv' := [(3, .null), (0, .ref (zad Z 0)), (1, .int a1), (2, .int a2)]) C dX8_ofFlyer_8 (by decide) rfl rfl ?_
    refine g_aload_nN C rfl dX8_ofFlyer_9 rfl ?_
    refine g_ifnull_n (q := 23) C dX8_ofFlyer_10 (by decide) ?_
    refine g_lps [0] rfl ?_
    exact wk_X8_ofFlyer_L23 V_l1 V_l2 V_m1 V_m2 V_x8  C    _  h
  · replace h := h.2 k1 hv2
    refine g_astore_n (lv' := [(3, .ref (zad Z k1)), (0, .ref (zad Z 0)), (1, .int a1), (2, .int a2)]) C dX8_ofFlyer_8 (by decide) rfl rfl ?_
    refine g_aload_n C rfl dX8_ofFlyer_9 rfl ?_
    refine g_ifnull_r (q := 13) C dX8_ofFlyer_10 rfl ?_
    refine g_iload_n C rfl dX8_ofFlyer_13 rfl ?_
    refine g_iconst C ki_0 dX8_ofFlyer_14 rfl ?_
    refine g_bipush C kb_6 dX8_ofFlyer_15 rfl ?_
    refine g_callSD C tw_328 tw_322 tw_1 tw_323 hy_X8_within (by decide) (by decide) rfl (Nat.le_of_ble_eq_true rfl) (ct_X8_within V_l1   f a2 (0 : Int32) (6 : Int32) ) dX8_ofFlyer_17 rfl rfl ?_
    refine g_if_ne (tgt := 29) C dX8_ofFlyer_20 (by decide) rfl (fun hc6 => ?_) (fun hc6 => ?_)
    · replace h := h.1 hc6
      refine g_iload_n C rfl dX8_ofFlyer_29 rfl ?_
      by_cases hk7_0 : a2 = (0 : Int32)
      · replace h := h.1 hk7_0
        refine g_tableIn (q := 68) (off := (38)) C dX8_ofFlyer_30 (sw_in1 hk7_0 (by decide +kernel)) (sw_in2 hk7_0 (by decide +kernel)) (sw_ho hk7_0 (by decide +kernel)) (by decide) ?_
        refine g_aload_n C rfl dX8_ofFlyer_68 rfl ?_
        have hs8 := h.1
        replace h := h.2
        refine fg_X8_105I (k := k1) (x := (f k1 0)) C hs8 rfl rfl dX8_ofFlyer_69 rfl ?_
        exact g_iret C dX8_ofFlyer_72 h
      by_cases hk7_1 : a2 = (1 : Int32)
      · replace h := h.2.1 hk7_1
        refine g_tableIn (q := 73) (off := (43)) C dX8_ofFlyer_30 (sw_in1 hk7_1 (by decide +kernel)) (sw_in2 hk7_1 (by decide +kernel)) (sw_ho hk7_1 (by decide +kernel)) (by decide) ?_
        refine g_aload_n C rfl dX8_ofFlyer_73 rfl ?_
        have hs9 := h.1
        replace h := h.2
        refine fg_X8_108I (k := k1) (x := (f k1 1)) C hs9 rfl rfl dX8_ofFlyer_74 rfl ?_
        exact g_iret C dX8_ofFlyer_77 h
      by_cases hk7_2 : a2 = (2 : Int32)
      · replace h := h.2.2.1 hk7_2
        refine g_tableIn (q := 78) (off := (48)) C dX8_ofFlyer_30 (sw_in1 hk7_2 (by decide +kernel)) (sw_in2 hk7_2 (by decide +kernel)) (sw_ho hk7_2 (by decide +kernel)) (by decide) ?_
        refine g_aload_n C rfl dX8_ofFlyer_78 rfl ?_
        have hs10 := h.1
        replace h := h.2
        refine fg_X8_111I (k := k1) (x := (f k1 2)) C hs10 rfl rfl dX8_ofFlyer_79 rfl ?_
        exact g_iret C dX8_ofFlyer_82 h
      by_cases hk7_3 : a2 = (3 : Int32)
      · replace h := h.2.2.2.1 hk7_3
        refine g_tableIn (q := 83) (off := (53)) C dX8_ofFlyer_30 (sw_in1 hk7_3 (by decide +kernel)) (sw_in2 hk7_3 (by decide +kernel)) (sw_ho hk7_3 (by decide +kernel)) (by decide) ?_
        refine g_aload_n C rfl dX8_ofFlyer_83 rfl ?_
        have hs11 := h.1
        replace h := h.2
        refine fg_X8_114I (k := k1) (x := (f k1 3)) C hs11 rfl rfl dX8_ofFlyer_84 rfl ?_
        exact g_iret C dX8_ofFlyer_87 h
      by_cases hk7_4 : a2 = (4 : Int32)
      · replace h := h.2.2.2.2.1 hk7_4
        refine g_tableIn (q := 88) (off := (58)) C dX8_ofFlyer_30 (sw_in1 hk7_4 (by decide +kernel)) (sw_in2 hk7_4 (by decide +kernel)) (sw_ho hk7_4 (by decide +kernel)) (by decide) ?_
        refine g_aload_n C rfl dX8_ofFlyer_88 rfl ?_
        have hs12 := h.1
        replace h := h.2
        refine g_callVD C tw_378 tw_379 tw_380 tw_5 tw_381 hy_X0_lag (by decide) (by decide) rfl (Nat.le_of_ble_eq_true rfl) hs12 rfl (ct_X0_lag V_l1 k1 hs12 f ) dX8_ofFlyer_89 rfl rfl ?_
        exact g_iret C dX8_ofFlyer_92 h
      by_cases hk7_5 : a2 = (5 : Int32)
      · replace h := h.2.2.2.2.2.1 hk7_5
        refine g_tableIn (q := 93) (off := (63)) C dX8_ofFlyer_30 (sw_in1 hk7_5 (by decide +kernel)) (sw_in2 hk7_5 (by decide +kernel)) (sw_ho hk7_5 (by decide +kernel)) (by decide) ?_
        refine g_aload_n C rfl dX8_ofFlyer_93 rfl ?_
        refine g_aload_n C rfl dX8_ofFlyer_94 rfl ?_
        refine fg_X8_10R (k := 0) (p := 1) C rfl rfl dX8_ofFlyer_95 rfl ?_
        refine fg_X8_82I (k := 1) (x := (f 1 3)) C rfl rfl rfl dX8_ofFlyer_98 rfl ?_
        have hs13 := h.1
        replace h := h.2
        refine g_callVD C tw_382 tw_383 tw_384 tw_5 tw_385 hy_X0_holds (by decide) (by decide) rfl (Nat.le_of_ble_eq_true rfl) hs13 rfl (ct_X0_holds V_l1 k1 hs13 f (f 1 3) ) dX8_ofFlyer_101 rfl rfl ?_
        exact g_iret C dX8_ofFlyer_104 h
      replace h := h.2.2.2.2.2.2 ⟨hk7_0, hk7_1, hk7_2, hk7_3, hk7_4, hk7_5⟩
      refine g_tableOut (q := 105) C dX8_ofFlyer_30 (sw_out [(0 : Int32), (1 : Int32), (2 : Int32), (3 : Int32), (4 : Int32), (5 : Int32)] 6 (fun k9 hk9 => by simp only [List.mem_cons, List.not_mem_nil, or_false] at hk9; rcases hk9 with rfl | rfl | rfl | rfl | rfl | rfl <;> assumption) (by decide +kernel) (by decide +kernel)) (by decide) ?_
      refine g_aload_n C rfl dX8_ofFlyer_105 rfl ?_
      refine g_bipush C kb_10 dX8_ofFlyer_106 rfl ?_
      have hs14 := h.1
      replace h := h.2
      refine g_callVD C tw_387 tw_388 tw_389 tw_5 tw_390 hy_X0_harm (by decide) (by decide) rfl (Nat.le_of_ble_eq_true rfl) hs14 rfl (ct_X0_harm V_l1 k1 hs14 f (10 : Int32) ) dX8_ofFlyer_108 rfl rfl ?_
      exact g_iret C dX8_ofFlyer_111 h
    · replace h := h.2 hc6
      refine g_lps [0] rfl ?_
      exact wk_X8_ofFlyer_L23 V_l1 V_l2 V_m1 V_m2 V_x8  C    _  h
set_option maxRecDepth 100000 in
theorem ct_X8_ofFlyer (V_l1 : VC_l1) (V_l2 : VC_l2) (V_m1 : VC_m1) (V_m2 : VC_m2) (V_x8 : VC_x8) {l : Launch} {E : Ev}   (f : Fn) (a1 : Int32) (a2 : Int32) (hpre : Pre_X8_ofFlyer f a1 a2) : CT l E layC yX8_ofFlyer cX8_ofFlyer 4 (some .int) 2 [.ref (E.2.1 0), .int a1, .int a2] f (pI (Post_X8_ofFlyer f a1 a2)) := by
  refine CT.of (by decide +kernel) (Nat.le_of_ble_eq_true rfl) (fun Z hl9 hE9 hp9 C => ?_)
  subst hl9
  subst hE9
  exact wk_X8_ofFlyer V_l1 V_l2 V_m1 V_m2 V_x8 C   f a1 a2 (by rw [hp9]; exact V_x8.2.2.2.2.2.2.2.2.2.2.2.2.1  f a1 a2  hpre)
set_option maxHeartbeats 4000000 in
set_option maxRecDepth 100000 in
theorem wk_X8_become_L20 (V_l1 : VC_l1) (V_l2 : VC_l2) (V_m1 : VC_m1) (V_m2 : VC_m2) (V_x8 : VC_x8) {Z : Zt}  (C : CX Z layC RX8 cX8_become 5 (some .int) 2)     (f : Fn)  (h : wp_X8_become_L20   f  (zp Z)) : GG Z f [(0, .ref (zad Z 0))] 20 [] := by
  refine g_aload_n C rfl dX8_become_20 rfl ?_
  refine g_iconst C ki_1 dX8_become_21 rfl ?_
  refine g_callVI C tw_324 tw_326 tp_0 tw_1 tw_327 hy_X8_error (by decide) (by decide) rfl (Nat.le_of_ble_eq_true rfl) rfl rfl (ct_X8_error V_l1 V_l2 V_m1 V_m2 V_x8   f (1 : Int32) ) dX8_become_22 rfl rfl (fun r3 f4 hp5 => ?_)
  replace h := h r3 f4 hp5
  exact g_iret C dX8_become_25 h
set_option maxHeartbeats 4000000 in
set_option maxRecDepth 100000 in
theorem wk_X8_become (V_l1 : VC_l1) (V_l2 : VC_l2) (V_m1 : VC_m1) (V_m2 : VC_m2) (V_x8 : VC_x8) {Z : Zt}  (C : CX Z layC RX8 cX8_become 5 (some .int) 2)     (f : Fn) (a1 : Int32) (a2 : Int32) (h : wp_X8_become  f a1 a2 (zp Z)) : GG Z f [(0, .ref (zad Z 0)), (1, .int a1), (2, .int a2)] 0 [] := by
  refine g_aload_n C rfl dX8_become_0 rfl ?_
  refine fg_X8_10R (k := 0) (p := 1) C rfl rfl dX8_become_1 rfl ?_
  refine g_iload_n C rfl dX8_become_4 rfl ?_
  refine g_callVQ C tw_362 tw_363 tw_364 tw_2 tw_365 hy_X7_flyerOf (by decide) (by decide) rfl (Nat.le_of_ble_eq_true rfl) rfl rfl (ct_X7_flyerOf V_l1 V_l2   f a1 ) dX8_become_5 rfl rfl (fun hv2 => ?_) (fun k1 hv2 => ?_)
  · replace h := h.1 hv2
    refine g_astore_nN (lv' := [(3, .null), (0, .ref (zad Z 0)), (1, .int a1), (2, .int a2)]) C dX8_become_8 (by decide) rfl rfl ?_
    refine g_aload_nN C rfl dX8_become_9 rfl ?_
    refine g_ifnull_n (q := 20) C dX8_become_10 (by decide) ?_
    refine g_lps [0] rfl ?_
    exact wk_X8_become_L20 V_l1 V_l2 V_m1 V_m2 V_x8  C    _  h
  · replace h := h.2 k1 hv2
    refine g_astore_n (lv' := [(3, .ref (zad Z k1)), (0, .ref (zad Z 0)), (1, .int a1), (2, .int a2)]) C dX8_become_8 (by decide) rfl rfl ?_
    refine g_aload_n C rfl dX8_become_9 rfl ?_
    refine g_ifnull_r (q := 13) C dX8_become_10 rfl ?_
    refine g_iload_n C rfl dX8_become_13 rfl ?_
    refine g_callSD C tw_359 tw_360 tw_1 tw_361 hy_X8_isKindAndNumber (by decide) (by decide) rfl (Nat.le_of_ble_eq_true rfl) (ct_X8_isKindAndNumber V_l1 V_l2 V_m1 V_m2 V_x8   f a2 ) dX8_become_14 rfl rfl ?_
    refine g_if_ne (tgt := 26) C dX8_become_17 (by decide) rfl (fun hc6 => ?_) (fun hc6 => ?_)
    · replace h := h.1 hc6
      refine g_aload_n C rfl dX8_become_26 rfl ?_
      have hs7 := h.1
      replace h := h.2
      refine fg_X8_105I (k := k1) (x := (f k1 0)) C hs7 rfl rfl dX8_become_27 rfl ?_
      refine g_istore (lv' := [(4, .int (f k1 0)), (3, .ref (zad Z k1)), (0, .ref (zad Z 0)), (1, .int a1), (2, .int a2)]) C dX8_become_30 (by decide) rfl rfl ?_
      refine g_aload_n C rfl dX8_become_32 rfl ?_
      refine g_iload_n C rfl dX8_become_33 rfl ?_
      refine g_callVV C tw_395 tw_371 tw_372 tw_5 tw_373 hy_X0_take (by decide) (by decide) rfl (Nat.le_of_ble_eq_true rfl) hs7 rfl (ct_X0_take V_l1 k1 hs7 f a2 ) dX8_become_34 rfl rfl (fun f8 hp9 => ?_)
      replace h := h f8 hp9
      refine g_iload C rfl dX8_become_37 rfl ?_
      exact g_iret C dX8_become_39 h
    · replace h := h.2 hc6
      refine g_lps [0] rfl ?_
      exact wk_X8_become_L20 V_l1 V_l2 V_m1 V_m2 V_x8  C    _  h
set_option maxRecDepth 100000 in
theorem ct_X8_become (V_l1 : VC_l1) (V_l2 : VC_l2) (V_m1 : VC_m1) (V_m2 : VC_m2) (V_x8 : VC_x8) {l : Launch} {E : Ev}   (f : Fn) (a1 : Int32) (a2 : Int32) (hpre : Pre_X8_become f a1 a2) : CT l E layC yX8_become cX8_become 5 (some .int) 2 [.ref (E.2.1 0), .int a1, .int a2] f (pI (Post_X8_become f a1 a2)) := by
  refine CT.of (by decide +kernel) (Nat.le_of_ble_eq_true rfl) (fun Z hl9 hE9 hp9 C => ?_)
  subst hl9
  subst hE9
  exact wk_X8_become V_l1 V_l2 V_m1 V_m2 V_x8 C   f a1 a2 (by rw [hp9]; exact V_x8.2.2.2.2.2.2.2.2.2.2.2.2.2.1  f a1 a2  hpre)
set_option maxHeartbeats 4000000 in
set_option maxRecDepth 100000 in
theorem wk_X8_as_L23 (V_l1 : VC_l1) (V_l2 : VC_l2) (V_m1 : VC_m1) (V_m2 : VC_m2) (V_x8 : VC_x8) {Z : Zt}  (C : CX Z layC RX8 cX8_as 4 (some .int) 2)     (f : Fn)  (h : wp_X8_as_L23   f  (zp Z)) : GG Z f [(0, .ref (zad Z 0))] 23 [] := by
  refine g_aload_n C rfl dX8_as_23 rfl ?_
  refine g_iconst C ki_1 dX8_as_24 rfl ?_
  refine g_callVI C tw_324 tw_326 tp_0 tw_1 tw_327 hy_X8_error (by decide) (by decide) rfl (Nat.le_of_ble_eq_true rfl) rfl rfl (ct_X8_error V_l1 V_l2 V_m1 V_m2 V_x8   f (1 : Int32) ) dX8_as_25 rfl rfl (fun r3 f4 hp5 => ?_)
  replace h := h r3 f4 hp5
  exact g_iret C dX8_as_28 h
set_option maxHeartbeats 4000000 in
set_option maxRecDepth 100000 in
theorem wk_X8_as (V_l1 : VC_l1) (V_l2 : VC_l2) (V_m1 : VC_m1) (V_m2 : VC_m2) (V_x8 : VC_x8) {Z : Zt}  (C : CX Z layC RX8 cX8_as 4 (some .int) 2)     (f : Fn) (a1 : Int32) (a2 : Int32) (h : wp_X8_as  f a1 a2 (zp Z)) : GG Z f [(0, .ref (zad Z 0)), (1, .int a1), (2, .int a2)] 0 [] := by
  refine g_aload_n C rfl dX8_as_0 rfl ?_
  refine fg_X8_10R (k := 0) (p := 1) C rfl rfl dX8_as_1 rfl ?_
  refine g_iload_n C rfl dX8_as_4 rfl ?_
  refine g_callVQ C tw_362 tw_363 tw_364 tw_2 tw_365 hy_X7_flyerOf (by decide) (by decide) rfl (Nat.le_of_ble_eq_true rfl) rfl rfl (ct_X7_flyerOf V_l1 V_l2   f a1 ) dX8_as_5 rfl rfl (fun hv2 => ?_) (fun k1 hv2 => ?_)
  · replace h := h.1 hv2
    refine g_astore_nN (lv' := [(3, .null), (0, .ref (zad Z 0)), (1, .int a1), (2, .int a2)]) C dX8_as_8 (by decide) rfl rfl ?_
    refine g_aload_nN C rfl dX8_as_9 rfl ?_
    refine g_ifnull_n (q := 23) C dX8_as_10 (by decide) ?_
    refine g_lps [0] rfl ?_
    exact wk_X8_as_L23 V_l1 V_l2 V_m1 V_m2 V_x8  C    _  h
  · replace h := h.2 k1 hv2
    refine g_astore_n (lv' := [(3, .ref (zad Z k1)), (0, .ref (zad Z 0)), (1, .int a1), (2, .int a2)]) C dX8_as_8 (by decide) rfl rfl ?_
    refine g_aload_n C rfl dX8_as_9 rfl ?_
    refine g_ifnull_r (q := 13) C dX8_as_10 rfl ?_
    refine g_iload_n C rfl dX8_as_13 rfl ?_
    refine g_iconst C ki_0 dX8_as_14 rfl ?_
    refine g_bipush C kb_6 dX8_as_15 rfl ?_
    refine g_callSD C tw_328 tw_322 tw_1 tw_323 hy_X8_within (by decide) (by decide) rfl (Nat.le_of_ble_eq_true rfl) (ct_X8_within V_l1   f a2 (0 : Int32) (6 : Int32) ) dX8_as_17 rfl rfl ?_
    refine g_if_ne (tgt := 29) C dX8_as_20 (by decide) rfl (fun hc6 => ?_) (fun hc6 => ?_)
    · replace h := h.1 hc6
      refine g_aload_n C rfl dX8_as_29 rfl ?_
      refine g_iload_n C rfl dX8_as_30 rfl ?_
      have hs7 := h.1
      replace h := h.2
      have hs8 := h.1
      replace h := h.2
      refine g_callVD C tw_400 tw_401 tw_402 tw_5 tw_403 hy_X0_isOf (by decide) (by decide) rfl (Nat.le_of_ble_eq_true rfl) hs7 rfl (ct_X0_isOf V_l1 k1 hs7 f a2 hs8) dX8_as_31 rfl rfl ?_
      refine g_if_ne (tgt := 43) C dX8_as_34 (by decide) rfl (fun hc9 => ?_) (fun hc9 => ?_)
      · replace h := h.1 hc9
        refine g_aload_n C rfl dX8_as_43 rfl ?_
        refine fg_X8_108I (k := k1) (x := (f k1 1)) C hs7 rfl rfl dX8_as_44 rfl ?_
        exact g_iret C dX8_as_47 h
      · replace h := h.2 hc9
        refine g_aload_n C rfl dX8_as_37 rfl ?_
        refine g_iconst C ki_5 dX8_as_38 rfl ?_
        refine g_callVI C tw_324 tw_326 tp_0 tw_1 tw_327 hy_X8_error (by decide) (by decide) rfl (Nat.le_of_ble_eq_true rfl) rfl rfl (ct_X8_error V_l1 V_l2 V_m1 V_m2 V_x8   f (5 : Int32) ) dX8_as_39 rfl rfl (fun r10 f11 hp12 => ?_)
        replace h := h r10 f11 hp12
        exact g_iret C dX8_as_42 h
    · replace h := h.2 hc6
      refine g_lps [0] rfl ?_
      exact wk_X8_as_L23 V_l1 V_l2 V_m1 V_m2 V_x8  C    _  h
set_option maxRecDepth 100000 in
theorem ct_X8_as (V_l1 : VC_l1) (V_l2 : VC_l2) (V_m1 : VC_m1) (V_m2 : VC_m2) (V_x8 : VC_x8) {l : Launch} {E : Ev}   (f : Fn) (a1 : Int32) (a2 : Int32) (hpre : Pre_X8_as f a1 a2) : CT l E layC yX8_as cX8_as 4 (some .int) 2 [.ref (E.2.1 0), .int a1, .int a2] f (pI (Post_X8_as f a1 a2)) := by
  refine CT.of (by decide +kernel) (Nat.le_of_ble_eq_true rfl) (fun Z hl9 hE9 hp9 C => ?_)
  subst hl9
  subst hE9
  exact wk_X8_as V_l1 V_l2 V_m1 V_m2 V_x8 C   f a1 a2 (by rw [hp9]; exact V_x8.2.2.2.2.2.2.2.2.2.2.2.2.2.2.1  f a1 a2  hpre)
set_option maxHeartbeats 4000000 in
set_option maxRecDepth 100000 in
theorem wk_X8_turn_L22 (V_l1 : VC_l1) (V_l2 : VC_l2) (V_m1 : VC_m1) (V_m2 : VC_m2) (V_x8 : VC_x8) {Z : Zt}  (C : CX Z layC RX8 cX8_turn 5 (some .int) 2)     (f : Fn)  (h : wp_X8_turn_L22   f  (zp Z)) : GG Z f [(0, .ref (zad Z 0))] 22 [] := by
  refine g_aload_n C rfl dX8_turn_22 rfl ?_
  refine g_iconst C ki_1 dX8_turn_23 rfl ?_
  refine g_callVI C tw_324 tw_326 tp_0 tw_1 tw_327 hy_X8_error (by decide) (by decide) rfl (Nat.le_of_ble_eq_true rfl) rfl rfl (ct_X8_error V_l1 V_l2 V_m1 V_m2 V_x8   f (1 : Int32) ) dX8_turn_24 rfl rfl (fun r3 f4 hp5 => ?_)
  replace h := h r3 f4 hp5
  exact g_iret C dX8_turn_27 h
set_option maxHeartbeats 4000000 in
set_option maxRecDepth 100000 in
theorem wk_X8_turn (V_l1 : VC_l1) (V_l2 : VC_l2) (V_m1 : VC_m1) (V_m2 : VC_m2) (V_x8 : VC_x8) {Z : Zt}  (C : CX Z layC RX8 cX8_turn 5 (some .int) 2)     (f : Fn) (a1 : Int32) (a2 : Int32) (h : wp_X8_turn  f a1 a2 (zp Z)) : GG Z f [(0, .ref (zad Z 0)), (1, .int a1), (2, .int a2)] 0 [] := by
  refine g_aload_n C rfl dX8_turn_0 rfl ?_
  refine fg_X8_10R (k := 0) (p := 1) C rfl rfl dX8_turn_1 rfl ?_
  refine g_iload_n C rfl dX8_turn_4 rfl ?_
  refine g_callVQ C tw_362 tw_363 tw_364 tw_2 tw_365 hy_X7_flyerOf (by decide) (by decide) rfl (Nat.le_of_ble_eq_true rfl) rfl rfl (ct_X7_flyerOf V_l1 V_l2   f a1 ) dX8_turn_5 rfl rfl (fun hv2 => ?_) (fun k1 hv2 => ?_)
  · replace h := h.1 hv2
    refine g_astore_nN (lv' := [(3, .null), (0, .ref (zad Z 0)), (1, .int a1), (2, .int a2)]) C dX8_turn_8 (by decide) rfl rfl ?_
    refine g_aload_nN C rfl dX8_turn_9 rfl ?_
    refine g_ifnull_n (q := 22) C dX8_turn_10 (by decide) ?_
    refine g_lps [0] rfl ?_
    exact wk_X8_turn_L22 V_l1 V_l2 V_m1 V_m2 V_x8  C    _  h
  · replace h := h.2 k1 hv2
    refine g_astore_n (lv' := [(3, .ref (zad Z k1)), (0, .ref (zad Z 0)), (1, .int a1), (2, .int a2)]) C dX8_turn_8 (by decide) rfl rfl ?_
    refine g_aload_n C rfl dX8_turn_9 rfl ?_
    refine g_ifnull_r (q := 13) C dX8_turn_10 rfl ?_
    refine g_iload_n C rfl dX8_turn_13 rfl ?_
    refine g_iconst C ki_1 dX8_turn_14 rfl ?_
    refine g_iconst C ki_3 dX8_turn_15 rfl ?_
    refine g_callSD C tw_328 tw_322 tw_1 tw_323 hy_X8_within (by decide) (by decide) rfl (Nat.le_of_ble_eq_true rfl) (ct_X8_within V_l1   f a2 (1 : Int32) (3 : Int32) ) dX8_turn_16 rfl rfl ?_
    refine g_if_ne (tgt := 28) C dX8_turn_19 (by decide) rfl (fun hc6 => ?_) (fun hc6 => ?_)
    · replace h := h.1 hc6
      refine g_aload_n C rfl dX8_turn_28 rfl ?_
      have hs7 := h.1
      replace h := h.2
      refine fg_X8_111I (k := k1) (x := (f k1 2)) C hs7 rfl rfl dX8_turn_29 rfl ?_
      refine g_istore (lv' := [(4, .int (f k1 2)), (3, .ref (zad Z k1)), (0, .ref (zad Z 0)), (1, .int a1), (2, .int a2)]) C dX8_turn_32 (by decide) rfl rfl ?_
      refine g_aload_n C rfl dX8_turn_34 rfl ?_
      refine g_iload_n C rfl dX8_turn_35 rfl ?_
      refine fp_X8_111 (k := k1) C hs7 rfl (Nat.le_of_ble_eq_true rfl) dX8_turn_36 rfl ?_
      refine g_iload C rfl dX8_turn_39 rfl ?_
      exact g_iret C dX8_turn_41 h
    · replace h := h.2 hc6
      refine g_lps [0] rfl ?_
      exact wk_X8_turn_L22 V_l1 V_l2 V_m1 V_m2 V_x8  C    _  h
set_option maxRecDepth 100000 in
theorem ct_X8_turn (V_l1 : VC_l1) (V_l2 : VC_l2) (V_m1 : VC_m1) (V_m2 : VC_m2) (V_x8 : VC_x8) {l : Launch} {E : Ev}   (f : Fn) (a1 : Int32) (a2 : Int32) (hpre : Pre_X8_turn f a1 a2) : CT l E layC yX8_turn cX8_turn 5 (some .int) 2 [.ref (E.2.1 0), .int a1, .int a2] f (pI (Post_X8_turn f a1 a2)) := by
  refine CT.of (by decide +kernel) (Nat.le_of_ble_eq_true rfl) (fun Z hl9 hE9 hp9 C => ?_)
  subst hl9
  subst hE9
  exact wk_X8_turn V_l1 V_l2 V_m1 V_m2 V_x8 C   f a1 a2 (by rw [hp9]; exact V_x8.2.2.2.2.2.2.2.2.2.2.2.2.2.2.2.1  f a1 a2  hpre)
set_option maxHeartbeats 4000000 in
set_option maxRecDepth 100000 in
theorem wkb_X8_feed_L39 (V_l1 : VC_l1) (V_l2 : VC_l2) (V_m1 : VC_m1) (V_m2 : VC_m2) (V_x8 : VC_x8) {Z : Zt}  (C : CX Z layC RX8 cX8_feed 5 (some .int) 2)   {K39 : Fn → Int64 → Int32 → Int32 → Prop} (hK39 : ∀ (f : Fn) (x1 : Int64) (x3 : Int32) (x4 : Int32), K39 f x1 x3 x4 → GG Z f [(0, .ref (zad Z 0)), (1, .long x1), (3, .int x3), (4, .int x4)] 39 []) (f : Fn) (x1 : Int64) (x3 : Int32) (x4 : Int32) (h : wpb_X8_feed_L39   K39 f x1 x3 x4 (zp Z)) : GG Z f [(0, .ref (zad Z 0)), (1, .long x1), (3, .int x3), (4, .int x4)] 39 [] := by
  refine g_iload C rfl dX8_feed_39 rfl ?_
  refine g_iload_n C rfl dX8_feed_41 rfl ?_
  refine g_icmp_ge (tgt := 70) C dX8_feed_42 (by decide) rfl (fun hc3 => ?_) (fun hc3 => ?_)
  · replace h := h.1 hc3
    refine g_aload_n C rfl dX8_feed_70 rfl ?_
    refine fg_X8_10R (k := 0) (p := 1) C rfl rfl dX8_feed_71 rfl ?_
    refine fg_X8_133I (k := 1) (x := (f 1 9)) C rfl rfl rfl dX8_feed_74 rfl ?_
    exact g_iret C dX8_feed_77 h
  · replace h := h.2 hc3
    refine g_aload_n C rfl dX8_feed_45 rfl ?_
    refine fg_X8_10R (k := 0) (p := 1) C rfl rfl dX8_feed_46 rfl ?_
    refine g_lload_n C rfl dX8_feed_49 rfl ?_
    refine g_bipush C kb_8 dX8_feed_50 rfl ?_
    refine g_iload C rfl dX8_feed_52 rfl ?_
    refine g_imul C dX8_feed_54 rfl ?_
    refine g_lushr C dX8_feed_55 rfl ?_
    refine g_l2i C dX8_feed_56 rfl ?_
    refine g_sipush C ks_255 dX8_feed_57 rfl ?_
    refine g_iand C dX8_feed_60 rfl ?_
    refine g_callVV C tw_415 tw_416 tw_417 tw_2 tw_418 hy_X7_addByte (by decide) (by decide) rfl (Nat.le_of_ble_eq_true rfl) rfl rfl (ct_X7_addByte V_l1 V_l2   f (((x1.toUInt64 >>> (((8 : Int32) * x4).toInt64.toUInt64 &&& Int64.toUInt64 63)).toInt64).toInt32 &&& (255 : Int32)) ) dX8_feed_61 rfl rfl (fun f4 hp5 => ?_)
    replace h := h f4 hp5
    refine g_iinc (lv' := [(4, .int (x4 + (1 : Int32))), (0, .ref (zad Z 0)), (1, .long x1), (3, .int x3)]) C dX8_feed_64 rfl (inc_1 _) (by decide) rfl rfl ?_
    refine g_goto (q := 39) C dX8_feed_67 (by decide) ?_
    refine g_lps [0, 1, 3, 4] rfl ?_
    exact hK39 _ _ _ _ h
set_option maxHeartbeats 4000000 in
set_option maxRecDepth 100000 in
theorem wk_X8_feed_L39 (V_l1 : VC_l1) (V_l2 : VC_l2) (V_m1 : VC_m1) (V_m2 : VC_m2) (V_x8 : VC_x8) {Z : Zt}  (C : CX Z layC RX8 cX8_feed 5 (some .int) 2)     (f : Fn) (x1 : Int64) (x3 : Int32) (x4 : Int32) (h : wp_X8_feed_L39   f x1 x3 x4 (zp Z)) : GG Z f [(0, .ref (zad Z 0)), (1, .long x1), (3, .int x3), (4, .int x4)] 39 [] := by
  obtain ⟨I, μ, h0, hs⟩ := h
  suffices H : ∀ (N : Nat) (f : Fn) (x1 : Int64) (x3 : Int32) (x4 : Int32), μ f x1 x3 x4 < N → I f x1 x3 x4 → GG Z f [(0, .ref (zad Z 0)), (1, .long x1), (3, .int x3), (4, .int x4)] 39 [] from H _ f x1 x3 x4 (Nat.lt_succ_self _) h0
  clear h0
  intro N
  induction N with
  | zero => intro f x1 x3 x4 hm; exact absurd hm (Nat.not_lt_zero _)
  | succ N ih =>
    intro f x1 x3 x4 hm hi
    exact wkb_X8_feed_L39 V_l1 V_l2 V_m1 V_m2 V_x8  C    (fun f9 x19 x39 x49 hk => ih f9 x19 x39 x49 (Nat.lt_of_lt_of_le hk.2 (Nat.le_of_lt_succ hm)) hk.1) f x1 x3 x4 (hs f x1 x3 x4 hi)
set_option maxHeartbeats 4000000 in
set_option maxRecDepth 100000 in
theorem wk_X8_feed (V_l1 : VC_l1) (V_l2 : VC_l2) (V_m1 : VC_m1) (V_m2 : VC_m2) (V_x8 : VC_x8) {Z : Zt}  (C : CX Z layC RX8 cX8_feed 5 (some .int) 2)     (f : Fn) (a1 : Int64) (a2 : Int32) (h : wp_X8_feed  f a1 a2 (zp Z)) : GG Z f [(0, .ref (zad Z 0)), (1, .long a1), (3, .int a2)] 0 [] := by
  refine g_iload_n C rfl dX8_feed_0 rfl ?_
  refine g_iconst C ki_1 dX8_feed_1 rfl ?_
  refine g_bipush C kb_8 dX8_feed_2 rfl ?_
  refine g_callSD C tw_328 tw_322 tw_1 tw_323 hy_X8_within (by decide) (by decide) rfl (Nat.le_of_ble_eq_true rfl) (ct_X8_within V_l1   f a2 (1 : Int32) (8 : Int32) ) dX8_feed_4 rfl rfl ?_
  refine g_if_ne (tgt := 16) C dX8_feed_7 (by decide) rfl (fun hc1 => ?_) (fun hc1 => ?_)
  · replace h := h.1 hc1
    refine g_aload_n C rfl dX8_feed_16 rfl ?_
    refine fg_X8_10R (k := 0) (p := 1) C rfl rfl dX8_feed_17 rfl ?_
    refine fg_X8_133I (k := 1) (x := (f 1 9)) C rfl rfl rfl dX8_feed_20 rfl ?_
    refine g_bipush C kb_50 dX8_feed_23 rfl ?_
    refine g_iload_n C rfl dX8_feed_25 rfl ?_
    refine g_isub C dX8_feed_26 rfl ?_
    refine g_icmp_le (tgt := 36) C dX8_feed_27 (by decide) rfl (fun hc2 => ?_) (fun hc2 => ?_)
    · replace h := h.1 hc2
      refine g_iconst C ki_0 dX8_feed_36 rfl ?_
      refine g_istore (lv' := [(4, .int (0 : Int32)), (0, .ref (zad Z 0)), (1, .long a1), (3, .int a2)]) C dX8_feed_37 (by decide) rfl rfl ?_
      refine g_lps [0, 1, 3, 4] rfl ?_
      exact wk_X8_feed_L39 V_l1 V_l2 V_m1 V_m2 V_x8  C    _ _ _ _ h
    · replace h := h.2 hc2
      refine g_aload_n C rfl dX8_feed_30 rfl ?_
      refine g_iconst C ki_4 dX8_feed_31 rfl ?_
      refine g_callVI C tw_324 tw_326 tp_0 tw_1 tw_327 hy_X8_error (by decide) (by decide) rfl (Nat.le_of_ble_eq_true rfl) rfl rfl (ct_X8_error V_l1 V_l2 V_m1 V_m2 V_x8   f (4 : Int32) ) dX8_feed_32 rfl rfl (fun r6 f7 hp8 => ?_)
      replace h := h r6 f7 hp8
      exact g_iret C dX8_feed_35 h
  · replace h := h.2 hc1
    refine g_aload_n C rfl dX8_feed_10 rfl ?_
    refine g_iconst C ki_1 dX8_feed_11 rfl ?_
    refine g_callVI C tw_324 tw_326 tp_0 tw_1 tw_327 hy_X8_error (by decide) (by decide) rfl (Nat.le_of_ble_eq_true rfl) rfl rfl (ct_X8_error V_l1 V_l2 V_m1 V_m2 V_x8   f (1 : Int32) ) dX8_feed_12 rfl rfl (fun r9 f10 hp11 => ?_)
    replace h := h r9 f10 hp11
    exact g_iret C dX8_feed_15 h
set_option maxRecDepth 100000 in
theorem ct_X8_feed (V_l1 : VC_l1) (V_l2 : VC_l2) (V_m1 : VC_m1) (V_m2 : VC_m2) (V_x8 : VC_x8) {l : Launch} {E : Ev}   (f : Fn) (a1 : Int64) (a2 : Int32) (hpre : Pre_X8_feed f a1 a2) : CT l E layC yX8_feed cX8_feed 5 (some .int) 2 [.ref (E.2.1 0), .long a1, .int a2] f (pI (Post_X8_feed f a1 a2)) := by
  refine CT.of (by decide +kernel) (Nat.le_of_ble_eq_true rfl) (fun Z hl9 hE9 hp9 C => ?_)
  subst hl9
  subst hE9
  exact wk_X8_feed V_l1 V_l2 V_m1 V_m2 V_x8 C   f a1 a2 (by rw [hp9]; exact V_x8.2.2.2.2.2.2.2.2.2.2.2.2.2.2.2.2.1  f a1 a2  hpre)
set_option maxHeartbeats 4000000 in
set_option maxRecDepth 100000 in
theorem wk_X8_text (V_l1 : VC_l1) (V_l2 : VC_l2) (V_m1 : VC_m1) (V_m2 : VC_m2) (V_x8 : VC_x8) {Z : Zt}  (C : CX Z layC RX8 cX8_text 4 (some .int) 53)     (f : Fn) (a1 : Int32) (h : wp_X8_text  f a1 (zp Z)) : GG Z f [(0, .ref (zad Z 0)), (1, .int a1)] 0 [] := by
  refine g_aload_n C rfl dX8_text_0 rfl ?_
  refine fg_X8_10R (k := 0) (p := 1) C rfl rfl dX8_text_1 rfl ?_
  refine g_iload_n C rfl dX8_text_4 rfl ?_
  refine g_callVQ C tw_423 tw_424 tw_425 tw_2 tw_426 hy_X7_lawOf (by decide) (by decide) rfl (Nat.le_of_ble_eq_true rfl) rfl rfl (ct_X7_lawOf V_l1 V_l2   f a1 ) dX8_text_5 rfl rfl (fun hv2 => ?_) (fun k1 hv2 => ?_)
  · replace h := h.1 hv2
    refine g_astore_nN (lv' := [(2, .null), (0, .ref (zad Z 0)), (1, .int a1)]) C dX8_text_8 (by decide) rfl rfl ?_
    refine g_aload_nN C rfl dX8_text_9 rfl ?_
    refine g_ifnonnull_n (q := 13) C dX8_text_10 rfl ?_
    refine g_aload_n C rfl dX8_text_13 rfl ?_
    refine g_iconst C ki_1 dX8_text_14 rfl ?_
    refine g_callVI C tw_324 tw_326 tp_0 tw_1 tw_327 hy_X8_error (by decide) (by decide) rfl (Nat.le_of_ble_eq_true rfl) rfl rfl (ct_X8_error V_l1 V_l2 V_m1 V_m2 V_x8   f (1 : Int32) ) dX8_text_15 rfl rfl (fun r3 f4 hp5 => ?_)
    replace h := h r3 f4 hp5
    exact g_iret C dX8_text_18 h
  · replace h := h.2 k1 hv2
    refine g_astore_n (lv' := [(2, .ref (zad Z k1)), (0, .ref (zad Z 0)), (1, .int a1)]) C dX8_text_8 (by decide) rfl rfl ?_
    refine g_aload_n C rfl dX8_text_9 rfl ?_
    refine g_ifnonnull_r (q := 19) C dX8_text_10 (by decide) ?_
    refine g_aload_n C rfl dX8_text_19 rfl ?_
    refine fg_X8_31R (k := 0) (p := 42) C rfl rfl dX8_text_20 rfl ?_
    have hs6 := h.1
    replace h := h.2
    refine g_callVI C tw_427 tw_428 tw_429 tw_7 tw_430 hy_X2_readTape (by decide) (by decide) rfl (Nat.le_of_ble_eq_true rfl) rfl rfl (ct_X2_readTape V_l1 V_l2   f hs6) dX8_text_23 rfl rfl (fun r7 f8 hp9 => ?_)
    replace h := h r7 f8 hp9
    refine g_istore_n (lv' := [(3, .int r7), (2, .ref (zad Z k1)), (0, .ref (zad Z 0)), (1, .int a1)]) C dX8_text_26 (by decide) rfl rfl ?_
    refine g_aload_n C rfl dX8_text_27 rfl ?_
    refine fg_X8_10R (k := 0) (p := 1) C rfl rfl dX8_text_28 rfl ?_
    refine g_iconst C ki_0 dX8_text_31 rfl ?_
    refine fp_X8_133 (k := 1) C rfl rfl (Nat.le_of_ble_eq_true rfl) dX8_text_32 rfl ?_
    refine g_iload_n C rfl dX8_text_35 rfl ?_
    refine g_if_lt (tgt := 44) C dX8_text_36 (by decide) rfl (fun hc10 => ?_) (fun hc10 => ?_)
    · replace h := h.1 hc10
      refine g_aload_n C rfl dX8_text_44 rfl ?_
      refine g_aload_n C rfl dX8_text_45 rfl ?_
      refine fg_X8_31R (k := 0) (p := 42) C rfl rfl dX8_text_46 rfl ?_
      refine fg_X8_146R (k := 42) (p := 43) C rfl rfl dX8_text_49 rfl ?_
      refine g_aload_n C rfl dX8_text_52 rfl ?_
      refine fg_X8_31R (k := 0) (p := 42) C rfl rfl dX8_text_53 rfl ?_
      refine fg_X8_149I (k := 42) (x := (f8 42 2)) C rfl rfl (by simp [up2, upd]) dX8_text_56 rfl ?_
      have hs11 := h.1
      replace h := h.2
      refine g_callVV C tw_457 tw_458 tw_459 tw_4 tw_460 hy_X1_take (by decide) (by decide) rfl (Nat.le_of_ble_eq_true rfl) hs11.1 rfl (ct_X1_take V_l1 k1 43 hs11 rfl (up2 f8 1 9 (0 : Int32)) (f8 42 2) ) dX8_text_59 rfl rfl (fun f12 hp13 => ?_)
      replace h := h f12 hp13
      refine g_iconst C ki_1 dX8_text_62 rfl ?_
      exact g_iret C dX8_text_63 h
    · replace h := h.2 hc10
      refine g_bipush C kb_m10 dX8_text_39 rfl ?_
      refine g_iload_n C rfl dX8_text_41 rfl ?_
      refine g_isub C dX8_text_42 rfl ?_
      exact g_iret C dX8_text_43 h
set_option maxRecDepth 100000 in
theorem ct_X8_text (V_l1 : VC_l1) (V_l2 : VC_l2) (V_m1 : VC_m1) (V_m2 : VC_m2) (V_x8 : VC_x8) {l : Launch} {E : Ev}   (f : Fn) (a1 : Int32) (hpre : Pre_X8_text f a1) : CT l E layC yX8_text cX8_text 4 (some .int) 53 [.ref (E.2.1 0), .int a1] f (pI (Post_X8_text f a1)) := by
  refine CT.of (by decide +kernel) (Nat.le_of_ble_eq_true rfl) (fun Z hl9 hE9 hp9 C => ?_)
  subst hl9
  subst hE9
  exact wk_X8_text V_l1 V_l2 V_m1 V_m2 V_x8 C   f a1 (by rw [hp9]; exact V_x8.2.2.2.2.2.2.2.2.2.2.2.2.2.2.2.2.2.1  f a1  hpre)
set_option maxHeartbeats 4000000 in
set_option maxRecDepth 100000 in
theorem wk_X8_law (V_l1 : VC_l1) (V_l2 : VC_l2) (V_m1 : VC_m1) (V_m2 : VC_m2) (V_x8 : VC_x8) {Z : Zt}  (C : CX Z layC RX8 cX8_law 6 (some .int) 2)     (f : Fn) (a1 : Int32) (a2 : Int32) (a3 : Int32) (a4 : Int32) (h : wp_X8_law  f a1 a2 a3 a4 (zp Z)) : GG Z f [(0, .ref (zad Z 0)), (1, .int a1), (2, .int a2), (3, .int a3), (4, .int a4)] 0 [] := by
  refine g_aload_n C rfl dX8_law_0 rfl ?_
  refine fg_X8_10R (k := 0) (p := 1) C rfl rfl dX8_law_1 rfl ?_
  refine g_iload_n C rfl dX8_law_4 rfl ?_
  refine g_callVQ C tw_423 tw_424 tw_425 tw_2 tw_426 hy_X7_lawOf (by decide) (by decide) rfl (Nat.le_of_ble_eq_true rfl) rfl rfl (ct_X7_lawOf V_l1 V_l2   f a1 ) dX8_law_5 rfl rfl (fun hv2 => ?_) (fun k1 hv2 => ?_)
  · replace h := h.1 hv2
    refine g_astoreN (lv' := [(5, .null), (0, .ref (zad Z 0)), (1, .int a1), (2, .int a2), (3, .int a3), (4, .int a4)]) C dX8_law_8 (by decide) rfl rfl ?_
    refine g_aloadN C rfl dX8_law_10 rfl ?_
    refine g_ifnonnull_n (q := 15) C dX8_law_12 rfl ?_
    refine g_aload_n C rfl dX8_law_15 rfl ?_
    refine g_iconst C ki_1 dX8_law_16 rfl ?_
    refine g_callVI C tw_324 tw_326 tp_0 tw_1 tw_327 hy_X8_error (by decide) (by decide) rfl (Nat.le_of_ble_eq_true rfl) rfl rfl (ct_X8_error V_l1 V_l2 V_m1 V_m2 V_x8   f (1 : Int32) ) dX8_law_17 rfl rfl (fun r3 f4 hp5 => ?_)
    replace h := h r3 f4 hp5
    exact g_iret C dX8_law_20 h
  · replace h := h.2 k1 hv2
    refine g_astore (lv' := [(5, .ref (zad Z k1)), (0, .ref (zad Z 0)), (1, .int a1), (2, .int a2), (3, .int a3), (4, .int a4)]) C dX8_law_8 (by decide) rfl rfl ?_
    refine g_aload C rfl dX8_law_10 rfl ?_
    refine g_ifnonnull_r (q := 21) C dX8_law_12 (by decide) ?_
    refine g_aload C rfl dX8_law_21 rfl ?_
    refine g_iload_n C rfl dX8_law_23 rfl ?_
    refine g_iload_n C rfl dX8_law_24 rfl ?_
    refine g_iload C rfl dX8_law_25 rfl ?_
    have hs6 := h.1
    replace h := h.2
    refine g_callVI C tw_468 tw_469 tw_470 tw_4 tw_471 hy_X1_gives (by decide) (by decide) rfl (Nat.le_of_ble_eq_true rfl) hs6.1 rfl (ct_X1_gives V_l1 k1 hs6 f a2 a3 a4 ) dX8_law_27 rfl rfl (fun r7 f8 hp9 => ?_)
    replace h := h r7 f8 hp9
    exact g_iret C dX8_law_30 h
set_option maxRecDepth 100000 in
theorem ct_X8_law (V_l1 : VC_l1) (V_l2 : VC_l2) (V_m1 : VC_m1) (V_m2 : VC_m2) (V_x8 : VC_x8) {l : Launch} {E : Ev}   (f : Fn) (a1 : Int32) (a2 : Int32) (a3 : Int32) (a4 : Int32) (hpre : Pre_X8_law f a1 a2 a3 a4) : CT l E layC yX8_law cX8_law 6 (some .int) 2 [.ref (E.2.1 0), .int a1, .int a2, .int a3, .int a4] f (pI (Post_X8_law f a1 a2 a3 a4)) := by
  refine CT.of (by decide +kernel) (Nat.le_of_ble_eq_true rfl) (fun Z hl9 hE9 hp9 C => ?_)
  subst hl9
  subst hE9
  exact wk_X8_law V_l1 V_l2 V_m1 V_m2 V_x8 C   f a1 a2 a3 a4 (by rw [hp9]; exact V_x8.2.2.2.2.2.2.2.2.2.2.2.2.2.2.2.2.2.2.1  f a1 a2 a3 a4  hpre)
set_option maxHeartbeats 4000000 in
set_option maxRecDepth 100000 in
theorem wk_X8_go (V_l1 : VC_l1) (V_l2 : VC_l2) (V_m1 : VC_m1) (V_m2 : VC_m2) (V_x8 : VC_x8) {Z : Zt}  (C : CX Z layC RX8 cX8_go 3 (some .int) 5)     (f : Fn) (a1 : Int32) (h : wp_X8_go  f a1 (zp Z)) : GG Z f [(0, .ref (zad Z 0)), (1, .int a1)] 0 [] := by
  refine g_aload_n C rfl dX8_go_0 rfl ?_
  refine fg_X8_10R (k := 0) (p := 1) C rfl rfl dX8_go_1 rfl ?_
  refine g_iload_n C rfl dX8_go_4 rfl ?_
  refine g_callVQ C tw_362 tw_363 tw_364 tw_2 tw_365 hy_X7_flyerOf (by decide) (by decide) rfl (Nat.le_of_ble_eq_true rfl) rfl rfl (ct_X7_flyerOf V_l1 V_l2   f a1 ) dX8_go_5 rfl rfl (fun hv2 => ?_) (fun k1 hv2 => ?_)
  · replace h := h.1 hv2
    refine g_astore_nN (lv' := [(2, .null), (0, .ref (zad Z 0)), (1, .int a1)]) C dX8_go_8 (by decide) rfl rfl ?_
    refine g_aload_nN C rfl dX8_go_9 rfl ?_
    refine g_ifnonnull_n (q := 13) C dX8_go_10 rfl ?_
    refine g_aload_n C rfl dX8_go_13 rfl ?_
    refine g_iconst C ki_1 dX8_go_14 rfl ?_
    refine g_callVI C tw_324 tw_326 tp_0 tw_1 tw_327 hy_X8_error (by decide) (by decide) rfl (Nat.le_of_ble_eq_true rfl) rfl rfl (ct_X8_error V_l1 V_l2 V_m1 V_m2 V_x8   f (1 : Int32) ) dX8_go_15 rfl rfl (fun r3 f4 hp5 => ?_)
    replace h := h r3 f4 hp5
    exact g_iret C dX8_go_18 h
  · replace h := h.2 k1 hv2
    refine g_astore_n (lv' := [(2, .ref (zad Z k1)), (0, .ref (zad Z 0)), (1, .int a1)]) C dX8_go_8 (by decide) rfl rfl ?_
    refine g_aload_n C rfl dX8_go_9 rfl ?_
    refine g_ifnonnull_r (q := 19) C dX8_go_10 (by decide) ?_
    refine g_aload_n C rfl dX8_go_19 rfl ?_
    refine g_aload_n C rfl dX8_go_20 rfl ?_
    refine g_aload_n C rfl dX8_go_21 rfl ?_
    refine fg_X8_10R (k := 0) (p := 1) C rfl rfl dX8_go_22 rfl ?_
    refine fg_X8_161I (k := 1) (x := (f 1 5)) C rfl rfl rfl dX8_go_25 rfl ?_
    have hs6 := h.1
    replace h := h.2
    have hs7 := h.1
    replace h := h.2
    refine g_callVI C tw_483 tw_485 tp_6 tw_1 tw_486 hy_X8_goToldAt (by decide) (by decide) rfl (Nat.le_of_ble_eq_true rfl) rfl rfl (ct_X8_goToldAt V_l1 V_l2 V_m1 V_m2 V_x8 k1 hs6 f (f 1 5) hs7) dX8_go_28 rfl rfl (fun r8 f9 hp10 => ?_)
    replace h := h r8 f9 hp10
    exact g_iret C dX8_go_31 h
set_option maxRecDepth 100000 in
theorem ct_X8_go (V_l1 : VC_l1) (V_l2 : VC_l2) (V_m1 : VC_m1) (V_m2 : VC_m2) (V_x8 : VC_x8) {l : Launch} {E : Ev}   (f : Fn) (a1 : Int32) (hpre : Pre_X8_go f a1) : CT l E layC yX8_go cX8_go 3 (some .int) 5 [.ref (E.2.1 0), .int a1] f (pI (Post_X8_go f a1)) := by
  refine CT.of (by decide +kernel) (Nat.le_of_ble_eq_true rfl) (fun Z hl9 hE9 hp9 C => ?_)
  subst hl9
  subst hE9
  exact wk_X8_go V_l1 V_l2 V_m1 V_m2 V_x8 C   f a1 (by rw [hp9]; exact V_x8.2.2.2.2.2.2.2.2.2.2.2.2.2.2.2.2.2.2.2.1  f a1  hpre)
set_option maxHeartbeats 4000000 in
set_option maxRecDepth 100000 in
theorem wk_X8_ticks (V_l1 : VC_l1) (V_l2 : VC_l2) (V_m1 : VC_m1) (V_m2 : VC_m2) (V_x8 : VC_x8) {Z : Zt}  (C : CX Z layC RX8 cX8_ticks 2 (some .int) 2)     (f : Fn) (a1 : Int32) (h : wp_X8_ticks  f a1 (zp Z)) : GG Z f [(0, .ref (zad Z 0)), (1, .int a1)] 0 [] := by
  refine g_iload_n C rfl dX8_ticks_0 rfl ?_
  refine g_iconst C ki_1 dX8_ticks_1 rfl ?_
  refine g_sipush C ks_200 dX8_ticks_2 rfl ?_
  refine g_callSD C tw_328 tw_322 tw_1 tw_323 hy_X8_within (by decide) (by decide) rfl (Nat.le_of_ble_eq_true rfl) (ct_X8_within V_l1   f a1 (1 : Int32) (200 : Int32) ) dX8_ticks_5 rfl rfl ?_
  refine g_if_ne (tgt := 17) C dX8_ticks_8 (by decide) rfl (fun hc1 => ?_) (fun hc1 => ?_)
  · replace h := h.1 hc1
    refine g_aload_n C rfl dX8_ticks_17 rfl ?_
    refine fg_X8_10R (k := 0) (p := 1) C rfl rfl dX8_ticks_18 rfl ?_
    refine fg_X8_161I (k := 1) (x := (f 1 5)) C rfl rfl rfl dX8_ticks_21 rfl ?_
    refine g_iload_n C rfl dX8_ticks_24 rfl ?_
    refine g_iadd C dX8_ticks_25 rfl ?_
    refine g_sipush C ks_9999 dX8_ticks_26 rfl ?_
    refine g_icmp_le (tgt := 38) C dX8_ticks_29 (by decide) rfl (fun hc2 => ?_) (fun hc2 => ?_)
    · replace h := h.1 hc2
      refine g_aload_n C rfl dX8_ticks_38 rfl ?_
      refine fg_X8_10R (k := 0) (p := 1) C rfl rfl dX8_ticks_39 rfl ?_
      refine g_dup C rfl dX8_ticks_42 rfl ?_
      refine fg_X8_161I (k := 1) (x := (f 1 5)) C rfl rfl rfl dX8_ticks_43 rfl ?_
      refine g_iload_n C rfl dX8_ticks_46 rfl ?_
      refine g_iadd C dX8_ticks_47 rfl ?_
      refine fp_X8_161 (k := 1) C rfl rfl (Nat.le_of_ble_eq_true rfl) dX8_ticks_48 rfl ?_
      refine g_aload_n C rfl dX8_ticks_51 rfl ?_
      refine fg_X8_10R (k := 0) (p := 1) C rfl rfl dX8_ticks_52 rfl ?_
      refine fg_X8_161I (k := 1) (x := ((f 1 5) + a1)) C rfl rfl (by simp [up2, upd]) dX8_ticks_55 rfl ?_
      exact g_iret C dX8_ticks_58 h
    · replace h := h.2 hc2
      refine g_aload_n C rfl dX8_ticks_32 rfl ?_
      refine g_iconst C ki_3 dX8_ticks_33 rfl ?_
      refine g_callVI C tw_324 tw_326 tp_0 tw_1 tw_327 hy_X8_error (by decide) (by decide) rfl (Nat.le_of_ble_eq_true rfl) rfl rfl (ct_X8_error V_l1 V_l2 V_m1 V_m2 V_x8   f (3 : Int32) ) dX8_ticks_34 rfl rfl (fun r3 f4 hp5 => ?_)
      replace h := h r3 f4 hp5
      exact g_iret C dX8_ticks_37 h
  · replace h := h.2 hc1
    refine g_aload_n C rfl dX8_ticks_11 rfl ?_
    refine g_iconst C ki_1 dX8_ticks_12 rfl ?_
    refine g_callVI C tw_324 tw_326 tp_0 tw_1 tw_327 hy_X8_error (by decide) (by decide) rfl (Nat.le_of_ble_eq_true rfl) rfl rfl (ct_X8_error V_l1 V_l2 V_m1 V_m2 V_x8   f (1 : Int32) ) dX8_ticks_13 rfl rfl (fun r6 f7 hp8 => ?_)
    replace h := h r6 f7 hp8
    exact g_iret C dX8_ticks_16 h
set_option maxRecDepth 100000 in
theorem ct_X8_ticks (V_l1 : VC_l1) (V_l2 : VC_l2) (V_m1 : VC_m1) (V_m2 : VC_m2) (V_x8 : VC_x8) {l : Launch} {E : Ev}   (f : Fn) (a1 : Int32) (hpre : Pre_X8_ticks f a1) : CT l E layC yX8_ticks cX8_ticks 2 (some .int) 2 [.ref (E.2.1 0), .int a1] f (pI (Post_X8_ticks f a1)) := by
  refine CT.of (by decide +kernel) (Nat.le_of_ble_eq_true rfl) (fun Z hl9 hE9 hp9 C => ?_)
  subst hl9
  subst hE9
  exact wk_X8_ticks V_l1 V_l2 V_m1 V_m2 V_x8 C   f a1 (by rw [hp9]; exact V_x8.2.2.2.2.2.2.2.2.2.2.2.2.2.2.2.2.2.2.2.2.1  f a1  hpre)
set_option maxHeartbeats 4000000 in
set_option maxRecDepth 100000 in
theorem wkb_X8_evenings_L42 (V_l1 : VC_l1) (V_l2 : VC_l2) (V_m1 : VC_m1) (V_m2 : VC_m2) (V_x8 : VC_x8) {Z : Zt}  (C : CX Z layC RX8 cX8_evenings 3 (some .int) 6)   {K42 : Fn → Int32 → Int32 → Prop} (hK42 : ∀ (f : Fn) (x1 : Int32) (x2 : Int32), K42 f x1 x2 → GG Z f [(0, .ref (zad Z 0)), (1, .int x1), (2, .int x2)] 42 []) (f : Fn) (x1 : Int32) (x2 : Int32) (h : wpb_X8_evenings_L42   K42 f x1 x2 (zp Z)) : GG Z f [(0, .ref (zad Z 0)), (1, .int x1), (2, .int x2)] 42 [] := by
  refine g_iload_n C rfl dX8_evenings_42 rfl ?_
  refine g_iload_n C rfl dX8_evenings_43 rfl ?_
  refine g_icmp_ge (tgt := 57) C dX8_evenings_44 (by decide) rfl (fun hc3 => ?_) (fun hc3 => ?_)
  · replace h := h.1 hc3
    refine g_aload_n C rfl dX8_evenings_57 rfl ?_
    refine fg_X8_10R (k := 0) (p := 1) C rfl rfl dX8_evenings_58 rfl ?_
    refine fg_X8_171I (k := 1) (x := (f 1 12)) C rfl rfl rfl dX8_evenings_61 rfl ?_
    exact g_iret C dX8_evenings_64 h
  · replace h := h.2 hc3
    refine g_aload_n C rfl dX8_evenings_47 rfl ?_
    have hs4 := h.1
    replace h := h.2
    refine g_callVV C tw_531 tw_533 tp_8 tw_1 tw_534 hy_X8_oneEvening (by decide) (by decide) rfl (Nat.le_of_ble_eq_true rfl) rfl rfl (ct_X8_oneEvening V_l1 V_l2 V_m1 V_m2 V_x8   f hs4) dX8_evenings_48 rfl rfl (fun f5 hp6 => ?_)
    replace h := h f5 hp6
    refine g_iinc (lv' := [(2, .int (x2 + (1 : Int32))), (0, .ref (zad Z 0)), (1, .int x1)]) C dX8_evenings_51 rfl (inc_1 _) (by decide) rfl rfl ?_
    refine g_goto (q := 42) C dX8_evenings_54 (by decide) ?_
    refine g_lps [0, 1, 2] rfl ?_
    exact hK42 _ _ _ h
set_option maxHeartbeats 4000000 in
set_option maxRecDepth 100000 in
theorem wk_X8_evenings_L42 (V_l1 : VC_l1) (V_l2 : VC_l2) (V_m1 : VC_m1) (V_m2 : VC_m2) (V_x8 : VC_x8) {Z : Zt}  (C : CX Z layC RX8 cX8_evenings 3 (some .int) 6)     (f : Fn) (x1 : Int32) (x2 : Int32) (h : wp_X8_evenings_L42   f x1 x2 (zp Z)) : GG Z f [(0, .ref (zad Z 0)), (1, .int x1), (2, .int x2)] 42 [] := by
  obtain ⟨I, μ, h0, hs⟩ := h
  suffices H : ∀ (N : Nat) (f : Fn) (x1 : Int32) (x2 : Int32), μ f x1 x2 < N → I f x1 x2 → GG Z f [(0, .ref (zad Z 0)), (1, .int x1), (2, .int x2)] 42 [] from H _ f x1 x2 (Nat.lt_succ_self _) h0
  clear h0
  intro N
  induction N with
  | zero => intro f x1 x2 hm; exact absurd hm (Nat.not_lt_zero _)
  | succ N ih =>
    intro f x1 x2 hm hi
    exact wkb_X8_evenings_L42 V_l1 V_l2 V_m1 V_m2 V_x8  C    (fun f9 x19 x29 hk => ih f9 x19 x29 (Nat.lt_of_lt_of_le hk.2 (Nat.le_of_lt_succ hm)) hk.1) f x1 x2 (hs f x1 x2 hi)
set_option maxHeartbeats 4000000 in
set_option maxRecDepth 100000 in
theorem wk_X8_evenings (V_l1 : VC_l1) (V_l2 : VC_l2) (V_m1 : VC_m1) (V_m2 : VC_m2) (V_x8 : VC_x8) {Z : Zt}  (C : CX Z layC RX8 cX8_evenings 3 (some .int) 6)     (f : Fn) (a1 : Int32) (h : wp_X8_evenings  f a1 (zp Z)) : GG Z f [(0, .ref (zad Z 0)), (1, .int a1)] 0 [] := by
  refine g_iload_n C rfl dX8_evenings_0 rfl ?_
  refine g_iconst C ki_1 dX8_evenings_1 rfl ?_
  refine g_bipush C kb_40 dX8_evenings_2 rfl ?_
  refine g_callSD C tw_328 tw_322 tw_1 tw_323 hy_X8_within (by decide) (by decide) rfl (Nat.le_of_ble_eq_true rfl) (ct_X8_within V_l1   f a1 (1 : Int32) (40 : Int32) ) dX8_evenings_4 rfl rfl ?_
  refine g_if_ne (tgt := 16) C dX8_evenings_7 (by decide) rfl (fun hc1 => ?_) (fun hc1 => ?_)
  · replace h := h.1 hc1
    refine g_aload_n C rfl dX8_evenings_16 rfl ?_
    refine fg_X8_10R (k := 0) (p := 1) C rfl rfl dX8_evenings_17 rfl ?_
    refine fg_X8_161I (k := 1) (x := (f 1 5)) C rfl rfl rfl dX8_evenings_20 rfl ?_
    refine g_iload_n C rfl dX8_evenings_23 rfl ?_
    refine g_bipush C kb_12 dX8_evenings_24 rfl ?_
    refine g_imul C dX8_evenings_26 rfl ?_
    refine g_iadd C dX8_evenings_27 rfl ?_
    refine g_sipush C ks_9999 dX8_evenings_28 rfl ?_
    refine g_icmp_le (tgt := 40) C dX8_evenings_31 (by decide) rfl (fun hc2 => ?_) (fun hc2 => ?_)
    · replace h := h.1 hc2
      refine g_iconst C ki_0 dX8_evenings_40 rfl ?_
      refine g_istore_n (lv' := [(2, .int (0 : Int32)), (0, .ref (zad Z 0)), (1, .int a1)]) C dX8_evenings_41 (by decide) rfl rfl ?_
      refine g_lps [0, 1, 2] rfl ?_
      exact wk_X8_evenings_L42 V_l1 V_l2 V_m1 V_m2 V_x8  C    _ _ _ h
    · replace h := h.2 hc2
      refine g_aload_n C rfl dX8_evenings_34 rfl ?_
      refine g_iconst C ki_3 dX8_evenings_35 rfl ?_
      refine g_callVI C tw_324 tw_326 tp_0 tw_1 tw_327 hy_X8_error (by decide) (by decide) rfl (Nat.le_of_ble_eq_true rfl) rfl rfl (ct_X8_error V_l1 V_l2 V_m1 V_m2 V_x8   f (3 : Int32) ) dX8_evenings_36 rfl rfl (fun r7 f8 hp9 => ?_)
      replace h := h r7 f8 hp9
      exact g_iret C dX8_evenings_39 h
  · replace h := h.2 hc1
    refine g_aload_n C rfl dX8_evenings_10 rfl ?_
    refine g_iconst C ki_1 dX8_evenings_11 rfl ?_
    refine g_callVI C tw_324 tw_326 tp_0 tw_1 tw_327 hy_X8_error (by decide) (by decide) rfl (Nat.le_of_ble_eq_true rfl) rfl rfl (ct_X8_error V_l1 V_l2 V_m1 V_m2 V_x8   f (1 : Int32) ) dX8_evenings_12 rfl rfl (fun r10 f11 hp12 => ?_)
    replace h := h r10 f11 hp12
    exact g_iret C dX8_evenings_15 h
set_option maxRecDepth 100000 in
theorem ct_X8_evenings (V_l1 : VC_l1) (V_l2 : VC_l2) (V_m1 : VC_m1) (V_m2 : VC_m2) (V_x8 : VC_x8) {l : Launch} {E : Ev}   (f : Fn) (a1 : Int32) (hpre : Pre_X8_evenings f a1) : CT l E layC yX8_evenings cX8_evenings 3 (some .int) 6 [.ref (E.2.1 0), .int a1] f (pI (Post_X8_evenings f a1)) := by
  refine CT.of (by decide +kernel) (Nat.le_of_ble_eq_true rfl) (fun Z hl9 hE9 hp9 C => ?_)
  subst hl9
  subst hE9
  exact wk_X8_evenings V_l1 V_l2 V_m1 V_m2 V_x8 C   f a1 (by rw [hp9]; exact V_x8.2.2.2.2.2.2.2.2.2.2.2.2.2.2.2.2.2.2.2.2.2.1  f a1  hpre)
set_option maxHeartbeats 4000000 in
set_option maxRecDepth 100000 in
theorem wk_X8_rest_L40 (V_l1 : VC_l1) (V_l2 : VC_l2) (V_m1 : VC_m1) (V_m2 : VC_m2) (V_x8 : VC_x8) {Z : Zt}  (C : CX Z layC RX8 cX8_rest 4 (some .int) 1)   {K4 : Fn → Int32 → Int32 → Prop} (hK4 : ∀ (f : Fn) (x1 : Int32) (x2 : Int32), K4 f x1 x2 → GG Z f [(0, .ref (zad Z 0)), (1, .int x1), (2, .int x2)] 4 []) (f : Fn) (x1 : Int32) (x2 : Int32) (h : wp_X8_rest_L40  K4 f x1 x2 (zp Z)) : GG Z f [(0, .ref (zad Z 0)), (1, .int x1), (2, .int x2)] 40 [] := by
  refine g_iinc (lv' := [(2, .int (x2 + (1 : Int32))), (0, .ref (zad Z 0)), (1, .int x1)]) C dX8_rest_40 rfl (inc_1 _) (by decide) rfl rfl ?_
  refine g_goto (q := 4) C dX8_rest_43 (by decide) ?_
  refine g_lps [0, 1, 2] rfl ?_
  exact hK4 _ _ _ h
set_option maxHeartbeats 4000000 in
set_option maxRecDepth 100000 in
theorem wkb_X8_rest_L4 (V_l1 : VC_l1) (V_l2 : VC_l2) (V_m1 : VC_m1) (V_m2 : VC_m2) (V_x8 : VC_x8) {Z : Zt}  (C : CX Z layC RX8 cX8_rest 4 (some .int) 1)   {K4 : Fn → Int32 → Int32 → Prop} (hK4 : ∀ (f : Fn) (x1 : Int32) (x2 : Int32), K4 f x1 x2 → GG Z f [(0, .ref (zad Z 0)), (1, .int x1), (2, .int x2)] 4 []) (f : Fn) (x1 : Int32) (x2 : Int32) (h : wpb_X8_rest_L4   K4 f x1 x2 (zp Z)) : GG Z f [(0, .ref (zad Z 0)), (1, .int x1), (2, .int x2)] 4 [] := by
  refine g_iload_n C rfl dX8_rest_4 rfl ?_
  refine g_aload_n C rfl dX8_rest_5 rfl ?_
  refine fg_X8_10R (k := 0) (p := 1) C rfl rfl dX8_rest_6 rfl ?_
  refine fg_X8_92I (k := 1) (x := (f 1 7)) C rfl rfl rfl dX8_rest_9 rfl ?_
  refine g_icmp_ge (tgt := 46) C dX8_rest_12 (by decide) rfl (fun hc1 => ?_) (fun hc1 => ?_)
  · replace h := h.1 hc1
    refine g_iload_n C rfl dX8_rest_46 rfl ?_
    exact g_iret C dX8_rest_47 h
  · replace h := h.2 hc1
    refine g_aload_n C rfl dX8_rest_15 rfl ?_
    refine fg_X8_10R (k := 0) (p := 1) C rfl rfl dX8_rest_16 rfl ?_
    refine g_iload_n C rfl dX8_rest_19 rfl ?_
    refine g_callVQ C tw_362 tw_363 tw_364 tw_2 tw_365 hy_X7_flyerOf (by decide) (by decide) rfl (Nat.le_of_ble_eq_true rfl) rfl rfl (ct_X7_flyerOf V_l1 V_l2   f x2 ) dX8_rest_20 rfl rfl (fun hv3 => ?_) (fun k2 hv3 => ?_)
    · replace h := h.1 hv3
      refine g_astore_nN (lv' := [(3, .null), (0, .ref (zad Z 0)), (1, .int x1), (2, .int x2)]) C dX8_rest_23 (by decide) rfl rfl ?_
      refine g_aload_nN C rfl dX8_rest_24 rfl ?_
      refine g_ifnull_n (q := 40) C dX8_rest_25 (by decide) ?_
      refine g_lps [0, 1, 2] rfl ?_
      exact wk_X8_rest_L40 V_l1 V_l2 V_m1 V_m2 V_x8  C   hK4 _ _ _ h
    · replace h := h.2 k2 hv3
      refine g_astore_n (lv' := [(3, .ref (zad Z k2)), (0, .ref (zad Z 0)), (1, .int x1), (2, .int x2)]) C dX8_rest_23 (by decide) rfl rfl ?_
      refine g_aload_n C rfl dX8_rest_24 rfl ?_
      refine g_ifnull_r (q := 28) C dX8_rest_25 rfl ?_
      refine g_iload_n C rfl dX8_rest_28 rfl ?_
      refine g_aload_n C rfl dX8_rest_29 rfl ?_
      have hs4 := h.1
      replace h := h.2
      refine fg_X8_114I (k := k2) (x := (f k2 3)) C hs4 rfl rfl dX8_rest_30 rfl ?_
      refine g_iadd C dX8_rest_33 rfl ?_
      refine g_istore_n (lv' := [(1, .int (x1 + (f k2 3))), (3, .ref (zad Z k2)), (0, .ref (zad Z 0)), (2, .int x2)]) C dX8_rest_34 (by decide) rfl rfl ?_
      refine g_aload_n C rfl dX8_rest_35 rfl ?_
      refine g_iconst C ki_0 dX8_rest_36 rfl ?_
      refine fp_X8_114 (k := k2) C hs4 rfl (Nat.le_of_ble_eq_true rfl) dX8_rest_37 rfl ?_
      refine g_lps [0, 1, 2] rfl ?_
      exact wk_X8_rest_L40 V_l1 V_l2 V_m1 V_m2 V_x8  C   hK4 _ _ _ h
set_option maxHeartbeats 4000000 in
set_option maxRecDepth 100000 in
theorem wk_X8_rest_L4 (V_l1 : VC_l1) (V_l2 : VC_l2) (V_m1 : VC_m1) (V_m2 : VC_m2) (V_x8 : VC_x8) {Z : Zt}  (C : CX Z layC RX8 cX8_rest 4 (some .int) 1)     (f : Fn) (x1 : Int32) (x2 : Int32) (h : wp_X8_rest_L4   f x1 x2 (zp Z)) : GG Z f [(0, .ref (zad Z 0)), (1, .int x1), (2, .int x2)] 4 [] := by
  obtain ⟨I, μ, h0, hs⟩ := h
  suffices H : ∀ (N : Nat) (f : Fn) (x1 : Int32) (x2 : Int32), μ f x1 x2 < N → I f x1 x2 → GG Z f [(0, .ref (zad Z 0)), (1, .int x1), (2, .int x2)] 4 [] from H _ f x1 x2 (Nat.lt_succ_self _) h0
  clear h0
  intro N
  induction N with
  | zero => intro f x1 x2 hm; exact absurd hm (Nat.not_lt_zero _)
  | succ N ih =>
    intro f x1 x2 hm hi
    exact wkb_X8_rest_L4 V_l1 V_l2 V_m1 V_m2 V_x8  C    (fun f9 x19 x29 hk => ih f9 x19 x29 (Nat.lt_of_lt_of_le hk.2 (Nat.le_of_lt_succ hm)) hk.1) f x1 x2 (hs f x1 x2 hi)
set_option maxHeartbeats 4000000 in
set_option maxRecDepth 100000 in
theorem wk_X8_rest (V_l1 : VC_l1) (V_l2 : VC_l2) (V_m1 : VC_m1) (V_m2 : VC_m2) (V_x8 : VC_x8) {Z : Zt}  (C : CX Z layC RX8 cX8_rest 4 (some .int) 1)     (f : Fn)  (h : wp_X8_rest  f  (zp Z)) : GG Z f [(0, .ref (zad Z 0))] 0 [] := by
  refine g_iconst C ki_0 dX8_rest_0 rfl ?_
  refine g_istore_n (lv' := [(1, .int (0 : Int32)), (0, .ref (zad Z 0))]) C dX8_rest_1 (by decide) rfl rfl ?_
  refine g_iconst C ki_0 dX8_rest_2 rfl ?_
  refine g_istore_n (lv' := [(2, .int (0 : Int32)), (1, .int (0 : Int32)), (0, .ref (zad Z 0))]) C dX8_rest_3 (by decide) rfl rfl ?_
  refine g_lps [0, 1, 2] rfl ?_
  exact wk_X8_rest_L4 V_l1 V_l2 V_m1 V_m2 V_x8  C    _ _ _ h
set_option maxRecDepth 100000 in
theorem ct_X8_rest (V_l1 : VC_l1) (V_l2 : VC_l2) (V_m1 : VC_m1) (V_m2 : VC_m2) (V_x8 : VC_x8) {l : Launch} {E : Ev}   (f : Fn)  (hpre : Pre_X8_rest f) : CT l E layC yX8_rest cX8_rest 4 (some .int) 1 [.ref (E.2.1 0)] f (pI (Post_X8_rest f)) := by
  refine CT.of (by decide +kernel) (Nat.le_of_ble_eq_true rfl) (fun Z hl9 hE9 hp9 C => ?_)
  subst hl9
  subst hE9
  exact wk_X8_rest V_l1 V_l2 V_m1 V_m2 V_x8 C   f  (by rw [hp9]; exact V_x8.2.2.2.2.2.2.2.2.2.2.2.2.2.2.2.2.2.2.2.2.2.2.1  f   hpre)
set_option maxHeartbeats 4000000 in
set_option maxRecDepth 100000 in
theorem wk_X8_then_L34 (V_l1 : VC_l1) (V_l2 : VC_l2) (V_m1 : VC_m1) (V_m2 : VC_m2) (V_x8 : VC_x8) {Z : Zt}  (C : CX Z layC RX8 cX8_then 6 (some .int) 4)     (f : Fn)  (h : wp_X8_then_L34   f  (zp Z)) : GG Z f [(0, .ref (zad Z 0))] 34 [] := by
  refine g_aload_n C rfl dX8_then_34 rfl ?_
  refine g_iconst C ki_1 dX8_then_35 rfl ?_
  refine g_callVI C tw_324 tw_326 tp_0 tw_1 tw_327 hy_X8_error (by decide) (by decide) rfl (Nat.le_of_ble_eq_true rfl) rfl rfl (ct_X8_error V_l1 V_l2 V_m1 V_m2 V_x8   f (1 : Int32) ) dX8_then_36 rfl rfl (fun r3 f4 hp5 => ?_)
  replace h := h r3 f4 hp5
  exact g_iret C dX8_then_39 h
set_option maxHeartbeats 4000000 in
set_option maxRecDepth 100000 in
theorem wk_X8_then (V_l1 : VC_l1) (V_l2 : VC_l2) (V_m1 : VC_m1) (V_m2 : VC_m2) (V_x8 : VC_x8) {Z : Zt}  (C : CX Z layC RX8 cX8_then 6 (some .int) 4)     (f : Fn) (a1 : Int32) (a2 : Int32) (a3 : Int32) (h : wp_X8_then  f a1 a2 a3 (zp Z)) : GG Z f [(0, .ref (zad Z 0)), (1, .int a1), (2, .int a2), (3, .int a3)] 0 [] := by
  refine g_aload_n C rfl dX8_then_0 rfl ?_
  refine fg_X8_10R (k := 0) (p := 1) C rfl rfl dX8_then_1 rfl ?_
  refine g_iload_n C rfl dX8_then_4 rfl ?_
  refine g_callVQ C tw_362 tw_363 tw_364 tw_2 tw_365 hy_X7_flyerOf (by decide) (by decide) rfl (Nat.le_of_ble_eq_true rfl) rfl rfl (ct_X7_flyerOf V_l1 V_l2   f a1 ) dX8_then_5 rfl rfl (fun hv2 => ?_) (fun k1 hv2 => ?_)
  · replace h := h.1 hv2
    refine g_astoreN (lv' := [(4, .null), (0, .ref (zad Z 0)), (1, .int a1), (2, .int a2), (3, .int a3)]) C dX8_then_8 (by decide) rfl rfl ?_
    refine g_aloadN C rfl dX8_then_10 rfl ?_
    refine g_ifnull_n (q := 34) C dX8_then_12 (by decide) ?_
    refine g_lps [0] rfl ?_
    exact wk_X8_then_L34 V_l1 V_l2 V_m1 V_m2 V_x8  C    _  h
  · replace h := h.2 k1 hv2
    refine g_astore (lv' := [(4, .ref (zad Z k1)), (0, .ref (zad Z 0)), (1, .int a1), (2, .int a2), (3, .int a3)]) C dX8_then_8 (by decide) rfl rfl ?_
    refine g_aload C rfl dX8_then_10 rfl ?_
    refine g_ifnull_r (q := 15) C dX8_then_12 rfl ?_
    refine g_iload_n C rfl dX8_then_15 rfl ?_
    refine g_iconst C ki_0 dX8_then_16 rfl ?_
    refine g_bipush C kb_60 dX8_then_17 rfl ?_
    refine g_callSD C tw_328 tw_322 tw_1 tw_323 hy_X8_within (by decide) (by decide) rfl (Nat.le_of_ble_eq_true rfl) (ct_X8_within V_l1   f a2 (0 : Int32) (60 : Int32) ) dX8_then_19 rfl rfl ?_
    refine g_if_eq (tgt := 34) C dX8_then_22 (by decide) rfl (fun hc6 => ?_) (fun hc6 => ?_)
    · replace h := h.1 hc6
      refine g_lps [0] rfl ?_
      exact wk_X8_then_L34 V_l1 V_l2 V_m1 V_m2 V_x8  C    _  h
    · replace h := h.2 hc6
      refine g_iload_n C rfl dX8_then_25 rfl ?_
      refine g_iconst C ki_0 dX8_then_26 rfl ?_
      refine g_iconst C ki_4 dX8_then_27 rfl ?_
      refine g_callSD C tw_328 tw_322 tw_1 tw_323 hy_X8_within (by decide) (by decide) rfl (Nat.le_of_ble_eq_true rfl) (ct_X8_within V_l1   f a3 (0 : Int32) (4 : Int32) ) dX8_then_28 rfl rfl ?_
      refine g_if_ne (tgt := 40) C dX8_then_31 (by decide) rfl (fun hc7 => ?_) (fun hc7 => ?_)
      · replace h := h.1 hc7
        refine g_aload_n C rfl dX8_then_40 rfl ?_
        refine fg_X8_24R (k := 0) (p := 37) C rfl rfl dX8_then_41 rfl ?_
        refine g_aload C rfl dX8_then_44 rfl ?_
        have hs8 := h.1
        replace h := h.2
        refine g_callVV C tw_487 tw_488 tw_489 tw_6 tw_490 hy_X5_start (by decide) (by decide) rfl (Nat.le_of_ble_eq_true rfl) rfl rfl (ct_X5_start V_l1 V_l2 k1 hs8 f ) dX8_then_46 rfl rfl (fun f9 hp10 => ?_)
        replace h := h f9 hp10
        refine g_aload_n C rfl dX8_then_49 rfl ?_
        refine fg_X8_24R (k := 0) (p := 37) C rfl rfl dX8_then_50 rfl ?_
        refine g_aload_n C rfl dX8_then_53 rfl ?_
        refine fg_X8_10R (k := 0) (p := 1) C rfl rfl dX8_then_54 rfl ?_
        refine fg_X8_161I (k := 1) (x := (f9 1 5)) C rfl rfl rfl dX8_then_57 rfl ?_
        refine g_iload_n C rfl dX8_then_60 rfl ?_
        refine g_iadd C dX8_then_61 rfl ?_
        refine g_callVI C tw_500 tw_501 tw_502 tw_6 tw_503 hy_X5_isCaught (by decide) (by decide) rfl (Nat.le_of_ble_eq_true rfl) rfl rfl (ct_X5_isCaught V_l1 V_l2   f9 ((f9 1 5) + a2) ) dX8_then_62 rfl rfl (fun r11 f12 hp13 => ?_)
        replace h := h r11 f12 hp13
        refine g_istore (lv' := [(5, .int r11), (4, .ref (zad Z k1)), (0, .ref (zad Z 0)), (1, .int a1), (2, .int a2), (3, .int a3)]) C dX8_then_65 (by decide) rfl rfl ?_
        refine g_iload_n C rfl dX8_then_67 rfl ?_
        by_cases hk14_0 : a3 = (0 : Int32)
        · replace h := h.1 hk14_0
          refine g_tableIn (q := 100) (off := (32)) C dX8_then_68 (sw_in1 hk14_0 (by decide +kernel)) (sw_in2 hk14_0 (by decide +kernel)) (sw_ho hk14_0 (by decide +kernel)) (by decide) ?_
          refine g_aload_n C rfl dX8_then_100 rfl ?_
          refine fg_X8_24R (k := 0) (p := 37) C rfl rfl dX8_then_101 rfl ?_
          refine g_iconst C ki_0 dX8_then_104 rfl ?_
          refine g_callVD C tw_548 tw_511 tw_512 tw_6 tw_513 hy_X5_off (by decide) (by decide) rfl (Nat.le_of_ble_eq_true rfl) rfl rfl (ct_X5_off V_l1 V_l2   f12 (0 : Int32) ) dX8_then_105 rfl rfl ?_
          exact g_iret C dX8_then_108 h
        by_cases hk14_1 : a3 = (1 : Int32)
        · replace h := h.2.1 hk14_1
          refine g_tableIn (q := 109) (off := (41)) C dX8_then_68 (sw_in1 hk14_1 (by decide +kernel)) (sw_in2 hk14_1 (by decide +kernel)) (sw_ho hk14_1 (by decide +kernel)) (by decide) ?_
          refine g_iload C rfl dX8_then_109 rfl ?_
          refine g_if_eq (tgt := 118) C dX8_then_111 (by decide) rfl (fun hc15 => ?_) (fun hc15 => ?_)
          · replace h := h.1 hc15
            refine g_iconst C ki_0 dX8_then_118 rfl ?_
            exact g_iret C dX8_then_119 h
          · replace h := h.2 hc15
            refine g_iconst C ki_1 dX8_then_114 rfl ?_
            refine g_goto (q := 119) C dX8_then_115 (by decide) ?_
            exact g_iret C dX8_then_119 h
        by_cases hk14_2 : a3 = (2 : Int32)
        · replace h := h.2.2.1 hk14_2
          refine g_tableIn (q := 120) (off := (52)) C dX8_then_68 (sw_in1 hk14_2 (by decide +kernel)) (sw_in2 hk14_2 (by decide +kernel)) (sw_ho hk14_2 (by decide +kernel)) (by decide) ?_
          refine g_aload_n C rfl dX8_then_120 rfl ?_
          refine fg_X8_24R (k := 0) (p := 37) C rfl rfl dX8_then_121 rfl ?_
          refine fg_X8_184I (k := 37) (x := (f12 37 7)) C rfl rfl rfl dX8_then_124 rfl ?_
          exact g_iret C dX8_then_127 h
        by_cases hk14_3 : a3 = (3 : Int32)
        · replace h := h.2.2.2.1 hk14_3
          refine g_tableIn (q := 128) (off := (60)) C dX8_then_68 (sw_in1 hk14_3 (by decide +kernel)) (sw_in2 hk14_3 (by decide +kernel)) (sw_ho hk14_3 (by decide +kernel)) (by decide) ?_
          refine g_aload_n C rfl dX8_then_128 rfl ?_
          refine fg_X8_24R (k := 0) (p := 37) C rfl rfl dX8_then_129 rfl ?_
          refine fg_X8_187I (k := 37) (x := (f12 37 8)) C rfl rfl rfl dX8_then_132 rfl ?_
          exact g_iret C dX8_then_135 h
        replace h := h.2.2.2.2 ⟨hk14_0, hk14_1, hk14_2, hk14_3⟩
        refine g_tableOut (q := 136) C dX8_then_68 (sw_out [(0 : Int32), (1 : Int32), (2 : Int32), (3 : Int32)] 4 (fun k9 hk9 => by simp only [List.mem_cons, List.not_mem_nil, or_false] at hk9; rcases hk9 with rfl | rfl | rfl | rfl <;> assumption) (by decide +kernel) (by decide +kernel)) (by decide) ?_
        refine g_aload C rfl dX8_then_136 rfl ?_
        refine g_aload_n C rfl dX8_then_138 rfl ?_
        refine fg_X8_24R (k := 0) (p := 37) C rfl rfl dX8_then_139 rfl ?_
        refine fg_X8_187I (k := 37) (x := (f12 37 8)) C rfl rfl rfl dX8_then_142 rfl ?_
        refine g_aload_n C rfl dX8_then_145 rfl ?_
        refine fg_X8_10R (k := 0) (p := 1) C rfl rfl dX8_then_146 rfl ?_
        refine fg_X8_85I (k := 1) (x := (f12 1 4)) C rfl rfl rfl dX8_then_149 rfl ?_
        refine g_isub C dX8_then_152 rfl ?_
        refine g_callSD C tw_520 tw_349 tw_11 tw_350 hy_J9_abs_0f7a4 (by decide) (by decide) rfl (Nat.le_of_ble_eq_true rfl) (ct_J9_abs_0f7a4 V_l1   f12 ((f12 37 8) - (f12 1 4)) ) dX8_then_153 rfl rfl ?_
        refine g_callVD C tw_387 tw_388 tw_389 tw_5 tw_390 hy_X0_harm (by decide) (by decide) rfl (Nat.le_of_ble_eq_true rfl) hs8 rfl (ct_X0_harm V_l1 k1 hs8 f12 (Val_J9_abs_0f7a4 f12 ((f12 37 8) - (f12 1 4))) ) dX8_then_156 rfl rfl ?_
        exact g_iret C dX8_then_159 h
      · replace h := h.2 hc7
        refine g_lps [0] rfl ?_
        exact wk_X8_then_L34 V_l1 V_l2 V_m1 V_m2 V_x8  C    _  h
set_option maxRecDepth 100000 in
theorem ct_X8_then (V_l1 : VC_l1) (V_l2 : VC_l2) (V_m1 : VC_m1) (V_m2 : VC_m2) (V_x8 : VC_x8) {l : Launch} {E : Ev}   (f : Fn) (a1 : Int32) (a2 : Int32) (a3 : Int32) (hpre : Pre_X8_then f a1 a2 a3) : CT l E layC yX8_then cX8_then 6 (some .int) 4 [.ref (E.2.1 0), .int a1, .int a2, .int a3] f (pI (Post_X8_then f a1 a2 a3)) := by
  refine CT.of (by decide +kernel) (Nat.le_of_ble_eq_true rfl) (fun Z hl9 hE9 hp9 C => ?_)
  subst hl9
  subst hE9
  exact wk_X8_then V_l1 V_l2 V_m1 V_m2 V_x8 C   f a1 a2 a3 (by rw [hp9]; exact V_x8.2.2.2.2.2.2.2.2.2.2.2.2.2.2.2.2.2.2.2.2.2.2.2.1  f a1 a2 a3  hpre)
set_option maxHeartbeats 4000000 in
set_option maxRecDepth 100000 in
theorem wk_X8_can_L31 (V_l1 : VC_l1) (V_l2 : VC_l2) (V_m1 : VC_m1) (V_m2 : VC_m2) (V_x8 : VC_x8) {Z : Zt}  (C : CX Z layC RX8 cX8_can 5 (some .int) 5)     (f : Fn)  (h : wp_X8_can_L31   f  (zp Z)) : GG Z f [(0, .ref (zad Z 0))] 31 [] := by
  refine g_aload_n C rfl dX8_can_31 rfl ?_
  refine g_iconst C ki_1 dX8_can_32 rfl ?_
  refine g_callVI C tw_324 tw_326 tp_0 tw_1 tw_327 hy_X8_error (by decide) (by decide) rfl (Nat.le_of_ble_eq_true rfl) rfl rfl (ct_X8_error V_l1 V_l2 V_m1 V_m2 V_x8   f (1 : Int32) ) dX8_can_33 rfl rfl (fun r3 f4 hp5 => ?_)
  replace h := h r3 f4 hp5
  exact g_iret C dX8_can_36 h
set_option maxHeartbeats 4000000 in
set_option maxRecDepth 100000 in
theorem wk_X8_can (V_l1 : VC_l1) (V_l2 : VC_l2) (V_m1 : VC_m1) (V_m2 : VC_m2) (V_x8 : VC_x8) {Z : Zt}  (C : CX Z layC RX8 cX8_can 5 (some .int) 5)     (f : Fn) (a1 : Int32) (a2 : Int32) (a3 : Int32) (h : wp_X8_can  f a1 a2 a3 (zp Z)) : GG Z f [(0, .ref (zad Z 0)), (1, .int a1), (2, .int a2), (3, .int a3)] 0 [] := by
  refine g_aload_n C rfl dX8_can_0 rfl ?_
  refine fg_X8_10R (k := 0) (p := 1) C rfl rfl dX8_can_1 rfl ?_
  refine g_iload_n C rfl dX8_can_4 rfl ?_
  refine g_callVQ C tw_362 tw_363 tw_364 tw_2 tw_365 hy_X7_flyerOf (by decide) (by decide) rfl (Nat.le_of_ble_eq_true rfl) rfl rfl (ct_X7_flyerOf V_l1 V_l2   f a1 ) dX8_can_5 rfl rfl (fun hv2 => ?_) (fun k1 hv2 => ?_)
  · replace h := h.1 hv2
    refine g_astoreN (lv' := [(4, .null), (0, .ref (zad Z 0)), (1, .int a1), (2, .int a2), (3, .int a3)]) C dX8_can_8 (by decide) rfl rfl ?_
    refine g_aloadN C rfl dX8_can_10 rfl ?_
    refine g_ifnull_n (q := 31) C dX8_can_12 (by decide) ?_
    refine g_lps [0] rfl ?_
    exact wk_X8_can_L31 V_l1 V_l2 V_m1 V_m2 V_x8  C    _  h
  · replace h := h.2 k1 hv2
    refine g_astore (lv' := [(4, .ref (zad Z k1)), (0, .ref (zad Z 0)), (1, .int a1), (2, .int a2), (3, .int a3)]) C dX8_can_8 (by decide) rfl rfl ?_
    refine g_aload C rfl dX8_can_10 rfl ?_
    refine g_ifnull_r (q := 15) C dX8_can_12 rfl ?_
    refine g_iload_n C rfl dX8_can_15 rfl ?_
    refine g_callSD C tw_553 tw_554 tw_1 tw_555 hy_X8_isSpan (by decide) (by decide) rfl (Nat.le_of_ble_eq_true rfl) (ct_X8_isSpan V_l1 V_l2 V_m1 V_m2 V_x8   f a2 ) dX8_can_16 rfl rfl ?_
    refine g_if_eq (tgt := 31) C dX8_can_19 (by decide) rfl (fun hc6 => ?_) (fun hc6 => ?_)
    · replace h := h.1 hc6
      refine g_lps [0] rfl ?_
      exact wk_X8_can_L31 V_l1 V_l2 V_m1 V_m2 V_x8  C    _  h
    · replace h := h.2 hc6
      refine g_iload_n C rfl dX8_can_22 rfl ?_
      refine g_iconst C ki_0 dX8_can_23 rfl ?_
      refine g_iconst C ki_1 dX8_can_24 rfl ?_
      refine g_callSD C tw_328 tw_322 tw_1 tw_323 hy_X8_within (by decide) (by decide) rfl (Nat.le_of_ble_eq_true rfl) (ct_X8_within V_l1   f a3 (0 : Int32) (1 : Int32) ) dX8_can_25 rfl rfl ?_
      refine g_if_ne (tgt := 37) C dX8_can_28 (by decide) rfl (fun hc7 => ?_) (fun hc7 => ?_)
      · replace h := h.1 hc7
        refine g_aload_n C rfl dX8_can_37 rfl ?_
        refine fg_X8_24R (k := 0) (p := 37) C rfl rfl dX8_can_38 rfl ?_
        refine g_aload C rfl dX8_can_41 rfl ?_
        have hs8 := h.1
        replace h := h.2
        refine g_callVV C tw_487 tw_488 tw_489 tw_6 tw_490 hy_X5_start (by decide) (by decide) rfl (Nat.le_of_ble_eq_true rfl) rfl rfl (ct_X5_start V_l1 V_l2 k1 hs8 f ) dX8_can_43 rfl rfl (fun f9 hp10 => ?_)
        replace h := h f9 hp10
        refine g_iload_n C rfl dX8_can_46 rfl ?_
        refine g_if_ne (tgt := 59) C dX8_can_47 (by decide) rfl (fun hc11 => ?_) (fun hc11 => ?_)
        · replace h := h.1 hc11
          refine g_aload_n C rfl dX8_can_59 rfl ?_
          refine g_aload_n C rfl dX8_can_60 rfl ?_
          refine fg_X8_24R (k := 0) (p := 37) C rfl rfl dX8_can_61 rfl ?_
          refine g_iload_n C rfl dX8_can_64 rfl ?_
          refine g_callVI C tw_561 tw_562 tw_563 tw_6 tw_564 hy_X5_firstCaught (by decide) (by decide) rfl (Nat.le_of_ble_eq_true rfl) rfl rfl (ct_X5_firstCaught V_l1 V_l2   f9 a2 ) dX8_can_65 rfl rfl (fun r12 f13 hp14 => ?_)
          replace h := h r12 f13 hp14
          refine g_callVI C tw_565 tw_567 tp_9 tw_1 tw_568 hy_X8_orNone (by decide) (by decide) rfl (Nat.le_of_ble_eq_true rfl) rfl rfl (ct_X8_orNone V_l1 V_l2 V_m1 V_m2 V_x8   f13 r12 ) dX8_can_68 rfl rfl (fun r15 f16 hp17 => ?_)
          replace h := h r15 f16 hp17
          exact g_iret C dX8_can_71 h
        · replace h := h.2 hc11
          refine g_aload_n C rfl dX8_can_50 rfl ?_
          refine fg_X8_24R (k := 0) (p := 37) C rfl rfl dX8_can_51 rfl ?_
          refine g_iload_n C rfl dX8_can_54 rfl ?_
          refine g_callVI C tw_556 tw_557 tw_558 tw_6 tw_559 hy_X5_howManyCaught (by decide) (by decide) rfl (Nat.le_of_ble_eq_true rfl) rfl rfl (ct_X5_howManyCaught V_l1 V_l2   f9 a2 ) dX8_can_55 rfl rfl (fun r18 f19 hp20 => ?_)
          replace h := h r18 f19 hp20
          exact g_iret C dX8_can_58 h
      · replace h := h.2 hc7
        refine g_lps [0] rfl ?_
        exact wk_X8_can_L31 V_l1 V_l2 V_m1 V_m2 V_x8  C    _  h
set_option maxRecDepth 100000 in
theorem ct_X8_can (V_l1 : VC_l1) (V_l2 : VC_l2) (V_m1 : VC_m1) (V_m2 : VC_m2) (V_x8 : VC_x8) {l : Launch} {E : Ev}   (f : Fn) (a1 : Int32) (a2 : Int32) (a3 : Int32) (hpre : Pre_X8_can f a1 a2 a3) : CT l E layC yX8_can cX8_can 5 (some .int) 5 [.ref (E.2.1 0), .int a1, .int a2, .int a3] f (pI (Post_X8_can f a1 a2 a3)) := by
  refine CT.of (by decide +kernel) (Nat.le_of_ble_eq_true rfl) (fun Z hl9 hE9 hp9 C => ?_)
  subst hl9
  subst hE9
  exact wk_X8_can V_l1 V_l2 V_m1 V_m2 V_x8 C   f a1 a2 a3 (by rw [hp9]; exact V_x8.2.2.2.2.2.2.2.2.2.2.2.2.2.2.2.2.2.2.2.2.2.2.2.2.1  f a1 a2 a3  hpre)
set_option maxHeartbeats 4000000 in
set_option maxRecDepth 100000 in
theorem wk_X8_surest_L20 (V_l1 : VC_l1) (V_l2 : VC_l2) (V_m1 : VC_m1) (V_m2 : VC_m2) (V_x8 : VC_x8) {Z : Zt}  (C : CX Z layC RX8 cX8_surest 4 (some .int) 5)     (f : Fn)  (h : wp_X8_surest_L20   f  (zp Z)) : GG Z f [(0, .ref (zad Z 0))] 20 [] := by
  refine g_aload_n C rfl dX8_surest_20 rfl ?_
  refine g_iconst C ki_1 dX8_surest_21 rfl ?_
  refine g_callVI C tw_324 tw_326 tp_0 tw_1 tw_327 hy_X8_error (by decide) (by decide) rfl (Nat.le_of_ble_eq_true rfl) rfl rfl (ct_X8_error V_l1 V_l2 V_m1 V_m2 V_x8   f (1 : Int32) ) dX8_surest_22 rfl rfl (fun r3 f4 hp5 => ?_)
  replace h := h r3 f4 hp5
  exact g_iret C dX8_surest_25 h
set_option maxHeartbeats 4000000 in
set_option maxRecDepth 100000 in
theorem wk_X8_surest (V_l1 : VC_l1) (V_l2 : VC_l2) (V_m1 : VC_m1) (V_m2 : VC_m2) (V_x8 : VC_x8) {Z : Zt}  (C : CX Z layC RX8 cX8_surest 4 (some .int) 5)     (f : Fn) (a1 : Int32) (a2 : Int32) (h : wp_X8_surest  f a1 a2 (zp Z)) : GG Z f [(0, .ref (zad Z 0)), (1, .int a1), (2, .int a2)] 0 [] := by
  refine g_aload_n C rfl dX8_surest_0 rfl ?_
  refine fg_X8_10R (k := 0) (p := 1) C rfl rfl dX8_surest_1 rfl ?_
  refine g_iload_n C rfl dX8_surest_4 rfl ?_
  refine g_callVQ C tw_362 tw_363 tw_364 tw_2 tw_365 hy_X7_flyerOf (by decide) (by decide) rfl (Nat.le_of_ble_eq_true rfl) rfl rfl (ct_X7_flyerOf V_l1 V_l2   f a1 ) dX8_surest_5 rfl rfl (fun hv2 => ?_) (fun k1 hv2 => ?_)
  · replace h := h.1 hv2
    refine g_astore_nN (lv' := [(3, .null), (0, .ref (zad Z 0)), (1, .int a1), (2, .int a2)]) C dX8_surest_8 (by decide) rfl rfl ?_
    refine g_aload_nN C rfl dX8_surest_9 rfl ?_
    refine g_ifnull_n (q := 20) C dX8_surest_10 (by decide) ?_
    refine g_lps [0] rfl ?_
    exact wk_X8_surest_L20 V_l1 V_l2 V_m1 V_m2 V_x8  C    _  h
  · replace h := h.2 k1 hv2
    refine g_astore_n (lv' := [(3, .ref (zad Z k1)), (0, .ref (zad Z 0)), (1, .int a1), (2, .int a2)]) C dX8_surest_8 (by decide) rfl rfl ?_
    refine g_aload_n C rfl dX8_surest_9 rfl ?_
    refine g_ifnull_r (q := 13) C dX8_surest_10 rfl ?_
    refine g_iload_n C rfl dX8_surest_13 rfl ?_
    refine g_callSD C tw_553 tw_554 tw_1 tw_555 hy_X8_isSpan (by decide) (by decide) rfl (Nat.le_of_ble_eq_true rfl) (ct_X8_isSpan V_l1 V_l2 V_m1 V_m2 V_x8   f a2 ) dX8_surest_14 rfl rfl ?_
    refine g_if_ne (tgt := 26) C dX8_surest_17 (by decide) rfl (fun hc6 => ?_) (fun hc6 => ?_)
    · replace h := h.1 hc6
      refine g_aload_n C rfl dX8_surest_26 rfl ?_
      refine fg_X8_24R (k := 0) (p := 37) C rfl rfl dX8_surest_27 rfl ?_
      refine g_aload_n C rfl dX8_surest_30 rfl ?_
      have hs7 := h.1
      replace h := h.2
      refine g_callVV C tw_487 tw_488 tw_489 tw_6 tw_490 hy_X5_start (by decide) (by decide) rfl (Nat.le_of_ble_eq_true rfl) rfl rfl (ct_X5_start V_l1 V_l2 k1 hs7 f ) dX8_surest_31 rfl rfl (fun f8 hp9 => ?_)
      replace h := h f8 hp9
      refine g_aload_n C rfl dX8_surest_34 rfl ?_
      refine fg_X8_24R (k := 0) (p := 37) C rfl rfl dX8_surest_35 rfl ?_
      refine g_iload_n C rfl dX8_surest_38 rfl ?_
      refine g_callVI C tw_573 tw_574 tw_575 tw_6 tw_576 hy_X5_surestWait (by decide) (by decide) rfl (Nat.le_of_ble_eq_true rfl) rfl rfl (ct_X5_surestWait V_l1 V_l2   f8 a2 ) dX8_surest_39 rfl rfl (fun r10 f11 hp12 => ?_)
      replace h := h r10 f11 hp12
      exact g_iret C dX8_surest_42 h
    · replace h := h.2 hc6
      refine g_lps [0] rfl ?_
      exact wk_X8_surest_L20 V_l1 V_l2 V_m1 V_m2 V_x8  C    _  h
set_option maxRecDepth 100000 in
theorem ct_X8_surest (V_l1 : VC_l1) (V_l2 : VC_l2) (V_m1 : VC_m1) (V_m2 : VC_m2) (V_x8 : VC_x8) {l : Launch} {E : Ev}   (f : Fn) (a1 : Int32) (a2 : Int32) (hpre : Pre_X8_surest f a1 a2) : CT l E layC yX8_surest cX8_surest 4 (some .int) 5 [.ref (E.2.1 0), .int a1, .int a2] f (pI (Post_X8_surest f a1 a2)) := by
  refine CT.of (by decide +kernel) (Nat.le_of_ble_eq_true rfl) (fun Z hl9 hE9 hp9 C => ?_)
  subst hl9
  subst hE9
  exact wk_X8_surest V_l1 V_l2 V_m1 V_m2 V_x8 C   f a1 a2 (by rw [hp9]; exact V_x8.2.2.2.2.2.2.2.2.2.2.2.2.2.2.2.2.2.2.2.2.2.2.2.2.2.1  f a1 a2  hpre)
set_option maxHeartbeats 4000000 in
set_option maxRecDepth 100000 in
theorem wk_X8_odds_L34 (V_l1 : VC_l1) (V_l2 : VC_l2) (V_m1 : VC_m1) (V_m2 : VC_m2) (V_x8 : VC_x8) {Z : Zt}  (C : CX Z layC RX8 cX8_odds 5 (some .int) 4)     (f : Fn)  (h : wp_X8_odds_L34   f  (zp Z)) : GG Z f [(0, .ref (zad Z 0))] 34 [] := by
  refine g_aload_n C rfl dX8_odds_34 rfl ?_
  refine g_iconst C ki_1 dX8_odds_35 rfl ?_
  refine g_callVI C tw_324 tw_326 tp_0 tw_1 tw_327 hy_X8_error (by decide) (by decide) rfl (Nat.le_of_ble_eq_true rfl) rfl rfl (ct_X8_error V_l1 V_l2 V_m1 V_m2 V_x8   f (1 : Int32) ) dX8_odds_36 rfl rfl (fun r3 f4 hp5 => ?_)
  replace h := h r3 f4 hp5
  exact g_iret C dX8_odds_39 h
set_option maxHeartbeats 4000000 in
set_option maxRecDepth 100000 in
theorem wk_X8_odds (V_l1 : VC_l1) (V_l2 : VC_l2) (V_m1 : VC_m1) (V_m2 : VC_m2) (V_x8 : VC_x8) {Z : Zt}  (C : CX Z layC RX8 cX8_odds 5 (some .int) 4)     (f : Fn) (a1 : Int32) (a2 : Int32) (a3 : Int32) (h : wp_X8_odds  f a1 a2 a3 (zp Z)) : GG Z f [(0, .ref (zad Z 0)), (1, .int a1), (2, .int a2), (3, .int a3)] 0 [] := by
  refine g_aload_n C rfl dX8_odds_0 rfl ?_
  refine fg_X8_10R (k := 0) (p := 1) C rfl rfl dX8_odds_1 rfl ?_
  refine g_iload_n C rfl dX8_odds_4 rfl ?_
  refine g_callVQ C tw_362 tw_363 tw_364 tw_2 tw_365 hy_X7_flyerOf (by decide) (by decide) rfl (Nat.le_of_ble_eq_true rfl) rfl rfl (ct_X7_flyerOf V_l1 V_l2   f a1 ) dX8_odds_5 rfl rfl (fun hv2 => ?_) (fun k1 hv2 => ?_)
  · replace h := h.1 hv2
    refine g_astoreN (lv' := [(4, .null), (0, .ref (zad Z 0)), (1, .int a1), (2, .int a2), (3, .int a3)]) C dX8_odds_8 (by decide) rfl rfl ?_
    refine g_aloadN C rfl dX8_odds_10 rfl ?_
    refine g_ifnull_n (q := 34) C dX8_odds_12 (by decide) ?_
    refine g_lps [0] rfl ?_
    exact wk_X8_odds_L34 V_l1 V_l2 V_m1 V_m2 V_x8  C    _  h
  · replace h := h.2 k1 hv2
    refine g_astore (lv' := [(4, .ref (zad Z k1)), (0, .ref (zad Z 0)), (1, .int a1), (2, .int a2), (3, .int a3)]) C dX8_odds_8 (by decide) rfl rfl ?_
    refine g_aload C rfl dX8_odds_10 rfl ?_
    refine g_ifnull_r (q := 15) C dX8_odds_12 rfl ?_
    refine g_iload_n C rfl dX8_odds_15 rfl ?_
    refine g_iconst C ki_0 dX8_odds_16 rfl ?_
    refine g_bipush C kb_60 dX8_odds_17 rfl ?_
    refine g_callSD C tw_328 tw_322 tw_1 tw_323 hy_X8_within (by decide) (by decide) rfl (Nat.le_of_ble_eq_true rfl) (ct_X8_within V_l1   f a2 (0 : Int32) (60 : Int32) ) dX8_odds_19 rfl rfl ?_
    refine g_if_eq (tgt := 34) C dX8_odds_22 (by decide) rfl (fun hc6 => ?_) (fun hc6 => ?_)
    · replace h := h.1 hc6
      refine g_lps [0] rfl ?_
      exact wk_X8_odds_L34 V_l1 V_l2 V_m1 V_m2 V_x8  C    _  h
    · replace h := h.2 hc6
      refine g_iload_n C rfl dX8_odds_25 rfl ?_
      refine g_iconst C ki_0 dX8_odds_26 rfl ?_
      refine g_iconst C ki_1 dX8_odds_27 rfl ?_
      refine g_callSD C tw_328 tw_322 tw_1 tw_323 hy_X8_within (by decide) (by decide) rfl (Nat.le_of_ble_eq_true rfl) (ct_X8_within V_l1   f a3 (0 : Int32) (1 : Int32) ) dX8_odds_28 rfl rfl ?_
      refine g_if_ne (tgt := 40) C dX8_odds_31 (by decide) rfl (fun hc7 => ?_) (fun hc7 => ?_)
      · replace h := h.1 hc7
        refine g_aload_n C rfl dX8_odds_40 rfl ?_
        refine fg_X8_24R (k := 0) (p := 37) C rfl rfl dX8_odds_41 rfl ?_
        refine g_aload C rfl dX8_odds_44 rfl ?_
        have hs8 := h.1
        replace h := h.2
        refine g_callVV C tw_487 tw_488 tw_489 tw_6 tw_490 hy_X5_start (by decide) (by decide) rfl (Nat.le_of_ble_eq_true rfl) rfl rfl (ct_X5_start V_l1 V_l2 k1 hs8 f ) dX8_odds_46 rfl rfl (fun f9 hp10 => ?_)
        replace h := h f9 hp10
        refine g_aload_n C rfl dX8_odds_49 rfl ?_
        refine fg_X8_24R (k := 0) (p := 37) C rfl rfl dX8_odds_50 rfl ?_
        refine g_aload_n C rfl dX8_odds_53 rfl ?_
        refine fg_X8_10R (k := 0) (p := 1) C rfl rfl dX8_odds_54 rfl ?_
        refine fg_X8_161I (k := 1) (x := (f9 1 5)) C rfl rfl rfl dX8_odds_57 rfl ?_
        refine g_iload_n C rfl dX8_odds_60 rfl ?_
        refine g_iadd C dX8_odds_61 rfl ?_
        refine g_callVI C tw_585 tw_578 tw_579 tw_6 tw_580 hy_X5_casesCaught (by decide) (by decide) rfl (Nat.le_of_ble_eq_true rfl) rfl rfl (ct_X5_casesCaught V_l1 V_l2   f9 ((f9 1 5) + a2) ) dX8_odds_62 rfl rfl (fun r11 f12 hp13 => ?_)
        replace h := h r11 f12 hp13
        refine g_bipush C kb_9 dX8_odds_65 rfl ?_
        refine g_iload_n C rfl dX8_odds_67 rfl ?_
        have hs14 := h.1
        replace h := h.2
        refine g_callSD C tw_586 tw_587 tw_1 tw_588 hy_X8_partOf (by decide) (by decide) rfl (Nat.le_of_ble_eq_true rfl) (ct_X8_partOf V_l1 V_l2 V_m1 V_m2 V_x8   f12 r11 (9 : Int32) a3 hs14) dX8_odds_68 rfl rfl ?_
        exact g_iret C dX8_odds_71 h
      · replace h := h.2 hc7
        refine g_lps [0] rfl ?_
        exact wk_X8_odds_L34 V_l1 V_l2 V_m1 V_m2 V_x8  C    _  h
set_option maxRecDepth 100000 in
theorem ct_X8_odds (V_l1 : VC_l1) (V_l2 : VC_l2) (V_m1 : VC_m1) (V_m2 : VC_m2) (V_x8 : VC_x8) {l : Launch} {E : Ev}   (f : Fn) (a1 : Int32) (a2 : Int32) (a3 : Int32) (hpre : Pre_X8_odds f a1 a2 a3) : CT l E layC yX8_odds cX8_odds 5 (some .int) 4 [.ref (E.2.1 0), .int a1, .int a2, .int a3] f (pI (Post_X8_odds f a1 a2 a3)) := by
  refine CT.of (by decide +kernel) (Nat.le_of_ble_eq_true rfl) (fun Z hl9 hE9 hp9 C => ?_)
  subst hl9
  subst hE9
  exact wk_X8_odds V_l1 V_l2 V_m1 V_m2 V_x8 C   f a1 a2 a3 (by rw [hp9]; exact V_x8.2.2.2.2.2.2.2.2.2.2.2.2.2.2.2.2.2.2.2.2.2.2.2.2.2.2.1  f a1 a2 a3  hpre)
set_option maxHeartbeats 4000000 in
set_option maxRecDepth 100000 in
theorem wk_X8_pumped_L20 (V_l1 : VC_l1) (V_l2 : VC_l2) (V_m1 : VC_m1) (V_m2 : VC_m2) (V_x8 : VC_x8) {Z : Zt}  (C : CX Z layC RX8 cX8_pumped 4 (some .int) 6)     (f : Fn)  (h : wp_X8_pumped_L20   f  (zp Z)) : GG Z f [(0, .ref (zad Z 0))] 20 [] := by
  refine g_aload_n C rfl dX8_pumped_20 rfl ?_
  refine g_iconst C ki_1 dX8_pumped_21 rfl ?_
  refine g_callVI C tw_324 tw_326 tp_0 tw_1 tw_327 hy_X8_error (by decide) (by decide) rfl (Nat.le_of_ble_eq_true rfl) rfl rfl (ct_X8_error V_l1 V_l2 V_m1 V_m2 V_x8   f (1 : Int32) ) dX8_pumped_22 rfl rfl (fun r3 f4 hp5 => ?_)
  replace h := h r3 f4 hp5
  exact g_iret C dX8_pumped_25 h
set_option maxHeartbeats 4000000 in
set_option maxRecDepth 100000 in
theorem wk_X8_pumped (V_l1 : VC_l1) (V_l2 : VC_l2) (V_m1 : VC_m1) (V_m2 : VC_m2) (V_x8 : VC_x8) {Z : Zt}  (C : CX Z layC RX8 cX8_pumped 4 (some .int) 6)     (f : Fn) (a1 : Int32) (a2 : Int32) (h : wp_X8_pumped  f a1 a2 (zp Z)) : GG Z f [(0, .ref (zad Z 0)), (1, .int a1), (2, .int a2)] 0 [] := by
  refine g_aload_n C rfl dX8_pumped_0 rfl ?_
  refine fg_X8_10R (k := 0) (p := 1) C rfl rfl dX8_pumped_1 rfl ?_
  refine g_iload_n C rfl dX8_pumped_4 rfl ?_
  refine g_callVQ C tw_362 tw_363 tw_364 tw_2 tw_365 hy_X7_flyerOf (by decide) (by decide) rfl (Nat.le_of_ble_eq_true rfl) rfl rfl (ct_X7_flyerOf V_l1 V_l2   f a1 ) dX8_pumped_5 rfl rfl (fun hv2 => ?_) (fun k1 hv2 => ?_)
  · replace h := h.1 hv2
    refine g_astore_nN (lv' := [(3, .null), (0, .ref (zad Z 0)), (1, .int a1), (2, .int a2)]) C dX8_pumped_8 (by decide) rfl rfl ?_
    refine g_aload_nN C rfl dX8_pumped_9 rfl ?_
    refine g_ifnull_n (q := 20) C dX8_pumped_10 (by decide) ?_
    refine g_lps [0] rfl ?_
    exact wk_X8_pumped_L20 V_l1 V_l2 V_m1 V_m2 V_x8  C    _  h
  · replace h := h.2 k1 hv2
    refine g_astore_n (lv' := [(3, .ref (zad Z k1)), (0, .ref (zad Z 0)), (1, .int a1), (2, .int a2)]) C dX8_pumped_8 (by decide) rfl rfl ?_
    refine g_aload_n C rfl dX8_pumped_9 rfl ?_
    refine g_ifnull_r (q := 13) C dX8_pumped_10 rfl ?_
    refine g_iload_n C rfl dX8_pumped_13 rfl ?_
    refine g_callSD C tw_553 tw_554 tw_1 tw_555 hy_X8_isSpan (by decide) (by decide) rfl (Nat.le_of_ble_eq_true rfl) (ct_X8_isSpan V_l1 V_l2 V_m1 V_m2 V_x8   f a2 ) dX8_pumped_14 rfl rfl ?_
    refine g_if_ne (tgt := 26) C dX8_pumped_17 (by decide) rfl (fun hc6 => ?_) (fun hc6 => ?_)
    · replace h := h.1 hc6
      refine g_aload_n C rfl dX8_pumped_26 rfl ?_
      refine fg_X8_24R (k := 0) (p := 37) C rfl rfl dX8_pumped_27 rfl ?_
      refine g_aload_n C rfl dX8_pumped_30 rfl ?_
      have hs7 := h.1
      replace h := h.2
      refine g_callVV C tw_487 tw_488 tw_489 tw_6 tw_490 hy_X5_start (by decide) (by decide) rfl (Nat.le_of_ble_eq_true rfl) rfl rfl (ct_X5_start V_l1 V_l2 k1 hs7 f ) dX8_pumped_31 rfl rfl (fun f8 hp9 => ?_)
      replace h := h f8 hp9
      refine g_aload_n C rfl dX8_pumped_34 rfl ?_
      refine g_aload_n C rfl dX8_pumped_35 rfl ?_
      refine fg_X8_24R (k := 0) (p := 37) C rfl rfl dX8_pumped_36 rfl ?_
      refine g_iload_n C rfl dX8_pumped_39 rfl ?_
      have hs10 := h.1
      replace h := h.2
      refine g_callVI C tw_594 tw_595 tw_596 tw_6 tw_597 hy_X5_leastPumps (by decide) (by decide) rfl (Nat.le_of_ble_eq_true rfl) rfl rfl (ct_X5_leastPumps V_l1 V_l2   f8 a2 hs10) dX8_pumped_40 rfl rfl (fun r11 f12 hp13 => ?_)
      replace h := h r11 f12 hp13
      refine g_callVI C tw_565 tw_567 tp_9 tw_1 tw_568 hy_X8_orNone (by decide) (by decide) rfl (Nat.le_of_ble_eq_true rfl) rfl rfl (ct_X8_orNone V_l1 V_l2 V_m1 V_m2 V_x8   f12 r11 ) dX8_pumped_43 rfl rfl (fun r14 f15 hp16 => ?_)
      replace h := h r14 f15 hp16
      exact g_iret C dX8_pumped_46 h
    · replace h := h.2 hc6
      refine g_lps [0] rfl ?_
      exact wk_X8_pumped_L20 V_l1 V_l2 V_m1 V_m2 V_x8  C    _  h
set_option maxRecDepth 100000 in
theorem ct_X8_pumped (V_l1 : VC_l1) (V_l2 : VC_l2) (V_m1 : VC_m1) (V_m2 : VC_m2) (V_x8 : VC_x8) {l : Launch} {E : Ev}   (f : Fn) (a1 : Int32) (a2 : Int32) (hpre : Pre_X8_pumped f a1 a2) : CT l E layC yX8_pumped cX8_pumped 4 (some .int) 6 [.ref (E.2.1 0), .int a1, .int a2] f (pI (Post_X8_pumped f a1 a2)) := by
  refine CT.of (by decide +kernel) (Nat.le_of_ble_eq_true rfl) (fun Z hl9 hE9 hp9 C => ?_)
  subst hl9
  subst hE9
  exact wk_X8_pumped V_l1 V_l2 V_m1 V_m2 V_x8 C   f a1 a2 (by rw [hp9]; exact V_x8.2.2.2.2.2.2.2.2.2.2.2.2.2.2.2.2.2.2.2.2.2.2.2.2.2.2.2.1  f a1 a2  hpre)
set_option maxHeartbeats 4000000 in
set_option maxRecDepth 100000 in
theorem wk_X8_inStep_L20 (V_l1 : VC_l1) (V_l2 : VC_l2) (V_m1 : VC_m1) (V_m2 : VC_m2) (V_x8 : VC_x8) {Z : Zt}  (C : CX Z layC RX8 cX8_inStep 4 (some .int) 6)     (f : Fn)  (h : wp_X8_inStep_L20   f  (zp Z)) : GG Z f [(0, .ref (zad Z 0))] 20 [] := by
  refine g_aload_n C rfl dX8_inStep_20 rfl ?_
  refine g_iconst C ki_1 dX8_inStep_21 rfl ?_
  refine g_callVI C tw_324 tw_326 tp_0 tw_1 tw_327 hy_X8_error (by decide) (by decide) rfl (Nat.le_of_ble_eq_true rfl) rfl rfl (ct_X8_error V_l1 V_l2 V_m1 V_m2 V_x8   f (1 : Int32) ) dX8_inStep_22 rfl rfl (fun r3 f4 hp5 => ?_)
  replace h := h r3 f4 hp5
  exact g_iret C dX8_inStep_25 h
set_option maxHeartbeats 4000000 in
set_option maxRecDepth 100000 in
theorem wk_X8_inStep (V_l1 : VC_l1) (V_l2 : VC_l2) (V_m1 : VC_m1) (V_m2 : VC_m2) (V_x8 : VC_x8) {Z : Zt}  (C : CX Z layC RX8 cX8_inStep 4 (some .int) 6)     (f : Fn) (a1 : Int32) (a2 : Int32) (h : wp_X8_inStep  f a1 a2 (zp Z)) : GG Z f [(0, .ref (zad Z 0)), (1, .int a1), (2, .int a2)] 0 [] := by
  refine g_aload_n C rfl dX8_inStep_0 rfl ?_
  refine fg_X8_10R (k := 0) (p := 1) C rfl rfl dX8_inStep_1 rfl ?_
  refine g_iload_n C rfl dX8_inStep_4 rfl ?_
  refine g_callVQ C tw_362 tw_363 tw_364 tw_2 tw_365 hy_X7_flyerOf (by decide) (by decide) rfl (Nat.le_of_ble_eq_true rfl) rfl rfl (ct_X7_flyerOf V_l1 V_l2   f a1 ) dX8_inStep_5 rfl rfl (fun hv2 => ?_) (fun k1 hv2 => ?_)
  · replace h := h.1 hv2
    refine g_astore_nN (lv' := [(3, .null), (0, .ref (zad Z 0)), (1, .int a1), (2, .int a2)]) C dX8_inStep_8 (by decide) rfl rfl ?_
    refine g_aload_nN C rfl dX8_inStep_9 rfl ?_
    refine g_ifnull_n (q := 20) C dX8_inStep_10 (by decide) ?_
    refine g_lps [0] rfl ?_
    exact wk_X8_inStep_L20 V_l1 V_l2 V_m1 V_m2 V_x8  C    _  h
  · replace h := h.2 k1 hv2
    refine g_astore_n (lv' := [(3, .ref (zad Z k1)), (0, .ref (zad Z 0)), (1, .int a1), (2, .int a2)]) C dX8_inStep_8 (by decide) rfl rfl ?_
    refine g_aload_n C rfl dX8_inStep_9 rfl ?_
    refine g_ifnull_r (q := 13) C dX8_inStep_10 rfl ?_
    refine g_iload_n C rfl dX8_inStep_13 rfl ?_
    refine g_callSD C tw_553 tw_554 tw_1 tw_555 hy_X8_isSpan (by decide) (by decide) rfl (Nat.le_of_ble_eq_true rfl) (ct_X8_isSpan V_l1 V_l2 V_m1 V_m2 V_x8   f a2 ) dX8_inStep_14 rfl rfl ?_
    refine g_if_ne (tgt := 26) C dX8_inStep_17 (by decide) rfl (fun hc6 => ?_) (fun hc6 => ?_)
    · replace h := h.1 hc6
      refine g_aload_n C rfl dX8_inStep_26 rfl ?_
      refine fg_X8_24R (k := 0) (p := 37) C rfl rfl dX8_inStep_27 rfl ?_
      refine g_aload_n C rfl dX8_inStep_30 rfl ?_
      have hs7 := h.1
      replace h := h.2
      refine g_callVV C tw_487 tw_488 tw_489 tw_6 tw_490 hy_X5_start (by decide) (by decide) rfl (Nat.le_of_ble_eq_true rfl) rfl rfl (ct_X5_start V_l1 V_l2 k1 hs7 f ) dX8_inStep_31 rfl rfl (fun f8 hp9 => ?_)
      replace h := h f8 hp9
      refine g_aload_n C rfl dX8_inStep_34 rfl ?_
      refine g_aload_n C rfl dX8_inStep_35 rfl ?_
      refine fg_X8_24R (k := 0) (p := 37) C rfl rfl dX8_inStep_36 rfl ?_
      refine g_iload_n C rfl dX8_inStep_39 rfl ?_
      have hs10 := h.1
      replace h := h.2
      refine g_callVI C tw_603 tw_604 tw_605 tw_6 tw_606 hy_X5_leastSteps (by decide) (by decide) rfl (Nat.le_of_ble_eq_true rfl) rfl rfl (ct_X5_leastSteps V_l1 V_l2   f8 a2 hs10) dX8_inStep_40 rfl rfl (fun r11 f12 hp13 => ?_)
      replace h := h r11 f12 hp13
      refine g_callVI C tw_565 tw_567 tp_9 tw_1 tw_568 hy_X8_orNone (by decide) (by decide) rfl (Nat.le_of_ble_eq_true rfl) rfl rfl (ct_X8_orNone V_l1 V_l2 V_m1 V_m2 V_x8   f12 r11 ) dX8_inStep_43 rfl rfl (fun r14 f15 hp16 => ?_)
      replace h := h r14 f15 hp16
      exact g_iret C dX8_inStep_46 h
    · replace h := h.2 hc6
      refine g_lps [0] rfl ?_
      exact wk_X8_inStep_L20 V_l1 V_l2 V_m1 V_m2 V_x8  C    _  h
set_option maxRecDepth 100000 in
theorem ct_X8_inStep (V_l1 : VC_l1) (V_l2 : VC_l2) (V_m1 : VC_m1) (V_m2 : VC_m2) (V_x8 : VC_x8) {l : Launch} {E : Ev}   (f : Fn) (a1 : Int32) (a2 : Int32) (hpre : Pre_X8_inStep f a1 a2) : CT l E layC yX8_inStep cX8_inStep 4 (some .int) 6 [.ref (E.2.1 0), .int a1, .int a2] f (pI (Post_X8_inStep f a1 a2)) := by
  refine CT.of (by decide +kernel) (Nat.le_of_ble_eq_true rfl) (fun Z hl9 hE9 hp9 C => ?_)
  subst hl9
  subst hE9
  exact wk_X8_inStep V_l1 V_l2 V_m1 V_m2 V_x8 C   f a1 a2 (by rw [hp9]; exact V_x8.2.2.2.2.2.2.2.2.2.2.2.2.2.2.2.2.2.2.2.2.2.2.2.2.2.2.2.2.1  f a1 a2  hpre)
set_option maxHeartbeats 4000000 in
set_option maxRecDepth 100000 in
theorem wk_X8_mend_L46 (V_l1 : VC_l1) (V_l2 : VC_l2) (V_m1 : VC_m1) (V_m2 : VC_m2) (V_x8 : VC_x8) {Z : Zt}  (C : CX Z layC RX8 cX8_mend 7 (some .int) 3)     (f : Fn)  (h : wp_X8_mend_L46   f  (zp Z)) : GG Z f [(0, .ref (zad Z 0))] 46 [] := by
  refine g_aload_n C rfl dX8_mend_46 rfl ?_
  refine g_iconst C ki_1 dX8_mend_47 rfl ?_
  refine g_callVI C tw_324 tw_326 tp_0 tw_1 tw_327 hy_X8_error (by decide) (by decide) rfl (Nat.le_of_ble_eq_true rfl) rfl rfl (ct_X8_error V_l1 V_l2 V_m1 V_m2 V_x8   f (1 : Int32) ) dX8_mend_48 rfl rfl (fun r3 f4 hp5 => ?_)
  replace h := h r3 f4 hp5
  exact g_iret C dX8_mend_51 h
set_option maxHeartbeats 4000000 in
set_option maxRecDepth 100000 in
theorem wk_X8_mend (V_l1 : VC_l1) (V_l2 : VC_l2) (V_m1 : VC_m1) (V_m2 : VC_m2) (V_x8 : VC_x8) {Z : Zt}  (C : CX Z layC RX8 cX8_mend 7 (some .int) 3)     (f : Fn) (a1 : Int32) (a2 : Int32) (a3 : Int32) (a4 : Int32) (h : wp_X8_mend  f a1 a2 a3 a4 (zp Z)) : GG Z f [(0, .ref (zad Z 0)), (1, .int a1), (2, .int a2), (3, .int a3), (4, .int a4)] 0 [] := by
  refine g_aload_n C rfl dX8_mend_0 rfl ?_
  refine fg_X8_10R (k := 0) (p := 1) C rfl rfl dX8_mend_1 rfl ?_
  refine g_iload_n C rfl dX8_mend_4 rfl ?_
  refine g_callVQ C tw_362 tw_363 tw_364 tw_2 tw_365 hy_X7_flyerOf (by decide) (by decide) rfl (Nat.le_of_ble_eq_true rfl) rfl rfl (ct_X7_flyerOf V_l1 V_l2   f a1 ) dX8_mend_5 rfl rfl (fun hv2 => ?_) (fun k1 hv2 => ?_)
  · replace h := h.1 hv2
    refine g_astoreN (lv' := [(5, .null), (0, .ref (zad Z 0)), (1, .int a1), (2, .int a2), (3, .int a3), (4, .int a4)]) C dX8_mend_8 (by decide) rfl rfl ?_
    refine g_aloadN C rfl dX8_mend_10 rfl ?_
    refine g_ifnull_n (q := 46) C dX8_mend_12 (by decide) ?_
    refine g_lps [0] rfl ?_
    exact wk_X8_mend_L46 V_l1 V_l2 V_m1 V_m2 V_x8  C    _  h
  · replace h := h.2 k1 hv2
    refine g_astore (lv' := [(5, .ref (zad Z k1)), (0, .ref (zad Z 0)), (1, .int a1), (2, .int a2), (3, .int a3), (4, .int a4)]) C dX8_mend_8 (by decide) rfl rfl ?_
    refine g_aload C rfl dX8_mend_10 rfl ?_
    refine g_ifnull_r (q := 15) C dX8_mend_12 rfl ?_
    refine g_iload_n C rfl dX8_mend_15 rfl ?_
    refine g_iconst C ki_0 dX8_mend_16 rfl ?_
    refine g_bipush C kb_60 dX8_mend_17 rfl ?_
    refine g_callSD C tw_328 tw_322 tw_1 tw_323 hy_X8_within (by decide) (by decide) rfl (Nat.le_of_ble_eq_true rfl) (ct_X8_within V_l1   f a2 (0 : Int32) (60 : Int32) ) dX8_mend_19 rfl rfl ?_
    refine g_if_eq (tgt := 46) C dX8_mend_22 (by decide) rfl (fun hc6 => ?_) (fun hc6 => ?_)
    · replace h := h.1 hc6
      refine g_lps [0] rfl ?_
      exact wk_X8_mend_L46 V_l1 V_l2 V_m1 V_m2 V_x8  C    _  h
    · replace h := h.2 hc6
      refine g_iload_n C rfl dX8_mend_25 rfl ?_
      refine g_iconst C ki_0 dX8_mend_26 rfl ?_
      refine g_bipush C kb_9 dX8_mend_27 rfl ?_
      refine g_callSD C tw_328 tw_322 tw_1 tw_323 hy_X8_within (by decide) (by decide) rfl (Nat.le_of_ble_eq_true rfl) (ct_X8_within V_l1   f a3 (0 : Int32) (9 : Int32) ) dX8_mend_29 rfl rfl ?_
      refine g_if_eq (tgt := 46) C dX8_mend_32 (by decide) rfl (fun hc7 => ?_) (fun hc7 => ?_)
      · replace h := h.1 hc7
        refine g_lps [0] rfl ?_
        exact wk_X8_mend_L46 V_l1 V_l2 V_m1 V_m2 V_x8  C    _  h
      · replace h := h.2 hc7
        refine g_iload C rfl dX8_mend_35 rfl ?_
        refine g_iconst C ki_0 dX8_mend_37 rfl ?_
        refine g_bipush C kb_9 dX8_mend_38 rfl ?_
        refine g_callSD C tw_328 tw_322 tw_1 tw_323 hy_X8_within (by decide) (by decide) rfl (Nat.le_of_ble_eq_true rfl) (ct_X8_within V_l1   f a4 (0 : Int32) (9 : Int32) ) dX8_mend_40 rfl rfl ?_
        refine g_if_ne (tgt := 52) C dX8_mend_43 (by decide) rfl (fun hc8 => ?_) (fun hc8 => ?_)
        · replace h := h.1 hc8
          refine g_aload_n C rfl dX8_mend_52 rfl ?_
          refine fg_X8_24R (k := 0) (p := 37) C rfl rfl dX8_mend_53 rfl ?_
          refine g_aload C rfl dX8_mend_56 rfl ?_
          have hs9 := h.1
          replace h := h.2
          refine g_callVV C tw_487 tw_488 tw_489 tw_6 tw_490 hy_X5_start (by decide) (by decide) rfl (Nat.le_of_ble_eq_true rfl) rfl rfl (ct_X5_start V_l1 V_l2 k1 hs9 f ) dX8_mend_58 rfl rfl (fun f10 hp11 => ?_)
          replace h := h f10 hp11
          refine g_aload_n C rfl dX8_mend_61 rfl ?_
          refine fg_X8_24R (k := 0) (p := 37) C rfl rfl dX8_mend_62 rfl ?_
          refine g_aload_n C rfl dX8_mend_65 rfl ?_
          refine fg_X8_10R (k := 0) (p := 1) C rfl rfl dX8_mend_66 rfl ?_
          refine fg_X8_161I (k := 1) (x := (f10 1 5)) C rfl rfl rfl dX8_mend_69 rfl ?_
          refine g_iload_n C rfl dX8_mend_72 rfl ?_
          refine g_iadd C dX8_mend_73 rfl ?_
          refine g_iconst C ki_0 dX8_mend_74 rfl ?_
          refine g_callVV C tw_611 tw_505 tw_506 tw_6 tw_507 hy_X5_fly (by decide) (by decide) rfl (Nat.le_of_ble_eq_true rfl) rfl rfl (ct_X5_fly V_l1 V_l2   f10 ((f10 1 5) + a2) (0 : Int32) ) dX8_mend_75 rfl rfl (fun f12 hp13 => ?_)
          replace h := h f12 hp13
          refine g_aload_n C rfl dX8_mend_78 rfl ?_
          refine fg_X8_24R (k := 0) (p := 37) C rfl rfl dX8_mend_79 rfl ?_
          refine g_iconst C ki_0 dX8_mend_82 rfl ?_
          refine g_callVD C tw_548 tw_511 tw_512 tw_6 tw_513 hy_X5_off (by decide) (by decide) rfl (Nat.le_of_ble_eq_true rfl) rfl rfl (ct_X5_off V_l1 V_l2   f12 (0 : Int32) ) dX8_mend_83 rfl rfl ?_
          refine g_istore (lv' := [(6, .int (Val_X5_off f12 (0 : Int32))), (5, .ref (zad Z k1)), (0, .ref (zad Z 0)), (1, .int a1), (2, .int a2), (3, .int a3), (4, .int a4)]) C dX8_mend_86 (by decide) rfl rfl ?_
          refine g_iload C rfl dX8_mend_88 rfl ?_
          refine g_iload C rfl dX8_mend_90 rfl ?_
          refine g_iload_n C rfl dX8_mend_92 rfl ?_
          refine g_imul C dX8_mend_93 rfl ?_
          refine g_bipush C kb_10 dX8_mend_94 rfl ?_
          refine g_idiv C (by decide) dX8_mend_96 rfl ?_
          refine g_isub C dX8_mend_97 rfl ?_
          refine g_iload C rfl dX8_mend_98 rfl ?_
          refine g_iload C rfl dX8_mend_100 rfl ?_
          refine g_imul C dX8_mend_102 rfl ?_
          refine g_bipush C kb_10 dX8_mend_103 rfl ?_
          refine g_idiv C (by decide) dX8_mend_105 rfl ?_
          refine g_isub C dX8_mend_106 rfl ?_
          exact g_iret C dX8_mend_107 h
        · replace h := h.2 hc8
          refine g_lps [0] rfl ?_
          exact wk_X8_mend_L46 V_l1 V_l2 V_m1 V_m2 V_x8  C    _  h
set_option maxRecDepth 100000 in
theorem ct_X8_mend (V_l1 : VC_l1) (V_l2 : VC_l2) (V_m1 : VC_m1) (V_m2 : VC_m2) (V_x8 : VC_x8) {l : Launch} {E : Ev}   (f : Fn) (a1 : Int32) (a2 : Int32) (a3 : Int32) (a4 : Int32) (hpre : Pre_X8_mend f a1 a2 a3 a4) : CT l E layC yX8_mend cX8_mend 7 (some .int) 3 [.ref (E.2.1 0), .int a1, .int a2, .int a3, .int a4] f (pI (Post_X8_mend f a1 a2 a3 a4)) := by
  refine CT.of (by decide +kernel) (Nat.le_of_ble_eq_true rfl) (fun Z hl9 hE9 hp9 C => ?_)
  subst hl9
  subst hE9
  exact wk_X8_mend V_l1 V_l2 V_m1 V_m2 V_x8 C   f a1 a2 a3 a4 (by rw [hp9]; exact V_x8.2.2.2.2.2.2.2.2.2.2.2.2.2.2.2.2.2.2.2.2.2.2.2.2.2.2.2.2.2.1  f a1 a2 a3 a4  hpre)
set_option maxHeartbeats 4000000 in
set_option maxRecDepth 100000 in
theorem wk_X8_again_L65 (V_l1 : VC_l1) (V_l2 : VC_l2) (V_m1 : VC_m1) (V_m2 : VC_m2) (V_x8 : VC_x8) {Z : Zt}  (C : CX Z layC RX8 cX8_again 12 (some .long) 5)     (f : Fn)  (h : wp_X8_again_L65   f  (zp Z)) : GG Z f [(0, .ref (zad Z 0))] 65 [] := by
  refine g_aload_n C rfl dX8_again_65 rfl ?_
  refine g_iconst C ki_1 dX8_again_66 rfl ?_
  refine g_callVI C tw_324 tw_326 tp_0 tw_1 tw_327 hy_X8_error (by decide) (by decide) rfl (Nat.le_of_ble_eq_true rfl) rfl rfl (ct_X8_error V_l1 V_l2 V_m1 V_m2 V_x8   f (1 : Int32) ) dX8_again_67 rfl rfl (fun r4 f5 hp6 => ?_)
  replace h := h r4 f5 hp6
  refine g_i2l C dX8_again_70 rfl ?_
  exact g_lret C dX8_again_71 h
set_option maxHeartbeats 4000000 in
set_option maxRecDepth 100000 in
theorem wk_X8_again_L53 (V_l1 : VC_l1) (V_l2 : VC_l2) (V_m1 : VC_m1) (V_m2 : VC_m2) (V_x8 : VC_x8) {Z : Zt}  (C : CX Z layC RX8 cX8_again 12 (some .long) 5)     (f : Fn) (x2 : Int32) (x3 : Int32) (x4 : Int32) (x5 : Int32) (s0 : Int32) (h : wp_X8_again_L53   f x2 x3 x4 x5 s0 (zp Z)) : GG Z f [(0, .ref (zad Z 0)), (2, .int x2), (3, .int x3), (4, .int x4), (5, .int x5), (6, .null)] 53 [.int s0] := by
  refine g_istore (lv' := [(7, .int s0), (0, .ref (zad Z 0)), (2, .int x2), (3, .int x3), (4, .int x4), (5, .int x5), (6, .null)]) C dX8_again_53 (by decide) rfl rfl ?_
  refine g_aloadN C rfl dX8_again_55 rfl ?_
  refine g_ifnull_n (q := 65) C dX8_again_57 (by decide) ?_
  refine g_lps [0] rfl ?_
  exact wk_X8_again_L65 V_l1 V_l2 V_m1 V_m2 V_x8  C    _  h
set_option maxHeartbeats 4000000 in
set_option maxRecDepth 100000 in
theorem wk_X8_again_L52 (V_l1 : VC_l1) (V_l2 : VC_l2) (V_m1 : VC_m1) (V_m2 : VC_m2) (V_x8 : VC_x8) {Z : Zt}  (C : CX Z layC RX8 cX8_again 12 (some .long) 5)     (f : Fn) (x2 : Int32) (x3 : Int32) (x4 : Int32) (x5 : Int32) (h : wp_X8_again_L52   f x2 x3 x4 x5 (zp Z)) : GG Z f [(0, .ref (zad Z 0)), (2, .int x2), (3, .int x3), (4, .int x4), (5, .int x5), (6, .null)] 52 [] := by
  refine g_iconst C ki_0 dX8_again_52 rfl ?_
  exact wk_X8_again_L53 V_l1 V_l2 V_m1 V_m2 V_x8  C    _ _ _ _ _ _ h
set_option maxHeartbeats 4000000 in
set_option maxRecDepth 100000 in
theorem wk_X8_again_L53_1 (V_l1 : VC_l1) (V_l2 : VC_l2) (V_m1 : VC_m1) (V_m2 : VC_m2) (V_x8 : VC_x8) {Z : Zt}  (C : CX Z layC RX8 cX8_again 12 (some .long) 5)     (f : Fn) (x2 : Int32) (x3 : Int32) (x4 : Int32) (x5 : Int32) (px6 : Nat) (s0 : Int32) (h : wp_X8_again_L53_1   f x2 x3 x4 x5 px6 s0 (zp Z)) : GG Z f [(0, .ref (zad Z 0)), (2, .int x2), (3, .int x3), (4, .int x4), (5, .int x5), (6, .ref (zad Z px6))] 53 [.int s0] := by
  refine g_istore (lv' := [(7, .int s0), (0, .ref (zad Z 0)), (2, .int x2), (3, .int x3), (4, .int x4), (5, .int x5), (6, .ref (zad Z px6))]) C dX8_again_53 (by decide) rfl rfl ?_
  refine g_aload C rfl dX8_again_55 rfl ?_
  refine g_ifnull_r (q := 60) C dX8_again_57 rfl ?_
  refine g_iload C rfl dX8_again_60 rfl ?_
  refine g_if_ne (tgt := 72) C dX8_again_62 (by decide) rfl (fun hc11 => ?_) (fun hc11 => ?_)
  · replace h := h.1 hc11
    refine g_aload_n C rfl dX8_again_72 rfl ?_
    refine fg_X8_24R (k := 0) (p := 37) C rfl rfl dX8_again_73 rfl ?_
    refine g_aload C rfl dX8_again_76 rfl ?_
    have hs12 := h.1
    replace h := h.2
    refine g_callVV C tw_487 tw_488 tw_489 tw_6 tw_490 hy_X5_start (by decide) (by decide) rfl (Nat.le_of_ble_eq_true rfl) rfl rfl (ct_X5_start V_l1 V_l2 px6 hs12 f ) dX8_again_78 rfl rfl (fun f13 hp14 => ?_)
    replace h := h f13 hp14
    refine g_aload_n C rfl dX8_again_81 rfl ?_
    refine fg_X8_24R (k := 0) (p := 37) C rfl rfl dX8_again_82 rfl ?_
    refine g_aload_n C rfl dX8_again_85 rfl ?_
    refine fg_X8_10R (k := 0) (p := 1) C rfl rfl dX8_again_86 rfl ?_
    refine fg_X8_161I (k := 1) (x := (f13 1 5)) C rfl rfl rfl dX8_again_89 rfl ?_
    refine g_aload_n C rfl dX8_again_92 rfl ?_
    refine fg_X8_24R (k := 0) (p := 37) C rfl rfl dX8_again_93 rfl ?_
    refine g_iload_n C rfl dX8_again_96 rfl ?_
    refine g_callVI C tw_573 tw_574 tw_575 tw_6 tw_576 hy_X5_surestWait (by decide) (by decide) rfl (Nat.le_of_ble_eq_true rfl) rfl rfl (ct_X5_surestWait V_l1 V_l2   f13 x2 ) dX8_again_97 rfl rfl (fun r15 f16 hp17 => ?_)
    replace h := h r15 f16 hp17
    refine g_iadd C dX8_again_100 rfl ?_
    refine g_callVI C tw_585 tw_578 tw_579 tw_6 tw_580 hy_X5_casesCaught (by decide) (by decide) rfl (Nat.le_of_ble_eq_true rfl) rfl rfl (ct_X5_casesCaught V_l1 V_l2   f16 ((f13 1 5) + r15) ) dX8_again_101 rfl rfl (fun r18 f19 hp20 => ?_)
    replace h := h r18 f19 hp20
    refine g_istore (lv' := [(8, .int r18), (7, .int s0), (0, .ref (zad Z 0)), (2, .int x2), (3, .int x3), (4, .int x4), (5, .int x5), (6, .ref (zad Z px6))]) C dX8_again_104 (by decide) rfl rfl ?_
    refine g_bipush C kb_9 dX8_again_106 rfl ?_
    refine g_iload C rfl dX8_again_108 rfl ?_
    refine g_isub C dX8_again_110 rfl ?_
    refine g_istore (lv' := [(9, .int ((9 : Int32) - r18)), (8, .int r18), (7, .int s0), (0, .ref (zad Z 0)), (2, .int x2), (3, .int x3), (4, .int x4), (5, .int x5), (6, .ref (zad Z px6))]) C dX8_again_111 (by decide) rfl rfl ?_
    refine g_iload C rfl dX8_again_113 rfl ?_
    refine g_iload_n C rfl dX8_again_115 rfl ?_
    refine g_imul C dX8_again_116 rfl ?_
    refine g_iload C rfl dX8_again_117 rfl ?_
    refine g_iload C rfl dX8_again_119 rfl ?_
    refine g_imul C dX8_again_121 rfl ?_
    refine g_isub C dX8_again_122 rfl ?_
    refine g_istore (lv' := [(10, .int ((r18 * x3) - (((9 : Int32) - r18) * x4))), (9, .int ((9 : Int32) - r18)), (8, .int r18), (7, .int s0), (0, .ref (zad Z 0)), (2, .int x2), (3, .int x3), (4, .int x4), (5, .int x5), (6, .ref (zad Z px6))]) C dX8_again_123 (by decide) rfl rfl ?_
    refine g_bipush C kb_9 dX8_again_125 rfl ?_
    refine g_iload C rfl dX8_again_127 rfl ?_
    refine g_imul C dX8_again_129 rfl ?_
    refine g_iload_n C rfl dX8_again_130 rfl ?_
    refine g_imul C dX8_again_131 rfl ?_
    refine g_iload C rfl dX8_again_132 rfl ?_
    refine g_iconst C ki_0 dX8_again_134 rfl ?_
    refine g_iload C rfl dX8_again_135 rfl ?_
    refine g_callSD C tw_589 tw_335 tw_11 tw_336 hy_J9_max_7cf53 (by decide) (by decide) rfl (Nat.le_of_ble_eq_true rfl) (ct_J9_max_7cf53 V_l1   f19 (0 : Int32) ((r18 * x3) - (((9 : Int32) - r18) * x4)) ) dX8_again_137 rfl rfl ?_
    refine g_bipush C kb_9 dX8_again_140 rfl ?_
    refine g_iload C rfl dX8_again_142 rfl ?_
    refine g_imul C dX8_again_144 rfl ?_
    refine g_isub C dX8_again_145 rfl ?_
    refine g_imul C dX8_again_146 rfl ?_
    refine g_iadd C dX8_again_147 rfl ?_
    refine g_istore (lv' := [(11, .int ((((9 : Int32) * r18) * x3) + (((9 : Int32) - r18) * ((Val_J9_max_7cf53 f19 (0 : Int32) ((r18 * x3) - (((9 : Int32) - r18) * x4))) - ((9 : Int32) * x4))))), (10, .int ((r18 * x3) - (((9 : Int32) - r18) * x4))), (9, .int ((9 : Int32) - r18)), (8, .int r18), (7, .int s0), (0, .ref (zad Z 0)), (2, .int x2), (3, .int x3), (4, .int x4), (5, .int x5), (6, .ref (zad Z px6))]) C dX8_again_148 (by decide) rfl rfl ?_
    refine g_iload C rfl dX8_again_150 rfl ?_
    refine g_bipush C kb_81 dX8_again_152 rfl ?_
    refine g_iload C rfl dX8_again_154 rfl ?_
    have hs21 := h.1
    replace h := h.2
    refine g_callSD C tw_586 tw_587 tw_1 tw_588 hy_X8_partOf (by decide) (by decide) rfl (Nat.le_of_ble_eq_true rfl) (ct_X8_partOf V_l1 V_l2 V_m1 V_m2 V_x8   f19 ((((9 : Int32) * r18) * x3) + (((9 : Int32) - r18) * ((Val_J9_max_7cf53 f19 (0 : Int32) ((r18 * x3) - (((9 : Int32) - r18) * x4))) - ((9 : Int32) * x4)))) (81 : Int32) x5 hs21) dX8_again_156 rfl rfl ?_
    refine g_i2l C dX8_again_159 rfl ?_
    exact g_lret C dX8_again_160 h
  · replace h := h.2 hc11
    refine g_lps [0] rfl ?_
    exact wk_X8_again_L65 V_l1 V_l2 V_m1 V_m2 V_x8  C    _  h
set_option maxHeartbeats 4000000 in
set_option maxRecDepth 100000 in
theorem wk_X8_again_L52_1 (V_l1 : VC_l1) (V_l2 : VC_l2) (V_m1 : VC_m1) (V_m2 : VC_m2) (V_x8 : VC_x8) {Z : Zt}  (C : CX Z layC RX8 cX8_again 12 (some .long) 5)     (f : Fn) (x2 : Int32) (x3 : Int32) (x4 : Int32) (x5 : Int32) (px6 : Nat) (h : wp_X8_again_L52_1   f x2 x3 x4 x5 px6 (zp Z)) : GG Z f [(0, .ref (zad Z 0)), (2, .int x2), (3, .int x3), (4, .int x4), (5, .int x5), (6, .ref (zad Z px6))] 52 [] := by
  refine g_iconst C ki_0 dX8_again_52 rfl ?_
  exact wk_X8_again_L53_1 V_l1 V_l2 V_m1 V_m2 V_x8  C    _ _ _ _ _ _ _ h
set_option maxHeartbeats 4000000 in
set_option maxRecDepth 100000 in
theorem wk_X8_again (V_l1 : VC_l1) (V_l2 : VC_l2) (V_m1 : VC_m1) (V_m2 : VC_m2) (V_x8 : VC_x8) {Z : Zt}  (C : CX Z layC RX8 cX8_again 12 (some .long) 5)     (f : Fn) (a1 : Int32) (a2 : Int32) (a3 : Int32) (a4 : Int32) (a5 : Int32) (h : wp_X8_again  f a1 a2 a3 a4 a5 (zp Z)) : GG Z f [(0, .ref (zad Z 0)), (1, .int a1), (2, .int a2), (3, .int a3), (4, .int a4), (5, .int a5)] 0 [] := by
  refine g_aload_n C rfl dX8_again_0 rfl ?_
  refine fg_X8_10R (k := 0) (p := 1) C rfl rfl dX8_again_1 rfl ?_
  refine g_iload_n C rfl dX8_again_4 rfl ?_
  refine g_callVQ C tw_362 tw_363 tw_364 tw_2 tw_365 hy_X7_flyerOf (by decide) (by decide) rfl (Nat.le_of_ble_eq_true rfl) rfl rfl (ct_X7_flyerOf V_l1 V_l2   f a1 ) dX8_again_5 rfl rfl (fun hv2 => ?_) (fun k1 hv2 => ?_)
  · replace h := h.1 hv2
    refine g_astoreN (lv' := [(6, .null), (0, .ref (zad Z 0)), (1, .int a1), (2, .int a2), (3, .int a3), (4, .int a4), (5, .int a5)]) C dX8_again_8 (by decide) rfl rfl ?_
    refine g_iload_n C rfl dX8_again_10 rfl ?_
    refine g_callSD C tw_553 tw_554 tw_1 tw_555 hy_X8_isSpan (by decide) (by decide) rfl (Nat.le_of_ble_eq_true rfl) (ct_X8_isSpan V_l1 V_l2 V_m1 V_m2 V_x8   f a2 ) dX8_again_11 rfl rfl ?_
    refine g_if_eq (tgt := 52) C dX8_again_14 (by decide) rfl (fun hc3 => ?_) (fun hc3 => ?_)
    · replace h := h.1 hc3
      refine g_lps [0, 2, 3, 4, 5, 6] rfl ?_
      exact wk_X8_again_L52 V_l1 V_l2 V_m1 V_m2 V_x8  C    _ _ _ _ _ h
    · replace h := h.2 hc3
      refine g_iload_n C rfl dX8_again_17 rfl ?_
      refine g_iconst C ki_0 dX8_again_18 rfl ?_
      refine g_bipush C kb_99 dX8_again_19 rfl ?_
      refine g_callSD C tw_328 tw_322 tw_1 tw_323 hy_X8_within (by decide) (by decide) rfl (Nat.le_of_ble_eq_true rfl) (ct_X8_within V_l1   f a3 (0 : Int32) (99 : Int32) ) dX8_again_21 rfl rfl ?_
      refine g_if_eq (tgt := 52) C dX8_again_24 (by decide) rfl (fun hc7 => ?_) (fun hc7 => ?_)
      · replace h := h.1 hc7
        refine g_lps [0, 2, 3, 4, 5, 6] rfl ?_
        exact wk_X8_again_L52 V_l1 V_l2 V_m1 V_m2 V_x8  C    _ _ _ _ _ h
      · replace h := h.2 hc7
        refine g_iload C rfl dX8_again_27 rfl ?_
        refine g_iconst C ki_0 dX8_again_29 rfl ?_
        refine g_bipush C kb_99 dX8_again_30 rfl ?_
        refine g_callSD C tw_328 tw_322 tw_1 tw_323 hy_X8_within (by decide) (by decide) rfl (Nat.le_of_ble_eq_true rfl) (ct_X8_within V_l1   f a4 (0 : Int32) (99 : Int32) ) dX8_again_32 rfl rfl ?_
        refine g_if_eq (tgt := 52) C dX8_again_35 (by decide) rfl (fun hc8 => ?_) (fun hc8 => ?_)
        · replace h := h.1 hc8
          refine g_lps [0, 2, 3, 4, 5, 6] rfl ?_
          exact wk_X8_again_L52 V_l1 V_l2 V_m1 V_m2 V_x8  C    _ _ _ _ _ h
        · replace h := h.2 hc8
          refine g_iload C rfl dX8_again_38 rfl ?_
          refine g_iconst C ki_0 dX8_again_40 rfl ?_
          refine g_iconst C ki_1 dX8_again_41 rfl ?_
          refine g_callSD C tw_328 tw_322 tw_1 tw_323 hy_X8_within (by decide) (by decide) rfl (Nat.le_of_ble_eq_true rfl) (ct_X8_within V_l1   f a5 (0 : Int32) (1 : Int32) ) dX8_again_42 rfl rfl ?_
          refine g_if_eq (tgt := 52) C dX8_again_45 (by decide) rfl (fun hc9 => ?_) (fun hc9 => ?_)
          · replace h := h.1 hc9
            refine g_lps [0, 2, 3, 4, 5, 6] rfl ?_
            exact wk_X8_again_L52 V_l1 V_l2 V_m1 V_m2 V_x8  C    _ _ _ _ _ h
          · replace h := h.2 hc9
            refine g_iconst C ki_1 dX8_again_48 rfl ?_
            refine g_goto (q := 53) C dX8_again_49 (by decide) ?_
            refine g_lps [0, 2, 3, 4, 5, 6] rfl ?_
            exact wk_X8_again_L53 V_l1 V_l2 V_m1 V_m2 V_x8  C    _ _ _ _ _ _ h
  · replace h := h.2 k1 hv2
    refine g_astore (lv' := [(6, .ref (zad Z k1)), (0, .ref (zad Z 0)), (1, .int a1), (2, .int a2), (3, .int a3), (4, .int a4), (5, .int a5)]) C dX8_again_8 (by decide) rfl rfl ?_
    refine g_iload_n C rfl dX8_again_10 rfl ?_
    refine g_callSD C tw_553 tw_554 tw_1 tw_555 hy_X8_isSpan (by decide) (by decide) rfl (Nat.le_of_ble_eq_true rfl) (ct_X8_isSpan V_l1 V_l2 V_m1 V_m2 V_x8   f a2 ) dX8_again_11 rfl rfl ?_
    refine g_if_eq (tgt := 52) C dX8_again_14 (by decide) rfl (fun hc10 => ?_) (fun hc10 => ?_)
    · replace h := h.1 hc10
      refine g_lps [0, 2, 3, 4, 5, 6] rfl ?_
      exact wk_X8_again_L52_1 V_l1 V_l2 V_m1 V_m2 V_x8  C    _ _ _ _ _ _ h
    · replace h := h.2 hc10
      refine g_iload_n C rfl dX8_again_17 rfl ?_
      refine g_iconst C ki_0 dX8_again_18 rfl ?_
      refine g_bipush C kb_99 dX8_again_19 rfl ?_
      refine g_callSD C tw_328 tw_322 tw_1 tw_323 hy_X8_within (by decide) (by decide) rfl (Nat.le_of_ble_eq_true rfl) (ct_X8_within V_l1   f a3 (0 : Int32) (99 : Int32) ) dX8_again_21 rfl rfl ?_
      refine g_if_eq (tgt := 52) C dX8_again_24 (by decide) rfl (fun hc22 => ?_) (fun hc22 => ?_)
      · replace h := h.1 hc22
        refine g_lps [0, 2, 3, 4, 5, 6] rfl ?_
        exact wk_X8_again_L52_1 V_l1 V_l2 V_m1 V_m2 V_x8  C    _ _ _ _ _ _ h
      · replace h := h.2 hc22
        refine g_iload C rfl dX8_again_27 rfl ?_
        refine g_iconst C ki_0 dX8_again_29 rfl ?_
        refine g_bipush C kb_99 dX8_again_30 rfl ?_
        refine g_callSD C tw_328 tw_322 tw_1 tw_323 hy_X8_within (by decide) (by decide) rfl (Nat.le_of_ble_eq_true rfl) (ct_X8_within V_l1   f a4 (0 : Int32) (99 : Int32) ) dX8_again_32 rfl rfl ?_
        refine g_if_eq (tgt := 52) C dX8_again_35 (by decide) rfl (fun hc23 => ?_) (fun hc23 => ?_)
        · replace h := h.1 hc23
          refine g_lps [0, 2, 3, 4, 5, 6] rfl ?_
          exact wk_X8_again_L52_1 V_l1 V_l2 V_m1 V_m2 V_x8  C    _ _ _ _ _ _ h
        · replace h := h.2 hc23
          refine g_iload C rfl dX8_again_38 rfl ?_
          refine g_iconst C ki_0 dX8_again_40 rfl ?_
          refine g_iconst C ki_1 dX8_again_41 rfl ?_
          refine g_callSD C tw_328 tw_322 tw_1 tw_323 hy_X8_within (by decide) (by decide) rfl (Nat.le_of_ble_eq_true rfl) (ct_X8_within V_l1   f a5 (0 : Int32) (1 : Int32) ) dX8_again_42 rfl rfl ?_
          refine g_if_eq (tgt := 52) C dX8_again_45 (by decide) rfl (fun hc24 => ?_) (fun hc24 => ?_)
          · replace h := h.1 hc24
            refine g_lps [0, 2, 3, 4, 5, 6] rfl ?_
            exact wk_X8_again_L52_1 V_l1 V_l2 V_m1 V_m2 V_x8  C    _ _ _ _ _ _ h
          · replace h := h.2 hc24
            refine g_iconst C ki_1 dX8_again_48 rfl ?_
            refine g_goto (q := 53) C dX8_again_49 (by decide) ?_
            refine g_lps [0, 2, 3, 4, 5, 6] rfl ?_
            exact wk_X8_again_L53_1 V_l1 V_l2 V_m1 V_m2 V_x8  C    _ _ _ _ _ _ _ h
set_option maxRecDepth 100000 in
theorem ct_X8_again (V_l1 : VC_l1) (V_l2 : VC_l2) (V_m1 : VC_m1) (V_m2 : VC_m2) (V_x8 : VC_x8) {l : Launch} {E : Ev}   (f : Fn) (a1 : Int32) (a2 : Int32) (a3 : Int32) (a4 : Int32) (a5 : Int32) (hpre : Pre_X8_again f a1 a2 a3 a4 a5) : CT l E layC yX8_again cX8_again 12 (some .long) 5 [.ref (E.2.1 0), .int a1, .int a2, .int a3, .int a4, .int a5] f (pL (Post_X8_again f a1 a2 a3 a4 a5)) := by
  refine CT.of (by decide +kernel) (Nat.le_of_ble_eq_true rfl) (fun Z hl9 hE9 hp9 C => ?_)
  subst hl9
  subst hE9
  exact wk_X8_again V_l1 V_l2 V_m1 V_m2 V_x8 C   f a1 a2 a3 a4 a5 (by rw [hp9]; exact V_x8.2.2.2.2.2.2.2.2.2.2.2.2.2.2.2.2.2.2.2.2.2.2.2.2.2.2.2.2.2.2.1  f a1 a2 a3 a4 a5  hpre)
set_option maxHeartbeats 4000000 in
set_option maxRecDepth 100000 in
theorem wk_X8_net_L31 (V_l1 : VC_l1) (V_l2 : VC_l2) (V_m1 : VC_m1) (V_m2 : VC_m2) (V_x8 : VC_x8) {Z : Zt}  (C : CX Z layC RX8 cX8_net 6 (some .int) 5)     (f : Fn)  (h : wp_X8_net_L31   f  (zp Z)) : GG Z f [(0, .ref (zad Z 0))] 31 [] := by
  refine g_aload_n C rfl dX8_net_31 rfl ?_
  refine g_iconst C ki_1 dX8_net_32 rfl ?_
  refine g_callVI C tw_324 tw_326 tp_0 tw_1 tw_327 hy_X8_error (by decide) (by decide) rfl (Nat.le_of_ble_eq_true rfl) rfl rfl (ct_X8_error V_l1 V_l2 V_m1 V_m2 V_x8   f (1 : Int32) ) dX8_net_33 rfl rfl (fun r3 f4 hp5 => ?_)
  replace h := h r3 f4 hp5
  exact g_iret C dX8_net_36 h
set_option maxHeartbeats 4000000 in
set_option maxRecDepth 100000 in
theorem wk_X8_net (V_l1 : VC_l1) (V_l2 : VC_l2) (V_m1 : VC_m1) (V_m2 : VC_m2) (V_x8 : VC_x8) {Z : Zt}  (C : CX Z layC RX8 cX8_net 6 (some .int) 5)     (f : Fn) (a1 : Int32) (a2 : Int32) (a3 : Int32) (h : wp_X8_net  f a1 a2 a3 (zp Z)) : GG Z f [(0, .ref (zad Z 0)), (1, .int a1), (2, .int a2), (3, .int a3)] 0 [] := by
  refine g_aload_n C rfl dX8_net_0 rfl ?_
  refine fg_X8_10R (k := 0) (p := 1) C rfl rfl dX8_net_1 rfl ?_
  refine g_iload_n C rfl dX8_net_4 rfl ?_
  refine g_callVQ C tw_362 tw_363 tw_364 tw_2 tw_365 hy_X7_flyerOf (by decide) (by decide) rfl (Nat.le_of_ble_eq_true rfl) rfl rfl (ct_X7_flyerOf V_l1 V_l2   f a1 ) dX8_net_5 rfl rfl (fun hv2 => ?_) (fun k1 hv2 => ?_)
  · replace h := h.1 hv2
    refine g_astoreN (lv' := [(4, .null), (0, .ref (zad Z 0)), (1, .int a1), (2, .int a2), (3, .int a3)]) C dX8_net_8 (by decide) rfl rfl ?_
    refine g_aloadN C rfl dX8_net_10 rfl ?_
    refine g_ifnull_n (q := 31) C dX8_net_12 (by decide) ?_
    refine g_lps [0] rfl ?_
    exact wk_X8_net_L31 V_l1 V_l2 V_m1 V_m2 V_x8  C    _  h
  · replace h := h.2 k1 hv2
    refine g_astore (lv' := [(4, .ref (zad Z k1)), (0, .ref (zad Z 0)), (1, .int a1), (2, .int a2), (3, .int a3)]) C dX8_net_8 (by decide) rfl rfl ?_
    refine g_aload C rfl dX8_net_10 rfl ?_
    refine g_ifnull_r (q := 15) C dX8_net_12 rfl ?_
    refine g_iload_n C rfl dX8_net_15 rfl ?_
    refine g_callSD C tw_553 tw_554 tw_1 tw_555 hy_X8_isSpan (by decide) (by decide) rfl (Nat.le_of_ble_eq_true rfl) (ct_X8_isSpan V_l1 V_l2 V_m1 V_m2 V_x8   f a2 ) dX8_net_16 rfl rfl ?_
    refine g_if_eq (tgt := 31) C dX8_net_19 (by decide) rfl (fun hc6 => ?_) (fun hc6 => ?_)
    · replace h := h.1 hc6
      refine g_lps [0] rfl ?_
      exact wk_X8_net_L31 V_l1 V_l2 V_m1 V_m2 V_x8  C    _  h
    · replace h := h.2 hc6
      refine g_iload_n C rfl dX8_net_22 rfl ?_
      refine g_iconst C ki_0 dX8_net_23 rfl ?_
      refine g_iconst C ki_1 dX8_net_24 rfl ?_
      refine g_callSD C tw_328 tw_322 tw_1 tw_323 hy_X8_within (by decide) (by decide) rfl (Nat.le_of_ble_eq_true rfl) (ct_X8_within V_l1   f a3 (0 : Int32) (1 : Int32) ) dX8_net_25 rfl rfl ?_
      refine g_if_ne (tgt := 37) C dX8_net_28 (by decide) rfl (fun hc7 => ?_) (fun hc7 => ?_)
      · replace h := h.1 hc7
        refine g_aload_n C rfl dX8_net_37 rfl ?_
        refine fg_X8_24R (k := 0) (p := 37) C rfl rfl dX8_net_38 rfl ?_
        refine g_aload C rfl dX8_net_41 rfl ?_
        have hs8 := h.1
        replace h := h.2
        refine g_callVV C tw_487 tw_488 tw_489 tw_6 tw_490 hy_X5_start (by decide) (by decide) rfl (Nat.le_of_ble_eq_true rfl) rfl rfl (ct_X5_start V_l1 V_l2 k1 hs8 f ) dX8_net_43 rfl rfl (fun f9 hp10 => ?_)
        replace h := h f9 hp10
        refine g_aload_n C rfl dX8_net_46 rfl ?_
        refine fg_X8_24R (k := 0) (p := 37) C rfl rfl dX8_net_47 rfl ?_
        refine g_iload_n C rfl dX8_net_50 rfl ?_
        have hs11 := h.1
        replace h := h.2
        refine g_callVI C tw_620 tw_621 tw_622 tw_6 tw_623 hy_X5_gatherFalls (by decide) (by decide) rfl (Nat.le_of_ble_eq_true rfl) rfl rfl (ct_X5_gatherFalls V_l1 V_l2   f9 a2 hs11) dX8_net_51 rfl rfl (fun r12 f13 hp14 => ?_)
        replace h := h r12 f13 hp14
        refine g_if_ne (tgt := 63) C dX8_net_54 (by decide) rfl (fun hc15 => ?_) (fun hc15 => ?_)
        · replace h := h.1 hc15
          refine g_aload_n C rfl dX8_net_63 rfl ?_
          refine fg_X8_24R (k := 0) (p := 37) C rfl rfl dX8_net_64 rfl ?_
          have hs16 := h.1
          replace h := h.2
          refine g_callVD C tw_624 tw_625 tw_626 tw_6 tw_627 hy_X5_leastHarmPlace (by decide) (by decide) rfl (Nat.le_of_ble_eq_true rfl) rfl rfl (ct_X5_leastHarmPlace V_l1 V_l2   f13 hs16) dX8_net_67 rfl rfl ?_
          refine g_istore (lv' := [(5, .int (Val_X5_leastHarmPlace f13)), (4, .ref (zad Z k1)), (0, .ref (zad Z 0)), (1, .int a1), (2, .int a2), (3, .int a3)]) C dX8_net_70 (by decide) rfl rfl ?_
          refine g_iload_n C rfl dX8_net_72 rfl ?_
          refine g_if_ne (tgt := 81) C dX8_net_73 (by decide) rfl (fun hc17 => ?_) (fun hc17 => ?_)
          · replace h := h.1 hc17
            refine g_aload_n C rfl dX8_net_81 rfl ?_
            refine fg_X8_24R (k := 0) (p := 37) C rfl rfl dX8_net_82 rfl ?_
            refine g_iload C rfl dX8_net_85 rfl ?_
            have hs18 := h.1
            replace h := h.2
            refine g_callVD C tw_633 tw_629 tw_630 tw_6 tw_631 hy_X5_harmTogether (by decide) (by decide) rfl (Nat.le_of_ble_eq_true rfl) rfl rfl (ct_X5_harmTogether V_l1 V_l2   f13 (Val_X5_leastHarmPlace f13) hs18) dX8_net_87 rfl rfl ?_
            exact g_iret C dX8_net_90 h
          · replace h := h.2 hc17
            refine g_iload C rfl dX8_net_76 rfl ?_
            refine g_goto (q := 90) C dX8_net_78 (by decide) ?_
            exact g_iret C dX8_net_90 h
        · replace h := h.2 hc15
          refine g_aload_n C rfl dX8_net_57 rfl ?_
          refine g_iconst C ki_2 dX8_net_58 rfl ?_
          refine g_callVI C tw_324 tw_326 tp_0 tw_1 tw_327 hy_X8_error (by decide) (by decide) rfl (Nat.le_of_ble_eq_true rfl) rfl rfl (ct_X8_error V_l1 V_l2 V_m1 V_m2 V_x8   f13 (2 : Int32) ) dX8_net_59 rfl rfl (fun r19 f20 hp21 => ?_)
          replace h := h r19 f20 hp21
          exact g_iret C dX8_net_62 h
      · replace h := h.2 hc7
        refine g_lps [0] rfl ?_
        exact wk_X8_net_L31 V_l1 V_l2 V_m1 V_m2 V_x8  C    _  h
set_option maxRecDepth 100000 in
theorem ct_X8_net (V_l1 : VC_l1) (V_l2 : VC_l2) (V_m1 : VC_m1) (V_m2 : VC_m2) (V_x8 : VC_x8) {l : Launch} {E : Ev}   (f : Fn) (a1 : Int32) (a2 : Int32) (a3 : Int32) (hpre : Pre_X8_net f a1 a2 a3) : CT l E layC yX8_net cX8_net 6 (some .int) 5 [.ref (E.2.1 0), .int a1, .int a2, .int a3] f (pI (Post_X8_net f a1 a2 a3)) := by
  refine CT.of (by decide +kernel) (Nat.le_of_ble_eq_true rfl) (fun Z hl9 hE9 hp9 C => ?_)
  subst hl9
  subst hE9
  exact wk_X8_net V_l1 V_l2 V_m1 V_m2 V_x8 C   f a1 a2 a3 (by rw [hp9]; exact V_x8.2.2.2.2.2.2.2.2.2.2.2.2.2.2.2.2.2.2.2.2.2.2.2.2.2.2.2.2.2.2.2.1  f a1 a2 a3  hpre)
set_option maxHeartbeats 4000000 in
set_option maxRecDepth 100000 in
theorem wk_X8_phases_L36 (V_l1 : VC_l1) (V_l2 : VC_l2) (V_m1 : VC_m1) (V_m2 : VC_m2) (V_x8 : VC_x8) {Z : Zt}  (C : CX Z layC RX8 cX8_phases 7 (some .int) 6)     (f : Fn)  (h : wp_X8_phases_L36   f  (zp Z)) : GG Z f [(0, .ref (zad Z 0))] 36 [] := by
  refine g_aload_n C rfl dX8_phases_36 rfl ?_
  refine g_iconst C ki_1 dX8_phases_37 rfl ?_
  refine g_callVI C tw_324 tw_326 tp_0 tw_1 tw_327 hy_X8_error (by decide) (by decide) rfl (Nat.le_of_ble_eq_true rfl) rfl rfl (ct_X8_error V_l1 V_l2 V_m1 V_m2 V_x8   f (1 : Int32) ) dX8_phases_38 rfl rfl (fun r5 f6 hp7 => ?_)
  replace h := h r5 f6 hp7
  exact g_iret C dX8_phases_41 h
set_option maxHeartbeats 4000000 in
set_option maxRecDepth 100000 in
theorem wk_X8_phases_L86 (V_l1 : VC_l1) (V_l2 : VC_l2) (V_m1 : VC_m1) (V_m2 : VC_m2) (V_x8 : VC_x8) {Z : Zt}  (C : CX Z layC RX8 cX8_phases 7 (some .int) 6)     (f : Fn) (x6 : Int32) (h : wp_X8_phases_L86   f x6 (zp Z)) : GG Z f [(0, .ref (zad Z 0)), (6, .int x6)] 86 [] := by
  refine g_aload_n C rfl dX8_phases_86 rfl ?_
  refine g_iload C rfl dX8_phases_87 rfl ?_
  refine g_callVI C tw_565 tw_567 tp_9 tw_1 tw_568 hy_X8_orNone (by decide) (by decide) rfl (Nat.le_of_ble_eq_true rfl) rfl rfl (ct_X8_orNone V_l1 V_l2 V_m1 V_m2 V_x8   f x6 ) dX8_phases_89 rfl rfl (fun r21 f22 hp23 => ?_)
  replace h := h r21 f22 hp23
  refine g_goto (q := 104) C dX8_phases_92 (by decide) ?_
  exact g_iret C dX8_phases_104 h
set_option maxHeartbeats 4000000 in
set_option maxRecDepth 100000 in
theorem wk_X8_phases (V_l1 : VC_l1) (V_l2 : VC_l2) (V_m1 : VC_m1) (V_m2 : VC_m2) (V_x8 : VC_x8) {Z : Zt}  (C : CX Z layC RX8 cX8_phases 7 (some .int) 6)     (f : Fn) (a1 : Int32) (a2 : Int32) (a3 : Int32) (h : wp_X8_phases  f a1 a2 a3 (zp Z)) : GG Z f [(0, .ref (zad Z 0)), (1, .int a1), (2, .int a2), (3, .int a3)] 0 [] := by
  refine g_aload_n C rfl dX8_phases_0 rfl ?_
  refine fg_X8_10R (k := 0) (p := 1) C rfl rfl dX8_phases_1 rfl ?_
  refine g_iload_n C rfl dX8_phases_4 rfl ?_
  refine g_callVQ C tw_362 tw_363 tw_364 tw_2 tw_365 hy_X7_flyerOf (by decide) (by decide) rfl (Nat.le_of_ble_eq_true rfl) rfl rfl (ct_X7_flyerOf V_l1 V_l2   f a1 ) dX8_phases_5 rfl rfl (fun hv2 => ?_) (fun k1 hv2 => ?_)
  · replace h := h.1 hv2
    refine g_astoreN (lv' := [(4, .null), (0, .ref (zad Z 0)), (1, .int a1), (2, .int a2), (3, .int a3)]) C dX8_phases_8 (by decide) rfl rfl ?_
    refine g_aload_n C rfl dX8_phases_10 rfl ?_
    refine g_iload_n C rfl dX8_phases_11 rfl ?_
    refine g_callVQ C tw_638 tw_640 tp_10 tw_1 tw_641 hy_X8_sheetOf (by decide) (by decide) rfl (Nat.le_of_ble_eq_true rfl) rfl rfl (ct_X8_sheetOf V_l1 V_l2 V_m1 V_m2 V_x8   f a2 ) dX8_phases_12 rfl rfl (fun hv4 => ?_) (fun k3 hv4 => ?_)
    · replace h := h.1 hv4
      refine g_astoreN (lv' := [(5, .null), (4, .null), (0, .ref (zad Z 0)), (1, .int a1), (2, .int a2), (3, .int a3)]) C dX8_phases_15 (by decide) rfl rfl ?_
      refine g_aloadN C rfl dX8_phases_17 rfl ?_
      refine g_ifnull_n (q := 36) C dX8_phases_19 (by decide) ?_
      refine g_lps [0] rfl ?_
      exact wk_X8_phases_L36 V_l1 V_l2 V_m1 V_m2 V_x8  C    _  h
    · replace h := h.2 k3 hv4
      refine g_astore (lv' := [(5, .ref (zad Z k3)), (4, .null), (0, .ref (zad Z 0)), (1, .int a1), (2, .int a2), (3, .int a3)]) C dX8_phases_15 (by decide) rfl rfl ?_
      refine g_aloadN C rfl dX8_phases_17 rfl ?_
      refine g_ifnull_n (q := 36) C dX8_phases_19 (by decide) ?_
      refine g_lps [0] rfl ?_
      exact wk_X8_phases_L36 V_l1 V_l2 V_m1 V_m2 V_x8  C    _  h
  · replace h := h.2 k1 hv2
    refine g_astore (lv' := [(4, .ref (zad Z k1)), (0, .ref (zad Z 0)), (1, .int a1), (2, .int a2), (3, .int a3)]) C dX8_phases_8 (by decide) rfl rfl ?_
    refine g_aload_n C rfl dX8_phases_10 rfl ?_
    refine g_iload_n C rfl dX8_phases_11 rfl ?_
    refine g_callVQ C tw_638 tw_640 tp_10 tw_1 tw_641 hy_X8_sheetOf (by decide) (by decide) rfl (Nat.le_of_ble_eq_true rfl) rfl rfl (ct_X8_sheetOf V_l1 V_l2 V_m1 V_m2 V_x8   f a2 ) dX8_phases_12 rfl rfl (fun hv9 => ?_) (fun k8 hv9 => ?_)
    · replace h := h.1 hv9
      refine g_astoreN (lv' := [(5, .null), (4, .ref (zad Z k1)), (0, .ref (zad Z 0)), (1, .int a1), (2, .int a2), (3, .int a3)]) C dX8_phases_15 (by decide) rfl rfl ?_
      refine g_aload C rfl dX8_phases_17 rfl ?_
      refine g_ifnull_r (q := 22) C dX8_phases_19 rfl ?_
      refine g_aloadN C rfl dX8_phases_22 rfl ?_
      refine g_ifnull_n (q := 36) C dX8_phases_24 (by decide) ?_
      refine g_lps [0] rfl ?_
      exact wk_X8_phases_L36 V_l1 V_l2 V_m1 V_m2 V_x8  C    _  h
    · replace h := h.2 k8 hv9
      refine g_astore (lv' := [(5, .ref (zad Z k8)), (4, .ref (zad Z k1)), (0, .ref (zad Z 0)), (1, .int a1), (2, .int a2), (3, .int a3)]) C dX8_phases_15 (by decide) rfl rfl ?_
      refine g_aload C rfl dX8_phases_17 rfl ?_
      refine g_ifnull_r (q := 22) C dX8_phases_19 rfl ?_
      refine g_aload C rfl dX8_phases_22 rfl ?_
      refine g_ifnull_r (q := 27) C dX8_phases_24 rfl ?_
      refine g_iload_n C rfl dX8_phases_27 rfl ?_
      refine g_iconst C ki_0 dX8_phases_28 rfl ?_
      refine g_iconst C ki_1 dX8_phases_29 rfl ?_
      refine g_callSD C tw_328 tw_322 tw_1 tw_323 hy_X8_within (by decide) (by decide) rfl (Nat.le_of_ble_eq_true rfl) (ct_X8_within V_l1   f a3 (0 : Int32) (1 : Int32) ) dX8_phases_30 rfl rfl ?_
      refine g_if_ne (tgt := 42) C dX8_phases_33 (by decide) rfl (fun hc10 => ?_) (fun hc10 => ?_)
      · replace h := h.1 hc10
        refine g_aload C rfl dX8_phases_42 rfl ?_
        have hs11 := h.1
        replace h := h.2
        refine g_callVD C tw_642 tw_643 tw_644 tw_9 tw_645 hy_X3_isMissing (by decide) (by decide) rfl (Nat.le_of_ble_eq_true rfl) hs11.1 rfl (ct_X3_isMissing V_l1 k8 hs11 f ) dX8_phases_44 rfl rfl ?_
        refine g_if_eq (tgt := 56) C dX8_phases_47 (by decide) rfl (fun hc12 => ?_) (fun hc12 => ?_)
        · replace h := h.1 hc12
          refine g_aload_n C rfl dX8_phases_56 rfl ?_
          refine fg_X8_24R (k := 0) (p := 37) C rfl rfl dX8_phases_57 rfl ?_
          refine g_aload C rfl dX8_phases_60 rfl ?_
          have hs13 := h.1
          replace h := h.2
          refine g_callVV C tw_487 tw_488 tw_489 tw_6 tw_490 hy_X5_start (by decide) (by decide) rfl (Nat.le_of_ble_eq_true rfl) rfl rfl (ct_X5_start V_l1 V_l2 k1 hs13 f ) dX8_phases_62 rfl rfl (fun f14 hp15 => ?_)
          replace h := h f14 hp15
          refine g_aload_n C rfl dX8_phases_65 rfl ?_
          refine fg_X8_24R (k := 0) (p := 37) C rfl rfl dX8_phases_66 rfl ?_
          refine g_aload C rfl dX8_phases_69 rfl ?_
          refine g_iconst C ki_0 dX8_phases_71 rfl ?_
          have hs16 := h.1
          replace h := h.2
          refine g_callVI C tw_646 tw_647 tw_648 tw_6 tw_649 hy_X5_firstPhase (by decide) (by decide) rfl (Nat.le_of_ble_eq_true rfl) rfl rfl (ct_X5_firstPhase V_l1 V_l2 k8 hs11 f14 (0 : Int32) hs16) dX8_phases_72 rfl rfl (fun r17 f18 hp19 => ?_)
          replace h := h r17 f18 hp19
          refine g_istore (lv' := [(6, .int r17), (5, .ref (zad Z k8)), (4, .ref (zad Z k1)), (0, .ref (zad Z 0)), (1, .int a1), (2, .int a2), (3, .int a3)]) C dX8_phases_75 (by decide) rfl rfl ?_
          refine g_iload_n C rfl dX8_phases_77 rfl ?_
          refine g_if_eq (tgt := 86) C dX8_phases_78 (by decide) rfl (fun hc20 => ?_) (fun hc20 => ?_)
          · replace h := h.1 hc20
            refine g_lps [0, 6] rfl ?_
            exact wk_X8_phases_L86 V_l1 V_l2 V_m1 V_m2 V_x8  C    _ _ h
          · replace h := h.2 hc20
            refine g_iload C rfl dX8_phases_81 rfl ?_
            refine g_if_ge (tgt := 95) C dX8_phases_83 (by decide) rfl (fun hc24 => ?_) (fun hc24 => ?_)
            · replace h := h.1 hc24
              refine g_aload_n C rfl dX8_phases_95 rfl ?_
              refine fg_X8_24R (k := 0) (p := 37) C rfl rfl dX8_phases_96 rfl ?_
              refine g_aload C rfl dX8_phases_99 rfl ?_
              have hs25 := h.1
              replace h := h.2
              refine g_callVI C tw_658 tw_659 tw_660 tw_6 tw_661 hy_X5_howManyPhases (by decide) (by decide) rfl (Nat.le_of_ble_eq_true rfl) rfl rfl (ct_X5_howManyPhases V_l1 V_l2 k8 hs11 f18 hs25) dX8_phases_101 rfl rfl (fun r26 f27 hp28 => ?_)
              replace h := h r26 f27 hp28
              exact g_iret C dX8_phases_104 h
            · replace h := h.2 hc24
              refine g_lps [0, 6] rfl ?_
              exact wk_X8_phases_L86 V_l1 V_l2 V_m1 V_m2 V_x8  C    _ _ h
        · replace h := h.2 hc12
          refine g_aload_n C rfl dX8_phases_50 rfl ?_
          refine g_iconst C ki_2 dX8_phases_51 rfl ?_
          refine g_callVI C tw_324 tw_326 tp_0 tw_1 tw_327 hy_X8_error (by decide) (by decide) rfl (Nat.le_of_ble_eq_true rfl) rfl rfl (ct_X8_error V_l1 V_l2 V_m1 V_m2 V_x8   f (2 : Int32) ) dX8_phases_52 rfl rfl (fun r29 f30 hp31 => ?_)
          replace h := h r29 f30 hp31
          exact g_iret C dX8_phases_55 h
      · replace h := h.2 hc10
        refine g_lps [0] rfl ?_
        exact wk_X8_phases_L36 V_l1 V_l2 V_m1 V_m2 V_x8  C    _  h
set_option maxRecDepth 100000 in
theorem ct_X8_phases (V_l1 : VC_l1) (V_l2 : VC_l2) (V_m1 : VC_m1) (V_m2 : VC_m2) (V_x8 : VC_x8) {l : Launch} {E : Ev}   (f : Fn) (a1 : Int32) (a2 : Int32) (a3 : Int32) (hpre : Pre_X8_phases f a1 a2 a3) : CT l E layC yX8_phases cX8_phases 7 (some .int) 6 [.ref (E.2.1 0), .int a1, .int a2, .int a3] f (pI (Post_X8_phases f a1 a2 a3)) := by
  refine CT.of (by decide +kernel) (Nat.le_of_ble_eq_true rfl) (fun Z hl9 hE9 hp9 C => ?_)
  subst hl9
  subst hE9
  exact wk_X8_phases V_l1 V_l2 V_m1 V_m2 V_x8 C   f a1 a2 a3 (by rw [hp9]; exact V_x8.2.2.2.2.2.2.2.2.2.2.2.2.2.2.2.2.2.2.2.2.2.2.2.2.2.2.2.2.2.2.2.2.1  f a1 a2 a3  hpre)
set_option maxHeartbeats 4000000 in
set_option maxRecDepth 100000 in
theorem wk_X8_late_L25 (V_l1 : VC_l1) (V_l2 : VC_l2) (V_m1 : VC_m1) (V_m2 : VC_m2) (V_x8 : VC_x8) {Z : Zt}  (C : CX Z layC RX8 cX8_late 5 (some .int) 5)     (f : Fn)  (h : wp_X8_late_L25   f  (zp Z)) : GG Z f [(0, .ref (zad Z 0))] 25 [] := by
  refine g_aload_n C rfl dX8_late_25 rfl ?_
  refine g_iconst C ki_1 dX8_late_26 rfl ?_
  refine g_callVI C tw_324 tw_326 tp_0 tw_1 tw_327 hy_X8_error (by decide) (by decide) rfl (Nat.le_of_ble_eq_true rfl) rfl rfl (ct_X8_error V_l1 V_l2 V_m1 V_m2 V_x8   f (1 : Int32) ) dX8_late_27 rfl rfl (fun r5 f6 hp7 => ?_)
  replace h := h r5 f6 hp7
  exact g_iret C dX8_late_30 h
set_option maxHeartbeats 4000000 in
set_option maxRecDepth 100000 in
theorem wk_X8_late (V_l1 : VC_l1) (V_l2 : VC_l2) (V_m1 : VC_m1) (V_m2 : VC_m2) (V_x8 : VC_x8) {Z : Zt}  (C : CX Z layC RX8 cX8_late 5 (some .int) 5)     (f : Fn) (a1 : Int32) (a2 : Int32) (h : wp_X8_late  f a1 a2 (zp Z)) : GG Z f [(0, .ref (zad Z 0)), (1, .int a1), (2, .int a2)] 0 [] := by
  refine g_aload_n C rfl dX8_late_0 rfl ?_
  refine fg_X8_10R (k := 0) (p := 1) C rfl rfl dX8_late_1 rfl ?_
  refine g_iload_n C rfl dX8_late_4 rfl ?_
  refine g_callVQ C tw_362 tw_363 tw_364 tw_2 tw_365 hy_X7_flyerOf (by decide) (by decide) rfl (Nat.le_of_ble_eq_true rfl) rfl rfl (ct_X7_flyerOf V_l1 V_l2   f a1 ) dX8_late_5 rfl rfl (fun hv2 => ?_) (fun k1 hv2 => ?_)
  · replace h := h.1 hv2
    refine g_astore_nN (lv' := [(3, .null), (0, .ref (zad Z 0)), (1, .int a1), (2, .int a2)]) C dX8_late_8 (by decide) rfl rfl ?_
    refine g_aload_n C rfl dX8_late_9 rfl ?_
    refine g_iload_n C rfl dX8_late_10 rfl ?_
    refine g_callVQ C tw_638 tw_640 tp_10 tw_1 tw_641 hy_X8_sheetOf (by decide) (by decide) rfl (Nat.le_of_ble_eq_true rfl) rfl rfl (ct_X8_sheetOf V_l1 V_l2 V_m1 V_m2 V_x8   f a2 ) dX8_late_11 rfl rfl (fun hv4 => ?_) (fun k3 hv4 => ?_)
    · replace h := h.1 hv4
      refine g_astoreN (lv' := [(4, .null), (3, .null), (0, .ref (zad Z 0)), (1, .int a1), (2, .int a2)]) C dX8_late_14 (by decide) rfl rfl ?_
      refine g_aload_nN C rfl dX8_late_16 rfl ?_
      refine g_ifnull_n (q := 25) C dX8_late_17 (by decide) ?_
      refine g_lps [0] rfl ?_
      exact wk_X8_late_L25 V_l1 V_l2 V_m1 V_m2 V_x8  C    _  h
    · replace h := h.2 k3 hv4
      refine g_astore (lv' := [(4, .ref (zad Z k3)), (3, .null), (0, .ref (zad Z 0)), (1, .int a1), (2, .int a2)]) C dX8_late_14 (by decide) rfl rfl ?_
      refine g_aload_nN C rfl dX8_late_16 rfl ?_
      refine g_ifnull_n (q := 25) C dX8_late_17 (by decide) ?_
      refine g_lps [0] rfl ?_
      exact wk_X8_late_L25 V_l1 V_l2 V_m1 V_m2 V_x8  C    _  h
  · replace h := h.2 k1 hv2
    refine g_astore_n (lv' := [(3, .ref (zad Z k1)), (0, .ref (zad Z 0)), (1, .int a1), (2, .int a2)]) C dX8_late_8 (by decide) rfl rfl ?_
    refine g_aload_n C rfl dX8_late_9 rfl ?_
    refine g_iload_n C rfl dX8_late_10 rfl ?_
    refine g_callVQ C tw_638 tw_640 tp_10 tw_1 tw_641 hy_X8_sheetOf (by decide) (by decide) rfl (Nat.le_of_ble_eq_true rfl) rfl rfl (ct_X8_sheetOf V_l1 V_l2 V_m1 V_m2 V_x8   f a2 ) dX8_late_11 rfl rfl (fun hv9 => ?_) (fun k8 hv9 => ?_)
    · replace h := h.1 hv9
      refine g_astoreN (lv' := [(4, .null), (3, .ref (zad Z k1)), (0, .ref (zad Z 0)), (1, .int a1), (2, .int a2)]) C dX8_late_14 (by decide) rfl rfl ?_
      refine g_aload_n C rfl dX8_late_16 rfl ?_
      refine g_ifnull_r (q := 20) C dX8_late_17 rfl ?_
      refine g_aloadN C rfl dX8_late_20 rfl ?_
      refine g_ifnonnull_n (q := 25) C dX8_late_22 rfl ?_
      refine g_lps [0] rfl ?_
      exact wk_X8_late_L25 V_l1 V_l2 V_m1 V_m2 V_x8  C    _  h
    · replace h := h.2 k8 hv9
      refine g_astore (lv' := [(4, .ref (zad Z k8)), (3, .ref (zad Z k1)), (0, .ref (zad Z 0)), (1, .int a1), (2, .int a2)]) C dX8_late_14 (by decide) rfl rfl ?_
      refine g_aload_n C rfl dX8_late_16 rfl ?_
      refine g_ifnull_r (q := 20) C dX8_late_17 rfl ?_
      refine g_aload C rfl dX8_late_20 rfl ?_
      refine g_ifnonnull_r (q := 31) C dX8_late_22 (by decide) ?_
      refine g_aload C rfl dX8_late_31 rfl ?_
      have hs10 := h.1
      replace h := h.2
      refine g_callVD C tw_642 tw_643 tw_644 tw_9 tw_645 hy_X3_isMissing (by decide) (by decide) rfl (Nat.le_of_ble_eq_true rfl) hs10.1 rfl (ct_X3_isMissing V_l1 k8 hs10 f ) dX8_late_33 rfl rfl ?_
      refine g_if_eq (tgt := 45) C dX8_late_36 (by decide) rfl (fun hc11 => ?_) (fun hc11 => ?_)
      · replace h := h.1 hc11
        refine g_aload_n C rfl dX8_late_45 rfl ?_
        refine fg_X8_24R (k := 0) (p := 37) C rfl rfl dX8_late_46 rfl ?_
        refine g_aload_n C rfl dX8_late_49 rfl ?_
        have hs12 := h.1
        replace h := h.2
        refine g_callVV C tw_487 tw_488 tw_489 tw_6 tw_490 hy_X5_start (by decide) (by decide) rfl (Nat.le_of_ble_eq_true rfl) rfl rfl (ct_X5_start V_l1 V_l2 k1 hs12 f ) dX8_late_50 rfl rfl (fun f13 hp14 => ?_)
        replace h := h f13 hp14
        refine g_aload_n C rfl dX8_late_53 rfl ?_
        refine g_aload_n C rfl dX8_late_54 rfl ?_
        refine fg_X8_24R (k := 0) (p := 37) C rfl rfl dX8_late_55 rfl ?_
        refine g_aload C rfl dX8_late_58 rfl ?_
        have hs15 := h.1
        replace h := h.2
        refine g_callVI C tw_667 tw_668 tw_669 tw_6 tw_670 hy_X5_leastLag (by decide) (by decide) rfl (Nat.le_of_ble_eq_true rfl) rfl rfl (ct_X5_leastLag V_l1 V_l2 k8 hs10 f13 hs15) dX8_late_60 rfl rfl (fun r16 f17 hp18 => ?_)
        replace h := h r16 f17 hp18
        refine g_callVI C tw_565 tw_567 tp_9 tw_1 tw_568 hy_X8_orNone (by decide) (by decide) rfl (Nat.le_of_ble_eq_true rfl) rfl rfl (ct_X8_orNone V_l1 V_l2 V_m1 V_m2 V_x8   f17 r16 ) dX8_late_63 rfl rfl (fun r19 f20 hp21 => ?_)
        replace h := h r19 f20 hp21
        exact g_iret C dX8_late_66 h
      · replace h := h.2 hc11
        refine g_aload_n C rfl dX8_late_39 rfl ?_
        refine g_iconst C ki_2 dX8_late_40 rfl ?_
        refine g_callVI C tw_324 tw_326 tp_0 tw_1 tw_327 hy_X8_error (by decide) (by decide) rfl (Nat.le_of_ble_eq_true rfl) rfl rfl (ct_X8_error V_l1 V_l2 V_m1 V_m2 V_x8   f (2 : Int32) ) dX8_late_41 rfl rfl (fun r22 f23 hp24 => ?_)
        replace h := h r22 f23 hp24
        exact g_iret C dX8_late_44 h
set_option maxRecDepth 100000 in
theorem ct_X8_late (V_l1 : VC_l1) (V_l2 : VC_l2) (V_m1 : VC_m1) (V_m2 : VC_m2) (V_x8 : VC_x8) {l : Launch} {E : Ev}   (f : Fn) (a1 : Int32) (a2 : Int32) (hpre : Pre_X8_late f a1 a2) : CT l E layC yX8_late cX8_late 5 (some .int) 5 [.ref (E.2.1 0), .int a1, .int a2] f (pI (Post_X8_late f a1 a2)) := by
  refine CT.of (by decide +kernel) (Nat.le_of_ble_eq_true rfl) (fun Z hl9 hE9 hp9 C => ?_)
  subst hl9
  subst hE9
  exact wk_X8_late V_l1 V_l2 V_m1 V_m2 V_x8 C   f a1 a2 (by rw [hp9]; exact V_x8.2.2.2.2.2.2.2.2.2.2.2.2.2.2.2.2.2.2.2.2.2.2.2.2.2.2.2.2.2.2.2.2.2.1  f a1 a2  hpre)
set_option maxHeartbeats 4000000 in
set_option maxRecDepth 100000 in
theorem wk_X8_seed (V_l1 : VC_l1) (V_l2 : VC_l2) (V_m1 : VC_m1) (V_m2 : VC_m2) (V_x8 : VC_x8) {Z : Zt}  (C : CX Z layC RX8 cX8_seed 3 (some .int) 0)     (f : Fn) (a1 : Int32) (h : wp_X8_seed  f a1 (zp Z)) : GG Z f [(0, .ref (zad Z 0)), (1, .int a1)] 0 [] := by
  refine g_aload_n C rfl dX8_seed_0 rfl ?_
  refine fg_X8_10R (k := 0) (p := 1) C rfl rfl dX8_seed_1 rfl ?_
  refine fg_X8_257I (k := 1) (x := (f 1 15)) C rfl rfl rfl dX8_seed_4 rfl ?_
  refine g_istore_n (lv' := [(2, .int (f 1 15)), (0, .ref (zad Z 0)), (1, .int a1)]) C dX8_seed_7 (by decide) rfl rfl ?_
  refine g_aload_n C rfl dX8_seed_8 rfl ?_
  refine fg_X8_10R (k := 0) (p := 1) C rfl rfl dX8_seed_9 rfl ?_
  refine g_iload_n C rfl dX8_seed_12 rfl ?_
  refine fp_X8_257 (k := 1) C rfl rfl (Nat.le_of_ble_eq_true rfl) dX8_seed_13 rfl ?_
  refine g_iload_n C rfl dX8_seed_16 rfl ?_
  exact g_iret C dX8_seed_17 h
set_option maxRecDepth 100000 in
theorem ct_X8_seed (V_l1 : VC_l1) (V_l2 : VC_l2) (V_m1 : VC_m1) (V_m2 : VC_m2) (V_x8 : VC_x8) {l : Launch} {E : Ev}   (f : Fn) (a1 : Int32) (hpre : Pre_X8_seed f a1) : CT l E layC yX8_seed cX8_seed 3 (some .int) 0 [.ref (E.2.1 0), .int a1] f (pI (Post_X8_seed f a1)) := by
  refine CT.of (by decide +kernel) (Nat.le_of_ble_eq_true rfl) (fun Z hl9 hE9 hp9 C => ?_)
  subst hl9
  subst hE9
  exact wk_X8_seed V_l1 V_l2 V_m1 V_m2 V_x8 C   f a1 (by rw [hp9]; exact V_x8.2.2.2.2.2.2.2.2.2.2.2.2.2.2.2.2.2.2.2.2.2.2.2.2.2.2.2.2.2.2.2.2.2.2.1  f a1  hpre)
set_option maxHeartbeats 4000000 in
set_option maxRecDepth 100000 in
theorem wk_X8_voice_L24 (V_l1 : VC_l1) (V_l2 : VC_l2) (V_m1 : VC_m1) (V_m2 : VC_m2) (V_x8 : VC_x8) {Z : Zt}  (C : CX Z layC RX8 cX8_voice 5 (some .int) 23)     (f : Fn)  (h : wp_X8_voice_L24   f  (zp Z)) : GG Z f [(0, .ref (zad Z 0))] 24 [] := by
  refine g_aload_n C rfl dX8_voice_24 rfl ?_
  refine g_iconst C ki_1 dX8_voice_25 rfl ?_
  refine g_callVI C tw_324 tw_326 tp_0 tw_1 tw_327 hy_X8_error (by decide) (by decide) rfl (Nat.le_of_ble_eq_true rfl) rfl rfl (ct_X8_error V_l1 V_l2 V_m1 V_m2 V_x8   f (1 : Int32) ) dX8_voice_26 rfl rfl (fun r3 f4 hp5 => ?_)
  replace h := h r3 f4 hp5
  exact g_iret C dX8_voice_29 h
set_option maxHeartbeats 4000000 in
set_option maxRecDepth 100000 in
theorem wk_X8_voice (V_l1 : VC_l1) (V_l2 : VC_l2) (V_m1 : VC_m1) (V_m2 : VC_m2) (V_x8 : VC_x8) {Z : Zt}  (C : CX Z layC RX8 cX8_voice 5 (some .int) 23)     (f : Fn) (a1 : Int32) (a2 : Int32) (a3 : Int32) (h : wp_X8_voice  f a1 a2 a3 (zp Z)) : GG Z f [(0, .ref (zad Z 0)), (1, .int a1), (2, .int a2), (3, .int a3)] 0 [] := by
  refine g_aload_n C rfl dX8_voice_0 rfl ?_
  refine fg_X8_10R (k := 0) (p := 1) C rfl rfl dX8_voice_1 rfl ?_
  refine g_iload_n C rfl dX8_voice_4 rfl ?_
  refine g_callVQ C tw_362 tw_363 tw_364 tw_2 tw_365 hy_X7_flyerOf (by decide) (by decide) rfl (Nat.le_of_ble_eq_true rfl) rfl rfl (ct_X7_flyerOf V_l1 V_l2   f a1 ) dX8_voice_5 rfl rfl (fun hv2 => ?_) (fun k1 hv2 => ?_)
  · replace h := h.1 hv2
    refine g_astoreN (lv' := [(4, .null), (0, .ref (zad Z 0)), (1, .int a1), (2, .int a2), (3, .int a3)]) C dX8_voice_8 (by decide) rfl rfl ?_
    refine g_aloadN C rfl dX8_voice_10 rfl ?_
    refine g_ifnull_n (q := 24) C dX8_voice_12 (by decide) ?_
    refine g_lps [0] rfl ?_
    exact wk_X8_voice_L24 V_l1 V_l2 V_m1 V_m2 V_x8  C    _  h
  · replace h := h.2 k1 hv2
    refine g_astore (lv' := [(4, .ref (zad Z k1)), (0, .ref (zad Z 0)), (1, .int a1), (2, .int a2), (3, .int a3)]) C dX8_voice_8 (by decide) rfl rfl ?_
    refine g_aload C rfl dX8_voice_10 rfl ?_
    refine g_ifnull_r (q := 15) C dX8_voice_12 rfl ?_
    refine g_iload_n C rfl dX8_voice_15 rfl ?_
    refine g_iconst C ki_0 dX8_voice_16 rfl ?_
    refine g_iconst C ki_3 dX8_voice_17 rfl ?_
    refine g_callSD C tw_328 tw_322 tw_1 tw_323 hy_X8_within (by decide) (by decide) rfl (Nat.le_of_ble_eq_true rfl) (ct_X8_within V_l1   f a2 (0 : Int32) (3 : Int32) ) dX8_voice_18 rfl rfl ?_
    refine g_if_ne (tgt := 30) C dX8_voice_21 (by decide) rfl (fun hc6 => ?_) (fun hc6 => ?_)
    · replace h := h.1 hc6
      refine g_aload_n C rfl dX8_voice_30 rfl ?_
      refine fg_X8_38R (k := 0) (p := 44) C rfl rfl dX8_voice_31 rfl ?_
      refine g_iload_n C rfl dX8_voice_34 rfl ?_
      refine g_aload C rfl dX8_voice_35 rfl ?_
      refine g_iload_n C rfl dX8_voice_37 rfl ?_
      refine g_iload_n C rfl dX8_voice_38 rfl ?_
      have hs7 := h.1
      replace h := h.2
      have hs8 := h.1
      replace h := h.2
      refine g_callVI C tw_679 tw_680 tw_681 tw_8 tw_682 hy_X6_speak (by decide) (by decide) rfl (Nat.le_of_ble_eq_true rfl) rfl rfl (ct_X6_speak V_l1 V_l2 k1 hs7 f a1 a2 a3 hs8) dX8_voice_39 rfl rfl (fun r9 f10 hp11 => ?_)
      replace h := h r9 f10 hp11
      exact g_iret C dX8_voice_42 h
    · replace h := h.2 hc6
      refine g_lps [0] rfl ?_
      exact wk_X8_voice_L24 V_l1 V_l2 V_m1 V_m2 V_x8  C    _  h
set_option maxRecDepth 100000 in
theorem ct_X8_voice (V_l1 : VC_l1) (V_l2 : VC_l2) (V_m1 : VC_m1) (V_m2 : VC_m2) (V_x8 : VC_x8) {l : Launch} {E : Ev}   (f : Fn) (a1 : Int32) (a2 : Int32) (a3 : Int32) (hpre : Pre_X8_voice f a1 a2 a3) : CT l E layC yX8_voice cX8_voice 5 (some .int) 23 [.ref (E.2.1 0), .int a1, .int a2, .int a3] f (pI (Post_X8_voice f a1 a2 a3)) := by
  refine CT.of (by decide +kernel) (Nat.le_of_ble_eq_true rfl) (fun Z hl9 hE9 hp9 C => ?_)
  subst hl9
  subst hE9
  exact wk_X8_voice V_l1 V_l2 V_m1 V_m2 V_x8 C   f a1 a2 a3 (by rw [hp9]; exact V_x8.2.2.2.2.2.2.2.2.2.2.2.2.2.2.2.2.2.2.2.2.2.2.2.2.2.2.2.2.2.2.2.2.2.2.2.1  f a1 a2 a3  hpre)
set_option maxHeartbeats 4000000 in
set_option maxRecDepth 100000 in
theorem wk_X8_trace (V_l1 : VC_l1) (V_l2 : VC_l2) (V_m1 : VC_m1) (V_m2 : VC_m2) (V_x8 : VC_x8) {Z : Zt}  (C : CX Z layC RX8 cX8_trace 2 (some .int) 2)     (f : Fn) (a1 : Int32) (h : wp_X8_trace  f a1 (zp Z)) : GG Z f [(0, .ref (zad Z 0)), (1, .int a1)] 0 [] := by
  refine g_iload_n C rfl dX8_trace_0 rfl ?_
  refine g_iconst C ki_0 dX8_trace_1 rfl ?_
  refine g_aload_n C rfl dX8_trace_2 rfl ?_
  refine fg_X8_38R (k := 0) (p := 44) C rfl rfl dX8_trace_3 rfl ?_
  refine fg_X8_264I (k := 44) (x := (f 44 1)) C rfl rfl rfl dX8_trace_6 rfl ?_
  refine g_iconst C ki_1 dX8_trace_9 rfl ?_
  refine g_isub C dX8_trace_10 rfl ?_
  refine g_callSD C tw_328 tw_322 tw_1 tw_323 hy_X8_within (by decide) (by decide) rfl (Nat.le_of_ble_eq_true rfl) (ct_X8_within V_l1   f a1 (0 : Int32) ((f 44 1) - (1 : Int32)) ) dX8_trace_11 rfl rfl ?_
  refine g_if_ne (tgt := 23) C dX8_trace_14 (by decide) rfl (fun hc1 => ?_) (fun hc1 => ?_)
  · replace h := h.1 hc1
    refine g_aload_n C rfl dX8_trace_23 rfl ?_
    refine fg_X8_38R (k := 0) (p := 44) C rfl rfl dX8_trace_24 rfl ?_
    refine g_iload_n C rfl dX8_trace_27 rfl ?_
    refine g_callVD C tw_706 tw_707 tw_708 tw_8 tw_709 hy_X6_bodyAt (by decide) (by decide) rfl (Nat.le_of_ble_eq_true rfl) rfl rfl (ct_X6_bodyAt V_l1 V_l2   f a1 ) dX8_trace_28 rfl rfl ?_
    exact g_iret C dX8_trace_31 h
  · replace h := h.2 hc1
    refine g_aload_n C rfl dX8_trace_17 rfl ?_
    refine g_iconst C ki_2 dX8_trace_18 rfl ?_
    refine g_callVI C tw_324 tw_326 tp_0 tw_1 tw_327 hy_X8_error (by decide) (by decide) rfl (Nat.le_of_ble_eq_true rfl) rfl rfl (ct_X8_error V_l1 V_l2 V_m1 V_m2 V_x8   f (2 : Int32) ) dX8_trace_19 rfl rfl (fun r2 f3 hp4 => ?_)
    replace h := h r2 f3 hp4
    exact g_iret C dX8_trace_22 h
set_option maxRecDepth 100000 in
theorem ct_X8_trace (V_l1 : VC_l1) (V_l2 : VC_l2) (V_m1 : VC_m1) (V_m2 : VC_m2) (V_x8 : VC_x8) {l : Launch} {E : Ev}   (f : Fn) (a1 : Int32) (hpre : Pre_X8_trace f a1) : CT l E layC yX8_trace cX8_trace 2 (some .int) 2 [.ref (E.2.1 0), .int a1] f (pI (Post_X8_trace f a1)) := by
  refine CT.of (by decide +kernel) (Nat.le_of_ble_eq_true rfl) (fun Z hl9 hE9 hp9 C => ?_)
  subst hl9
  subst hE9
  exact wk_X8_trace V_l1 V_l2 V_m1 V_m2 V_x8 C   f a1 (by rw [hp9]; exact V_x8.2.2.2.2.2.2.2.2.2.2.2.2.2.2.2.2.2.2.2.2.2.2.2.2.2.2.2.2.2.2.2.2.2.2.2.2.1  f a1  hpre)
set_option maxHeartbeats 4000000 in
set_option maxRecDepth 100000 in
theorem wk_X8_sheet_L34 (V_l1 : VC_l1) (V_l2 : VC_l2) (V_m1 : VC_m1) (V_m2 : VC_m2) (V_x8 : VC_x8) {Z : Zt}  (C : CX Z layC RX8 cX8_sheet 5 (some .int) 2)     (f : Fn)  (h : wp_X8_sheet_L34   f  (zp Z)) : GG Z f [(0, .ref (zad Z 0))] 34 [] := by
  refine g_aload_n C rfl dX8_sheet_34 rfl ?_
  refine g_iconst C ki_1 dX8_sheet_35 rfl ?_
  refine g_callVI C tw_324 tw_326 tp_0 tw_1 tw_327 hy_X8_error (by decide) (by decide) rfl (Nat.le_of_ble_eq_true rfl) rfl rfl (ct_X8_error V_l1 V_l2 V_m1 V_m2 V_x8   f (1 : Int32) ) dX8_sheet_36 rfl rfl (fun r3 f4 hp5 => ?_)
  replace h := h r3 f4 hp5
  exact g_iret C dX8_sheet_39 h
set_option maxHeartbeats 4000000 in
set_option maxRecDepth 100000 in
theorem wk_X8_sheet_L70 (V_l1 : VC_l1) (V_l2 : VC_l2) (V_m1 : VC_m1) (V_m2 : VC_m2) (V_x8 : VC_x8) {Z : Zt}  (C : CX Z layC RX8 cX8_sheet 5 (some .int) 2)     (f : Fn) (x2 : Int32) (x3 : Int32) (px4 : Nat) (h : wp_X8_sheet_L70   f x2 x3 px4 (zp Z)) : GG Z f [(2, .int x2), (3, .int x3), (4, .ref (zad Z px4))] 70 [] := by
  refine g_aload C rfl dX8_sheet_70 rfl ?_
  refine g_iload_n C rfl dX8_sheet_72 rfl ?_
  refine g_iload_n C rfl dX8_sheet_73 rfl ?_
  have hs9 := h.1
  replace h := h.2
  refine g_callVV C tw_714 tw_715 tw_716 tw_9 tw_717 hy_X3_begin (by decide) (by decide) rfl (Nat.le_of_ble_eq_true rfl) hs9.1 rfl (ct_X3_begin V_l1 px4 hs9 f x2 x3 ) dX8_sheet_74 rfl rfl (fun f10 hp11 => ?_)
  replace h := h f10 hp11
  refine g_iconst C ki_1 dX8_sheet_77 rfl ?_
  exact g_iret C dX8_sheet_78 h
set_option maxHeartbeats 4000000 in
set_option maxRecDepth 100000 in
theorem wk_X8_sheet_L54 (V_l1 : VC_l1) (V_l2 : VC_l2) (V_m1 : VC_m1) (V_m2 : VC_m2) (V_x8 : VC_x8) {Z : Zt}  (C : CX Z layC RX8 cX8_sheet 5 (some .int) 2)     (f : Fn) (x2 : Int32) (x3 : Int32) (px4 : Nat) (h : wp_X8_sheet_L54   f x2 x3 px4 (zp Z)) : GG Z f [(0, .ref (zad Z 0)), (2, .int x2), (3, .int x3), (4, .ref (zad Z px4))] 54 [] := by
  refine g_iload_n C rfl dX8_sheet_54 rfl ?_
  refine g_if_eq (tgt := 70) C dX8_sheet_55 (by decide) rfl (fun hc8 => ?_) (fun hc8 => ?_)
  · replace h := h.1 hc8
    refine g_lps [2, 3, 4] rfl ?_
    exact wk_X8_sheet_L70 V_l1 V_l2 V_m1 V_m2 V_x8  C    _ _ _ _ h
  · replace h := h.2 hc8
    refine g_iload_n C rfl dX8_sheet_58 rfl ?_
    refine g_bipush C kb_40 dX8_sheet_59 rfl ?_
    refine g_icmp_le (tgt := 70) C dX8_sheet_61 (by decide) rfl (fun hc12 => ?_) (fun hc12 => ?_)
    · replace h := h.1 hc12
      refine g_lps [2, 3, 4] rfl ?_
      exact wk_X8_sheet_L70 V_l1 V_l2 V_m1 V_m2 V_x8  C    _ _ _ _ h
    · replace h := h.2 hc12
      refine g_aload_n C rfl dX8_sheet_64 rfl ?_
      refine g_iconst C ki_1 dX8_sheet_65 rfl ?_
      refine g_callVI C tw_324 tw_326 tp_0 tw_1 tw_327 hy_X8_error (by decide) (by decide) rfl (Nat.le_of_ble_eq_true rfl) rfl rfl (ct_X8_error V_l1 V_l2 V_m1 V_m2 V_x8   f (1 : Int32) ) dX8_sheet_66 rfl rfl (fun r13 f14 hp15 => ?_)
      replace h := h r13 f14 hp15
      exact g_iret C dX8_sheet_69 h
set_option maxHeartbeats 4000000 in
set_option maxRecDepth 100000 in
theorem wk_X8_sheet_L40 (V_l1 : VC_l1) (V_l2 : VC_l2) (V_m1 : VC_m1) (V_m2 : VC_m2) (V_x8 : VC_x8) {Z : Zt}  (C : CX Z layC RX8 cX8_sheet 5 (some .int) 2)     (f : Fn) (x2 : Int32) (x3 : Int32) (px4 : Nat) (h : wp_X8_sheet_L40   f x2 x3 px4 (zp Z)) : GG Z f [(0, .ref (zad Z 0)), (2, .int x2), (3, .int x3), (4, .ref (zad Z px4))] 40 [] := by
  refine g_iload_n C rfl dX8_sheet_40 rfl ?_
  refine g_if_eq (tgt := 54) C dX8_sheet_41 (by decide) rfl (fun hc7 => ?_) (fun hc7 => ?_)
  · replace h := h.1 hc7
    exact wk_X8_sheet_L54 V_l1 V_l2 V_m1 V_m2 V_x8  C    _ _ _ _ h
  · replace h := h.2 hc7
    refine g_iload_n C rfl dX8_sheet_44 rfl ?_
    refine g_if_ge (tgt := 54) C dX8_sheet_45 (by decide) rfl (fun hc16 => ?_) (fun hc16 => ?_)
    · replace h := h.1 hc16
      exact wk_X8_sheet_L54 V_l1 V_l2 V_m1 V_m2 V_x8  C    _ _ _ _ h
    · replace h := h.2 hc16
      refine g_aload_n C rfl dX8_sheet_48 rfl ?_
      refine g_iconst C ki_3 dX8_sheet_49 rfl ?_
      refine g_callVI C tw_324 tw_326 tp_0 tw_1 tw_327 hy_X8_error (by decide) (by decide) rfl (Nat.le_of_ble_eq_true rfl) rfl rfl (ct_X8_error V_l1 V_l2 V_m1 V_m2 V_x8   f (3 : Int32) ) dX8_sheet_50 rfl rfl (fun r17 f18 hp19 => ?_)
      replace h := h r17 f18 hp19
      exact g_iret C dX8_sheet_53 h
set_option maxHeartbeats 4000000 in
set_option maxRecDepth 100000 in
theorem wk_X8_sheet (V_l1 : VC_l1) (V_l2 : VC_l2) (V_m1 : VC_m1) (V_m2 : VC_m2) (V_x8 : VC_x8) {Z : Zt}  (C : CX Z layC RX8 cX8_sheet 5 (some .int) 2)     (f : Fn) (a1 : Int32) (a2 : Int32) (a3 : Int32) (h : wp_X8_sheet  f a1 a2 a3 (zp Z)) : GG Z f [(0, .ref (zad Z 0)), (1, .int a1), (2, .int a2), (3, .int a3)] 0 [] := by
  refine g_aload_n C rfl dX8_sheet_0 rfl ?_
  refine g_iload_n C rfl dX8_sheet_1 rfl ?_
  refine g_callVQ C tw_638 tw_640 tp_10 tw_1 tw_641 hy_X8_sheetOf (by decide) (by decide) rfl (Nat.le_of_ble_eq_true rfl) rfl rfl (ct_X8_sheetOf V_l1 V_l2 V_m1 V_m2 V_x8   f a1 ) dX8_sheet_2 rfl rfl (fun hv2 => ?_) (fun k1 hv2 => ?_)
  · replace h := h.1 hv2
    refine g_astoreN (lv' := [(4, .null), (0, .ref (zad Z 0)), (1, .int a1), (2, .int a2), (3, .int a3)]) C dX8_sheet_5 (by decide) rfl rfl ?_
    refine g_aloadN C rfl dX8_sheet_7 rfl ?_
    refine g_ifnull_n (q := 34) C dX8_sheet_9 (by decide) ?_
    refine g_lps [0] rfl ?_
    exact wk_X8_sheet_L34 V_l1 V_l2 V_m1 V_m2 V_x8  C    _  h
  · replace h := h.2 k1 hv2
    refine g_astore (lv' := [(4, .ref (zad Z k1)), (0, .ref (zad Z 0)), (1, .int a1), (2, .int a2), (3, .int a3)]) C dX8_sheet_5 (by decide) rfl rfl ?_
    refine g_aload C rfl dX8_sheet_7 rfl ?_
    refine g_ifnull_r (q := 12) C dX8_sheet_9 rfl ?_
    refine g_iload_n C rfl dX8_sheet_12 rfl ?_
    refine g_if_eq (tgt := 40) C dX8_sheet_13 (by decide) rfl (fun hc6 => ?_) (fun hc6 => ?_)
    · replace h := h.1 hc6
      refine g_lps [0, 2, 3, 4] rfl ?_
      exact wk_X8_sheet_L40 V_l1 V_l2 V_m1 V_m2 V_x8  C    _ _ _ _ h
    · replace h := h.2 hc6
      refine g_iload_n C rfl dX8_sheet_16 rfl ?_
      refine g_bipush C kb_8 dX8_sheet_17 rfl ?_
      refine g_icmp_eq (tgt := 40) C dX8_sheet_19 (by decide) rfl (fun hc20 => ?_) (fun hc20 => ?_)
      · replace h := h.1 hc20
        refine g_lps [0, 2, 3, 4] rfl ?_
        exact wk_X8_sheet_L40 V_l1 V_l2 V_m1 V_m2 V_x8  C    _ _ _ _ h
      · replace h := h.2 hc20
        refine g_iload_n C rfl dX8_sheet_22 rfl ?_
        refine g_bipush C kb_16 dX8_sheet_23 rfl ?_
        refine g_icmp_eq (tgt := 40) C dX8_sheet_25 (by decide) rfl (fun hc21 => ?_) (fun hc21 => ?_)
        · replace h := h.1 hc21
          refine g_lps [0, 2, 3, 4] rfl ?_
          exact wk_X8_sheet_L40 V_l1 V_l2 V_m1 V_m2 V_x8  C    _ _ _ _ h
        · replace h := h.2 hc21
          refine g_iload_n C rfl dX8_sheet_28 rfl ?_
          refine g_bipush C kb_32 dX8_sheet_29 rfl ?_
          refine g_icmp_eq (tgt := 40) C dX8_sheet_31 (by decide) rfl (fun hc22 => ?_) (fun hc22 => ?_)
          · replace h := h.1 hc22
            refine g_lps [0, 2, 3, 4] rfl ?_
            exact wk_X8_sheet_L40 V_l1 V_l2 V_m1 V_m2 V_x8  C    _ _ _ _ h
          · replace h := h.2 hc22
            refine g_lps [0] rfl ?_
            exact wk_X8_sheet_L34 V_l1 V_l2 V_m1 V_m2 V_x8  C    _  h
set_option maxRecDepth 100000 in
theorem ct_X8_sheet (V_l1 : VC_l1) (V_l2 : VC_l2) (V_m1 : VC_m1) (V_m2 : VC_m2) (V_x8 : VC_x8) {l : Launch} {E : Ev}   (f : Fn) (a1 : Int32) (a2 : Int32) (a3 : Int32) (hpre : Pre_X8_sheet f a1 a2 a3) : CT l E layC yX8_sheet cX8_sheet 5 (some .int) 2 [.ref (E.2.1 0), .int a1, .int a2, .int a3] f (pI (Post_X8_sheet f a1 a2 a3)) := by
  refine CT.of (by decide +kernel) (Nat.le_of_ble_eq_true rfl) (fun Z hl9 hE9 hp9 C => ?_)
  subst hl9
  subst hE9
  exact wk_X8_sheet V_l1 V_l2 V_m1 V_m2 V_x8 C   f a1 a2 a3 (by rw [hp9]; exact V_x8.2.2.2.2.2.2.2.2.2.2.2.2.2.2.2.2.2.2.2.2.2.2.2.2.2.2.2.2.2.2.2.2.2.2.2.2.2.1  f a1 a2 a3  hpre)
set_option maxHeartbeats 4000000 in
set_option maxRecDepth 100000 in
theorem wk_X8_put (V_l1 : VC_l1) (V_l2 : VC_l2) (V_m1 : VC_m1) (V_m2 : VC_m2) (V_x8 : VC_x8) {Z : Zt}  (C : CX Z layC RX8 cX8_put 5 (some .int) 2)     (f : Fn) (a1 : Int32) (a2 : Int32) (a3 : Int32) (h : wp_X8_put  f a1 a2 a3 (zp Z)) : GG Z f [(0, .ref (zad Z 0)), (1, .int a1), (2, .int a2), (3, .int a3)] 0 [] := by
  refine g_aload_n C rfl dX8_put_0 rfl ?_
  refine g_iload_n C rfl dX8_put_1 rfl ?_
  refine g_callVQ C tw_638 tw_640 tp_10 tw_1 tw_641 hy_X8_sheetOf (by decide) (by decide) rfl (Nat.le_of_ble_eq_true rfl) rfl rfl (ct_X8_sheetOf V_l1 V_l2 V_m1 V_m2 V_x8   f a1 ) dX8_put_2 rfl rfl (fun hv2 => ?_) (fun k1 hv2 => ?_)
  · replace h := h.1 hv2
    refine g_astoreN (lv' := [(4, .null), (0, .ref (zad Z 0)), (1, .int a1), (2, .int a2), (3, .int a3)]) C dX8_put_5 (by decide) rfl rfl ?_
    refine g_aloadN C rfl dX8_put_7 rfl ?_
    refine g_ifnonnull_n (q := 12) C dX8_put_9 rfl ?_
    refine g_aload_n C rfl dX8_put_12 rfl ?_
    refine g_iconst C ki_1 dX8_put_13 rfl ?_
    refine g_callVI C tw_324 tw_326 tp_0 tw_1 tw_327 hy_X8_error (by decide) (by decide) rfl (Nat.le_of_ble_eq_true rfl) rfl rfl (ct_X8_error V_l1 V_l2 V_m1 V_m2 V_x8   f (1 : Int32) ) dX8_put_14 rfl rfl (fun r3 f4 hp5 => ?_)
    replace h := h r3 f4 hp5
    exact g_iret C dX8_put_17 h
  · replace h := h.2 k1 hv2
    refine g_astore (lv' := [(4, .ref (zad Z k1)), (0, .ref (zad Z 0)), (1, .int a1), (2, .int a2), (3, .int a3)]) C dX8_put_5 (by decide) rfl rfl ?_
    refine g_aload C rfl dX8_put_7 rfl ?_
    refine g_ifnonnull_r (q := 18) C dX8_put_9 (by decide) ?_
    refine g_aload C rfl dX8_put_18 rfl ?_
    have hs6 := h.1
    replace h := h.2
    refine g_callVD C tw_642 tw_643 tw_644 tw_9 tw_645 hy_X3_isMissing (by decide) (by decide) rfl (Nat.le_of_ble_eq_true rfl) hs6.1 rfl (ct_X3_isMissing V_l1 k1 hs6 f ) dX8_put_20 rfl rfl ?_
    refine g_if_eq (tgt := 32) C dX8_put_23 (by decide) rfl (fun hc7 => ?_) (fun hc7 => ?_)
    · replace h := h.1 hc7
      refine g_iload_n C rfl dX8_put_32 rfl ?_
      refine g_iconst C ki_0 dX8_put_33 rfl ?_
      refine g_aload C rfl dX8_put_34 rfl ?_
      refine fg_X8_272I (k := k1) (x := (f k1 2)) C hs6.1 rfl rfl dX8_put_36 rfl ?_
      refine g_iconst C ki_1 dX8_put_39 rfl ?_
      refine g_isub C dX8_put_40 rfl ?_
      refine g_callSD C tw_328 tw_322 tw_1 tw_323 hy_X8_within (by decide) (by decide) rfl (Nat.le_of_ble_eq_true rfl) (ct_X8_within V_l1   f a2 (0 : Int32) ((f k1 2) - (1 : Int32)) ) dX8_put_41 rfl rfl ?_
      refine g_if_ne (tgt := 53) C dX8_put_44 (by decide) rfl (fun hc8 => ?_) (fun hc8 => ?_)
      · replace h := h.1 hc8
        refine g_aload C rfl dX8_put_53 rfl ?_
        refine g_iload_n C rfl dX8_put_55 rfl ?_
        refine g_iload_n C rfl dX8_put_56 rfl ?_
        have hs9 := h.1
        replace h := h.2
        refine g_callVV C tw_724 tw_725 tw_726 tw_9 tw_727 hy_X3_write (by decide) (by decide) rfl (Nat.le_of_ble_eq_true rfl) hs6.1 rfl (ct_X3_write V_l1 k1 hs6 f a2 a3 hs9) dX8_put_57 rfl rfl (fun f10 hp11 => ?_)
        replace h := h f10 hp11
        refine g_iconst C ki_1 dX8_put_60 rfl ?_
        exact g_iret C dX8_put_61 h
      · replace h := h.2 hc8
        refine g_aload_n C rfl dX8_put_47 rfl ?_
        refine g_iconst C ki_1 dX8_put_48 rfl ?_
        refine g_callVI C tw_324 tw_326 tp_0 tw_1 tw_327 hy_X8_error (by decide) (by decide) rfl (Nat.le_of_ble_eq_true rfl) rfl rfl (ct_X8_error V_l1 V_l2 V_m1 V_m2 V_x8   f (1 : Int32) ) dX8_put_49 rfl rfl (fun r12 f13 hp14 => ?_)
        replace h := h r12 f13 hp14
        exact g_iret C dX8_put_52 h
    · replace h := h.2 hc7
      refine g_aload_n C rfl dX8_put_26 rfl ?_
      refine g_iconst C ki_2 dX8_put_27 rfl ?_
      refine g_callVI C tw_324 tw_326 tp_0 tw_1 tw_327 hy_X8_error (by decide) (by decide) rfl (Nat.le_of_ble_eq_true rfl) rfl rfl (ct_X8_error V_l1 V_l2 V_m1 V_m2 V_x8   f (2 : Int32) ) dX8_put_28 rfl rfl (fun r15 f16 hp17 => ?_)
      replace h := h r15 f16 hp17
      exact g_iret C dX8_put_31 h
set_option maxRecDepth 100000 in
theorem ct_X8_put (V_l1 : VC_l1) (V_l2 : VC_l2) (V_m1 : VC_m1) (V_m2 : VC_m2) (V_x8 : VC_x8) {l : Launch} {E : Ev}   (f : Fn) (a1 : Int32) (a2 : Int32) (a3 : Int32) (hpre : Pre_X8_put f a1 a2 a3) : CT l E layC yX8_put cX8_put 5 (some .int) 2 [.ref (E.2.1 0), .int a1, .int a2, .int a3] f (pI (Post_X8_put f a1 a2 a3)) := by
  refine CT.of (by decide +kernel) (Nat.le_of_ble_eq_true rfl) (fun Z hl9 hE9 hp9 C => ?_)
  subst hl9
  subst hE9
  exact wk_X8_put V_l1 V_l2 V_m1 V_m2 V_x8 C   f a1 a2 a3 (by rw [hp9]; exact V_x8.2.2.2.2.2.2.2.2.2.2.2.2.2.2.2.2.2.2.2.2.2.2.2.2.2.2.2.2.2.2.2.2.2.2.2.2.2.2.1  f a1 a2 a3  hpre)
set_option maxHeartbeats 4000000 in
set_option maxRecDepth 100000 in
theorem wk_X8_move_L24 (V_l1 : VC_l1) (V_l2 : VC_l2) (V_m1 : VC_m1) (V_m2 : VC_m2) (V_x8 : VC_x8) {Z : Zt}  (C : CX Z layC RX8 cX8_move 8 (some .int) 2)     (f : Fn)  (h : wp_X8_move_L24   f  (zp Z)) : GG Z f [(0, .ref (zad Z 0))] 24 [] := by
  refine g_aload_n C rfl dX8_move_24 rfl ?_
  refine g_iconst C ki_1 dX8_move_25 rfl ?_
  refine g_callVI C tw_324 tw_326 tp_0 tw_1 tw_327 hy_X8_error (by decide) (by decide) rfl (Nat.le_of_ble_eq_true rfl) rfl rfl (ct_X8_error V_l1 V_l2 V_m1 V_m2 V_x8   f (1 : Int32) ) dX8_move_26 rfl rfl (fun r5 f6 hp7 => ?_)
  replace h := h r5 f6 hp7
  exact g_iret C dX8_move_29 h
set_option maxHeartbeats 4000000 in
set_option maxRecDepth 100000 in
theorem wk_X8_move_L46 (V_l1 : VC_l1) (V_l2 : VC_l2) (V_m1 : VC_m1) (V_m2 : VC_m2) (V_x8 : VC_x8) {Z : Zt}  (C : CX Z layC RX8 cX8_move 8 (some .int) 2)     (f : Fn)  (h : wp_X8_move_L46   f  (zp Z)) : GG Z f [(0, .ref (zad Z 0))] 46 [] := by
  refine g_aload_n C rfl dX8_move_46 rfl ?_
  refine g_iconst C ki_2 dX8_move_47 rfl ?_
  refine g_callVI C tw_324 tw_326 tp_0 tw_1 tw_327 hy_X8_error (by decide) (by decide) rfl (Nat.le_of_ble_eq_true rfl) rfl rfl (ct_X8_error V_l1 V_l2 V_m1 V_m2 V_x8   f (2 : Int32) ) dX8_move_48 rfl rfl (fun r12 f13 hp14 => ?_)
  replace h := h r12 f13 hp14
  exact g_iret C dX8_move_51 h
set_option maxHeartbeats 4000000 in
set_option maxRecDepth 100000 in
theorem wk_X8_move_L94 (V_l1 : VC_l1) (V_l2 : VC_l2) (V_m1 : VC_m1) (V_m2 : VC_m2) (V_x8 : VC_x8) {Z : Zt}  (C : CX Z layC RX8 cX8_move 8 (some .int) 2)     (f : Fn)  (h : wp_X8_move_L94   f  (zp Z)) : GG Z f [(0, .ref (zad Z 0))] 94 [] := by
  refine g_aload_n C rfl dX8_move_94 rfl ?_
  refine g_iconst C ki_1 dX8_move_95 rfl ?_
  refine g_callVI C tw_324 tw_326 tp_0 tw_1 tw_327 hy_X8_error (by decide) (by decide) rfl (Nat.le_of_ble_eq_true rfl) rfl rfl (ct_X8_error V_l1 V_l2 V_m1 V_m2 V_x8   f (1 : Int32) ) dX8_move_96 rfl rfl (fun r19 f20 hp21 => ?_)
  replace h := h r19 f20 hp21
  exact g_iret C dX8_move_99 h
set_option maxHeartbeats 4000000 in
set_option maxRecDepth 100000 in
theorem wk_X8_move (V_l1 : VC_l1) (V_l2 : VC_l2) (V_m1 : VC_m1) (V_m2 : VC_m2) (V_x8 : VC_x8) {Z : Zt}  (C : CX Z layC RX8 cX8_move 8 (some .int) 2)     (f : Fn) (a1 : Int32) (a2 : Int32) (a3 : Int32) (a4 : Int32) (a5 : Int32) (h : wp_X8_move  f a1 a2 a3 a4 a5 (zp Z)) : GG Z f [(0, .ref (zad Z 0)), (1, .int a1), (2, .int a2), (3, .int a3), (4, .int a4), (5, .int a5)] 0 [] := by
  refine g_aload_n C rfl dX8_move_0 rfl ?_
  refine g_iload_n C rfl dX8_move_1 rfl ?_
  refine g_callVQ C tw_638 tw_640 tp_10 tw_1 tw_641 hy_X8_sheetOf (by decide) (by decide) rfl (Nat.le_of_ble_eq_true rfl) rfl rfl (ct_X8_sheetOf V_l1 V_l2 V_m1 V_m2 V_x8   f a1 ) dX8_move_2 rfl rfl (fun hv2 => ?_) (fun k1 hv2 => ?_)
  · replace h := h.1 hv2
    refine g_astoreN (lv' := [(6, .null), (0, .ref (zad Z 0)), (1, .int a1), (2, .int a2), (3, .int a3), (4, .int a4), (5, .int a5)]) C dX8_move_5 (by decide) rfl rfl ?_
    refine g_aload_n C rfl dX8_move_7 rfl ?_
    refine g_iload_n C rfl dX8_move_8 rfl ?_
    refine g_callVQ C tw_638 tw_640 tp_10 tw_1 tw_641 hy_X8_sheetOf (by decide) (by decide) rfl (Nat.le_of_ble_eq_true rfl) rfl rfl (ct_X8_sheetOf V_l1 V_l2 V_m1 V_m2 V_x8   f a3 ) dX8_move_9 rfl rfl (fun hv4 => ?_) (fun k3 hv4 => ?_)
    · replace h := h.1 hv4
      refine g_astoreN (lv' := [(7, .null), (6, .null), (0, .ref (zad Z 0)), (1, .int a1), (2, .int a2), (3, .int a3), (4, .int a4), (5, .int a5)]) C dX8_move_12 (by decide) rfl rfl ?_
      refine g_aloadN C rfl dX8_move_14 rfl ?_
      refine g_ifnull_n (q := 24) C dX8_move_16 (by decide) ?_
      refine g_lps [0] rfl ?_
      exact wk_X8_move_L24 V_l1 V_l2 V_m1 V_m2 V_x8  C    _  h
    · replace h := h.2 k3 hv4
      refine g_astore (lv' := [(7, .ref (zad Z k3)), (6, .null), (0, .ref (zad Z 0)), (1, .int a1), (2, .int a2), (3, .int a3), (4, .int a4), (5, .int a5)]) C dX8_move_12 (by decide) rfl rfl ?_
      refine g_aloadN C rfl dX8_move_14 rfl ?_
      refine g_ifnull_n (q := 24) C dX8_move_16 (by decide) ?_
      refine g_lps [0] rfl ?_
      exact wk_X8_move_L24 V_l1 V_l2 V_m1 V_m2 V_x8  C    _  h
  · replace h := h.2 k1 hv2
    refine g_astore (lv' := [(6, .ref (zad Z k1)), (0, .ref (zad Z 0)), (1, .int a1), (2, .int a2), (3, .int a3), (4, .int a4), (5, .int a5)]) C dX8_move_5 (by decide) rfl rfl ?_
    refine g_aload_n C rfl dX8_move_7 rfl ?_
    refine g_iload_n C rfl dX8_move_8 rfl ?_
    refine g_callVQ C tw_638 tw_640 tp_10 tw_1 tw_641 hy_X8_sheetOf (by decide) (by decide) rfl (Nat.le_of_ble_eq_true rfl) rfl rfl (ct_X8_sheetOf V_l1 V_l2 V_m1 V_m2 V_x8   f a3 ) dX8_move_9 rfl rfl (fun hv9 => ?_) (fun k8 hv9 => ?_)
    · replace h := h.1 hv9
      refine g_astoreN (lv' := [(7, .null), (6, .ref (zad Z k1)), (0, .ref (zad Z 0)), (1, .int a1), (2, .int a2), (3, .int a3), (4, .int a4), (5, .int a5)]) C dX8_move_12 (by decide) rfl rfl ?_
      refine g_aload C rfl dX8_move_14 rfl ?_
      refine g_ifnull_r (q := 19) C dX8_move_16 rfl ?_
      refine g_aloadN C rfl dX8_move_19 rfl ?_
      refine g_ifnonnull_n (q := 24) C dX8_move_21 rfl ?_
      refine g_lps [0] rfl ?_
      exact wk_X8_move_L24 V_l1 V_l2 V_m1 V_m2 V_x8  C    _  h
    · replace h := h.2 k8 hv9
      refine g_astore (lv' := [(7, .ref (zad Z k8)), (6, .ref (zad Z k1)), (0, .ref (zad Z 0)), (1, .int a1), (2, .int a2), (3, .int a3), (4, .int a4), (5, .int a5)]) C dX8_move_12 (by decide) rfl rfl ?_
      refine g_aload C rfl dX8_move_14 rfl ?_
      refine g_ifnull_r (q := 19) C dX8_move_16 rfl ?_
      refine g_aload C rfl dX8_move_19 rfl ?_
      refine g_ifnonnull_r (q := 30) C dX8_move_21 (by decide) ?_
      refine g_aload C rfl dX8_move_30 rfl ?_
      have hs10 := h.1
      replace h := h.2
      refine g_callVD C tw_642 tw_643 tw_644 tw_9 tw_645 hy_X3_isMissing (by decide) (by decide) rfl (Nat.le_of_ble_eq_true rfl) hs10.1 rfl (ct_X3_isMissing V_l1 k1 hs10 f ) dX8_move_32 rfl rfl ?_
      refine g_if_ne (tgt := 46) C dX8_move_35 (by decide) rfl (fun hc11 => ?_) (fun hc11 => ?_)
      · replace h := h.1 hc11
        refine g_lps [0] rfl ?_
        exact wk_X8_move_L46 V_l1 V_l2 V_m1 V_m2 V_x8  C    _  h
      · replace h := h.2 hc11
        refine g_aload C rfl dX8_move_38 rfl ?_
        have hs15 := h.1
        replace h := h.2
        refine g_callVD C tw_642 tw_643 tw_644 tw_9 tw_645 hy_X3_isMissing (by decide) (by decide) rfl (Nat.le_of_ble_eq_true rfl) hs15.1 rfl (ct_X3_isMissing V_l1 k8 hs15 f ) dX8_move_40 rfl rfl ?_
        refine g_if_eq (tgt := 52) C dX8_move_43 (by decide) rfl (fun hc16 => ?_) (fun hc16 => ?_)
        · replace h := h.1 hc16
          refine g_aload C rfl dX8_move_52 rfl ?_
          refine fg_X8_278I (k := k1) (x := (f k1 1)) C hs10.1 rfl rfl dX8_move_54 rfl ?_
          refine g_aload C rfl dX8_move_57 rfl ?_
          refine fg_X8_278I (k := k8) (x := (f k8 1)) C hs15.1 rfl rfl dX8_move_59 rfl ?_
          refine g_icmp_eq (tgt := 71) C dX8_move_62 (by decide) rfl (fun hc17 => ?_) (fun hc17 => ?_)
          · replace h := h.1 hc17
            refine g_aload C rfl dX8_move_71 rfl ?_
            refine g_iload_n C rfl dX8_move_73 rfl ?_
            refine g_iload C rfl dX8_move_74 rfl ?_
            refine g_callVD C tw_732 tw_733 tw_734 tw_9 tw_735 hy_X3_hasRow (by decide) (by decide) rfl (Nat.le_of_ble_eq_true rfl) hs10.1 rfl (ct_X3_hasRow V_l1 k1 hs10 f a2 a5 ) dX8_move_76 rfl rfl ?_
            refine g_if_eq (tgt := 94) C dX8_move_79 (by decide) rfl (fun hc18 => ?_) (fun hc18 => ?_)
            · replace h := h.1 hc18
              refine g_lps [0] rfl ?_
              exact wk_X8_move_L94 V_l1 V_l2 V_m1 V_m2 V_x8  C    _  h
            · replace h := h.2 hc18
              refine g_aload C rfl dX8_move_82 rfl ?_
              refine g_iload C rfl dX8_move_84 rfl ?_
              refine g_iload C rfl dX8_move_86 rfl ?_
              refine g_callVD C tw_732 tw_733 tw_734 tw_9 tw_735 hy_X3_hasRow (by decide) (by decide) rfl (Nat.le_of_ble_eq_true rfl) hs15.1 rfl (ct_X3_hasRow V_l1 k8 hs15 f a4 a5 ) dX8_move_88 rfl rfl ?_
              refine g_if_ne (tgt := 100) C dX8_move_91 (by decide) rfl (fun hc22 => ?_) (fun hc22 => ?_)
              · replace h := h.1 hc22
                refine g_aload C rfl dX8_move_100 rfl ?_
                refine fg_X8_284R (k := k1) (p := (k1 + 1)) C hs10.1 rfl dX8_move_102 rfl ?_
                refine g_iload_n C rfl dX8_move_105 rfl ?_
                refine g_aload C rfl dX8_move_106 rfl ?_
                refine fg_X8_284R (k := k8) (p := (k8 + 1)) C hs15.1 rfl dX8_move_108 rfl ?_
                refine g_iload C rfl dX8_move_111 rfl ?_
                refine g_iload C rfl dX8_move_113 rfl ?_
                have hs23 := h.1
                replace h := h.2
                have hs24 := h.1
                replace h := h.2
                have hs25 := h.1
                replace h := h.2
                have hs26 := h.1
                replace h := h.2
                have hs27 := h.1
                replace h := h.2
                refine g_copy (k0 := (k1 + 1)) (k1 := (k8 + 1)) C tw_736 tw_738 tw_737 tw_12 hs10.2 hs15.2 hs23 hs24 hs25 hs26 hs27 (by decide) (by decide +kernel) dX8_move_115 rfl (fun f28 hf29 => ?_)
                replace h := h f28 hf29
                refine g_iload C rfl dX8_move_118 rfl ?_
                exact g_iret C dX8_move_120 h
              · replace h := h.2 hc22
                refine g_lps [0] rfl ?_
                exact wk_X8_move_L94 V_l1 V_l2 V_m1 V_m2 V_x8  C    _  h
          · replace h := h.2 hc17
            refine g_aload_n C rfl dX8_move_65 rfl ?_
            refine g_iconst C ki_5 dX8_move_66 rfl ?_
            refine g_callVI C tw_324 tw_326 tp_0 tw_1 tw_327 hy_X8_error (by decide) (by decide) rfl (Nat.le_of_ble_eq_true rfl) rfl rfl (ct_X8_error V_l1 V_l2 V_m1 V_m2 V_x8   f (5 : Int32) ) dX8_move_67 rfl rfl (fun r30 f31 hp32 => ?_)
            replace h := h r30 f31 hp32
            exact g_iret C dX8_move_70 h
        · replace h := h.2 hc16
          refine g_lps [0] rfl ?_
          exact wk_X8_move_L46 V_l1 V_l2 V_m1 V_m2 V_x8  C    _  h
set_option maxRecDepth 100000 in
theorem ct_X8_move (V_l1 : VC_l1) (V_l2 : VC_l2) (V_m1 : VC_m1) (V_m2 : VC_m2) (V_x8 : VC_x8) {l : Launch} {E : Ev}   (f : Fn) (a1 : Int32) (a2 : Int32) (a3 : Int32) (a4 : Int32) (a5 : Int32) (hpre : Pre_X8_move f a1 a2 a3 a4 a5) : CT l E layC yX8_move cX8_move 8 (some .int) 2 [.ref (E.2.1 0), .int a1, .int a2, .int a3, .int a4, .int a5] f (pI (Post_X8_move f a1 a2 a3 a4 a5)) := by
  refine CT.of (by decide +kernel) (Nat.le_of_ble_eq_true rfl) (fun Z hl9 hE9 hp9 C => ?_)
  subst hl9
  subst hE9
  exact wk_X8_move V_l1 V_l2 V_m1 V_m2 V_x8 C   f a1 a2 a3 a4 a5 (by rw [hp9]; exact V_x8.2.2.2.2.2.2.2.2.2.2.2.2.2.2.2.2.2.2.2.2.2.2.2.2.2.2.2.2.2.2.2.2.2.2.2.2.2.2.2.1  f a1 a2 a3 a4 a5  hpre)
set_option maxHeartbeats 4000000 in
set_option maxRecDepth 100000 in
theorem wkb_X8_turns_L31 (V_l1 : VC_l1) (V_l2 : VC_l2) (V_m1 : VC_m1) (V_m2 : VC_m2) (V_x8 : VC_x8) {Z : Zt}  (C : CX Z layC RX8 cX8_turns 5 (some .int) 2)   {K31 : Fn → Nat → Int32 → Prop} (hK31 : ∀ (f : Fn) (px2 : Nat) (x3 : Int32), K31 f px2 x3 → GG Z f [(0, .ref (zad Z 0)), (2, .ref (zad Z px2)), (3, .int x3)] 31 []) (f : Fn) (px2 : Nat) (x3 : Int32) (h : wpb_X8_turns_L31   K31 f px2 x3 (zp Z)) : GG Z f [(0, .ref (zad Z 0)), (2, .ref (zad Z px2)), (3, .int x3)] 31 [] := by
  refine g_iload_n C rfl dX8_turns_31 rfl ?_
  refine g_aload_n C rfl dX8_turns_32 rfl ?_
  have hs8 := h.1
  replace h := h.2
  refine fg_X8_272I (k := px2) (x := (f px2 2)) C hs8.1 rfl rfl dX8_turns_33 rfl ?_
  refine g_icmp_ge (tgt := 85) C dX8_turns_36 (by decide) rfl (fun hc9 => ?_) (fun hc9 => ?_)
  · replace h := h.1 hc9
    refine g_aload_n C rfl dX8_turns_85 rfl ?_
    refine fg_X8_272I (k := px2) (x := (f px2 2)) C hs8.1 rfl rfl dX8_turns_86 rfl ?_
    exact g_iret C dX8_turns_89 h
  · replace h := h.2 hc9
    refine g_aload_n C rfl dX8_turns_39 rfl ?_
    refine fg_X8_10R (k := 0) (p := 1) C rfl rfl dX8_turns_40 rfl ?_
    refine g_iload_n C rfl dX8_turns_43 rfl ?_
    refine g_callVQ C tw_362 tw_363 tw_364 tw_2 tw_365 hy_X7_flyerOf (by decide) (by decide) rfl (Nat.le_of_ble_eq_true rfl) rfl rfl (ct_X7_flyerOf V_l1 V_l2   f x3 ) dX8_turns_44 rfl rfl (fun hv11 => ?_) (fun k10 hv11 => ?_)
    · replace h := h.1 hv11
      refine g_astoreN (lv' := [(4, .null), (0, .ref (zad Z 0)), (2, .ref (zad Z px2)), (3, .int x3)]) C dX8_turns_47 (by decide) rfl rfl ?_
      refine g_aloadN C rfl dX8_turns_49 rfl ?_
      refine g_ifnull_n (q := 67) C dX8_turns_51 (by decide) ?_
      refine g_iload_n C rfl dX8_turns_67 rfl ?_
      exact g_iret C dX8_turns_68 h
    · replace h := h.2 k10 hv11
      refine g_astore (lv' := [(4, .ref (zad Z k10)), (0, .ref (zad Z 0)), (2, .ref (zad Z px2)), (3, .int x3)]) C dX8_turns_47 (by decide) rfl rfl ?_
      refine g_aload C rfl dX8_turns_49 rfl ?_
      refine g_ifnull_r (q := 54) C dX8_turns_51 rfl ?_
      refine g_aload_n C rfl dX8_turns_54 rfl ?_
      refine g_iload_n C rfl dX8_turns_55 rfl ?_
      have hs12 := h.1
      replace h := h.2
      refine g_callVD C tw_743 tw_655 tw_656 tw_9 tw_657 hy_X3_read (by decide) (by decide) rfl (Nat.le_of_ble_eq_true rfl) hs8.1 rfl (ct_X3_read V_l1 px2 hs8 f x3 hs12) dX8_turns_56 rfl rfl ?_
      refine g_iconst C ki_1 dX8_turns_59 rfl ?_
      refine g_iconst C ki_3 dX8_turns_60 rfl ?_
      refine g_callSD C tw_328 tw_322 tw_1 tw_323 hy_X8_within (by decide) (by decide) rfl (Nat.le_of_ble_eq_true rfl) (ct_X8_within V_l1   f (Val_X3_read px2 f x3) (1 : Int32) (3 : Int32) ) dX8_turns_61 rfl rfl ?_
      refine g_if_ne (tgt := 69) C dX8_turns_64 (by decide) rfl (fun hc13 => ?_) (fun hc13 => ?_)
      · replace h := h.1 hc13
        refine g_aload C rfl dX8_turns_69 rfl ?_
        refine g_aload_n C rfl dX8_turns_71 rfl ?_
        refine g_iload_n C rfl dX8_turns_72 rfl ?_
        have hs14 := h.1
        replace h := h.2
        refine g_callVD C tw_743 tw_655 tw_656 tw_9 tw_657 hy_X3_read (by decide) (by decide) rfl (Nat.le_of_ble_eq_true rfl) hs8.1 rfl (ct_X3_read V_l1 px2 hs8 f x3 hs14) dX8_turns_73 rfl rfl ?_
        have hs15 := h.1
        replace h := h.2
        refine fp_X8_111 (k := k10) C hs15 rfl (Nat.le_of_ble_eq_true rfl) dX8_turns_76 rfl ?_
        refine g_iinc (lv' := [(3, .int (x3 + (1 : Int32))), (4, .ref (zad Z k10)), (0, .ref (zad Z 0)), (2, .ref (zad Z px2))]) C dX8_turns_79 rfl (inc_1 _) (by decide) rfl rfl ?_
        refine g_goto (q := 31) C dX8_turns_82 (by decide) ?_
        refine g_lps [0, 2, 3] rfl ?_
        exact hK31 _ _ _ h
      · replace h := h.2 hc13
        refine g_iload_n C rfl dX8_turns_67 rfl ?_
        exact g_iret C dX8_turns_68 h
set_option maxHeartbeats 4000000 in
set_option maxRecDepth 100000 in
theorem wk_X8_turns_L31 (V_l1 : VC_l1) (V_l2 : VC_l2) (V_m1 : VC_m1) (V_m2 : VC_m2) (V_x8 : VC_x8) {Z : Zt}  (C : CX Z layC RX8 cX8_turns 5 (some .int) 2)     (f : Fn) (px2 : Nat) (x3 : Int32) (h : wp_X8_turns_L31   f px2 x3 (zp Z)) : GG Z f [(0, .ref (zad Z 0)), (2, .ref (zad Z px2)), (3, .int x3)] 31 [] := by
  obtain ⟨I, μ, h0, hs⟩ := h
  suffices H : ∀ (N : Nat) (f : Fn) (px2 : Nat) (x3 : Int32), μ f px2 x3 < N → I f px2 x3 → GG Z f [(0, .ref (zad Z 0)), (2, .ref (zad Z px2)), (3, .int x3)] 31 [] from H _ f px2 x3 (Nat.lt_succ_self _) h0
  clear h0
  intro N
  induction N with
  | zero => intro f px2 x3 hm; exact absurd hm (Nat.not_lt_zero _)
  | succ N ih =>
    intro f px2 x3 hm hi
    exact wkb_X8_turns_L31 V_l1 V_l2 V_m1 V_m2 V_x8  C    (fun f9 px29 x39 hk => ih f9 px29 x39 (Nat.lt_of_lt_of_le hk.2 (Nat.le_of_lt_succ hm)) hk.1) f px2 x3 (hs f px2 x3 hi)
set_option maxHeartbeats 4000000 in
set_option maxRecDepth 100000 in
theorem wk_X8_turns (V_l1 : VC_l1) (V_l2 : VC_l2) (V_m1 : VC_m1) (V_m2 : VC_m2) (V_x8 : VC_x8) {Z : Zt}  (C : CX Z layC RX8 cX8_turns 5 (some .int) 2)     (f : Fn) (a1 : Int32) (h : wp_X8_turns  f a1 (zp Z)) : GG Z f [(0, .ref (zad Z 0)), (1, .int a1)] 0 [] := by
  refine g_aload_n C rfl dX8_turns_0 rfl ?_
  refine g_iload_n C rfl dX8_turns_1 rfl ?_
  refine g_callVQ C tw_638 tw_640 tp_10 tw_1 tw_641 hy_X8_sheetOf (by decide) (by decide) rfl (Nat.le_of_ble_eq_true rfl) rfl rfl (ct_X8_sheetOf V_l1 V_l2 V_m1 V_m2 V_x8   f a1 ) dX8_turns_2 rfl rfl (fun hv2 => ?_) (fun k1 hv2 => ?_)
  · replace h := h.1 hv2
    refine g_astore_nN (lv' := [(2, .null), (0, .ref (zad Z 0)), (1, .int a1)]) C dX8_turns_5 (by decide) rfl rfl ?_
    refine g_aload_nN C rfl dX8_turns_6 rfl ?_
    refine g_ifnonnull_n (q := 10) C dX8_turns_7 rfl ?_
    refine g_aload_n C rfl dX8_turns_10 rfl ?_
    refine g_iconst C ki_1 dX8_turns_11 rfl ?_
    refine g_callVI C tw_324 tw_326 tp_0 tw_1 tw_327 hy_X8_error (by decide) (by decide) rfl (Nat.le_of_ble_eq_true rfl) rfl rfl (ct_X8_error V_l1 V_l2 V_m1 V_m2 V_x8   f (1 : Int32) ) dX8_turns_12 rfl rfl (fun r3 f4 hp5 => ?_)
    replace h := h r3 f4 hp5
    exact g_iret C dX8_turns_15 h
  · replace h := h.2 k1 hv2
    refine g_astore_n (lv' := [(2, .ref (zad Z k1)), (0, .ref (zad Z 0)), (1, .int a1)]) C dX8_turns_5 (by decide) rfl rfl ?_
    refine g_aload_n C rfl dX8_turns_6 rfl ?_
    refine g_ifnonnull_r (q := 16) C dX8_turns_7 (by decide) ?_
    refine g_aload_n C rfl dX8_turns_16 rfl ?_
    have hs6 := h.1
    replace h := h.2
    refine g_callVD C tw_642 tw_643 tw_644 tw_9 tw_645 hy_X3_isMissing (by decide) (by decide) rfl (Nat.le_of_ble_eq_true rfl) hs6.1 rfl (ct_X3_isMissing V_l1 k1 hs6 f ) dX8_turns_17 rfl rfl ?_
    refine g_if_eq (tgt := 29) C dX8_turns_20 (by decide) rfl (fun hc7 => ?_) (fun hc7 => ?_)
    · replace h := h.1 hc7
      refine g_iconst C ki_0 dX8_turns_29 rfl ?_
      refine g_istore_n (lv' := [(3, .int (0 : Int32)), (2, .ref (zad Z k1)), (0, .ref (zad Z 0)), (1, .int a1)]) C dX8_turns_30 (by decide) rfl rfl ?_
      refine g_lps [0, 2, 3] rfl ?_
      exact wk_X8_turns_L31 V_l1 V_l2 V_m1 V_m2 V_x8  C    _ _ _ h
    · replace h := h.2 hc7
      refine g_aload_n C rfl dX8_turns_23 rfl ?_
      refine g_iconst C ki_2 dX8_turns_24 rfl ?_
      refine g_callVI C tw_324 tw_326 tp_0 tw_1 tw_327 hy_X8_error (by decide) (by decide) rfl (Nat.le_of_ble_eq_true rfl) rfl rfl (ct_X8_error V_l1 V_l2 V_m1 V_m2 V_x8   f (2 : Int32) ) dX8_turns_25 rfl rfl (fun r16 f17 hp18 => ?_)
      replace h := h r16 f17 hp18
      exact g_iret C dX8_turns_28 h
set_option maxRecDepth 100000 in
theorem ct_X8_turns (V_l1 : VC_l1) (V_l2 : VC_l2) (V_m1 : VC_m1) (V_m2 : VC_m2) (V_x8 : VC_x8) {l : Launch} {E : Ev}   (f : Fn) (a1 : Int32) (hpre : Pre_X8_turns f a1) : CT l E layC yX8_turns cX8_turns 5 (some .int) 2 [.ref (E.2.1 0), .int a1] f (pI (Post_X8_turns f a1)) := by
  refine CT.of (by decide +kernel) (Nat.le_of_ble_eq_true rfl) (fun Z hl9 hE9 hp9 C => ?_)
  subst hl9
  subst hE9
  exact wk_X8_turns V_l1 V_l2 V_m1 V_m2 V_x8 C   f a1 (by rw [hp9]; exact V_x8.2.2.2.2.2.2.2.2.2.2.2.2.2.2.2.2.2.2.2.2.2.2.2.2.2.2.2.2.2.2.2.2.2.2.2.2.2.2.2.2.1  f a1  hpre)
set_option maxHeartbeats 4000000 in
set_option maxRecDepth 100000 in
theorem wkb_X8_judge_L31 (V_l1 : VC_l1) (V_l2 : VC_l2) (V_m1 : VC_m1) (V_m2 : VC_m2) (V_x8 : VC_x8) {Z : Zt}  (C : CX Z layC RX8 cX8_judge 5 (some .int) 2)   {K31 : Fn → Nat → Int32 → Prop} (hK31 : ∀ (f : Fn) (px2 : Nat) (x3 : Int32), K31 f px2 x3 → GG Z f [(0, .ref (zad Z 0)), (2, .ref (zad Z px2)), (3, .int x3)] 31 []) (f : Fn) (px2 : Nat) (x3 : Int32) (h : wpb_X8_judge_L31   K31 f px2 x3 (zp Z)) : GG Z f [(0, .ref (zad Z 0)), (2, .ref (zad Z px2)), (3, .int x3)] 31 [] := by
  refine g_iload_n C rfl dX8_judge_31 rfl ?_
  refine g_aload_n C rfl dX8_judge_32 rfl ?_
  have hs8 := h.1
  replace h := h.2
  refine fg_X8_272I (k := px2) (x := (f px2 2)) C hs8.1 rfl rfl dX8_judge_33 rfl ?_
  refine g_icmp_ge (tgt := 75) C dX8_judge_36 (by decide) rfl (fun hc9 => ?_) (fun hc9 => ?_)
  · replace h := h.1 hc9
    refine g_aload_n C rfl dX8_judge_75 rfl ?_
    refine fg_X8_272I (k := px2) (x := (f px2 2)) C hs8.1 rfl rfl dX8_judge_76 rfl ?_
    refine g_aload_n C rfl dX8_judge_79 rfl ?_
    refine fg_X8_10R (k := 0) (p := 1) C rfl rfl dX8_judge_80 rfl ?_
    refine fg_X8_92I (k := 1) (x := (f 1 7)) C rfl rfl rfl dX8_judge_83 rfl ?_
    refine g_icmp_ge (tgt := 96) C dX8_judge_86 (by decide) rfl (fun hc10 => ?_) (fun hc10 => ?_)
    · replace h := h.1 hc10
      refine g_iconst C ki_m1 dX8_judge_96 rfl ?_
      exact g_iret C dX8_judge_97 h
    · replace h := h.2 hc10
      refine g_aload_n C rfl dX8_judge_89 rfl ?_
      refine fg_X8_272I (k := px2) (x := (f px2 2)) C hs8.1 rfl rfl dX8_judge_90 rfl ?_
      refine g_goto (q := 97) C dX8_judge_93 (by decide) ?_
      exact g_iret C dX8_judge_97 h
  · replace h := h.2 hc9
    refine g_aload_n C rfl dX8_judge_39 rfl ?_
    refine fg_X8_10R (k := 0) (p := 1) C rfl rfl dX8_judge_40 rfl ?_
    refine g_iload_n C rfl dX8_judge_43 rfl ?_
    refine g_callVQ C tw_362 tw_363 tw_364 tw_2 tw_365 hy_X7_flyerOf (by decide) (by decide) rfl (Nat.le_of_ble_eq_true rfl) rfl rfl (ct_X7_flyerOf V_l1 V_l2   f x3 ) dX8_judge_44 rfl rfl (fun hv12 => ?_) (fun k11 hv12 => ?_)
    · replace h := h.1 hv12
      refine g_astoreN (lv' := [(4, .null), (0, .ref (zad Z 0)), (2, .ref (zad Z px2)), (3, .int x3)]) C dX8_judge_47 (by decide) rfl rfl ?_
      refine g_aloadN C rfl dX8_judge_49 rfl ?_
      refine g_ifnull_n (q := 67) C dX8_judge_51 (by decide) ?_
      refine g_iload_n C rfl dX8_judge_67 rfl ?_
      exact g_iret C dX8_judge_68 h
    · replace h := h.2 k11 hv12
      refine g_astore (lv' := [(4, .ref (zad Z k11)), (0, .ref (zad Z 0)), (2, .ref (zad Z px2)), (3, .int x3)]) C dX8_judge_47 (by decide) rfl rfl ?_
      refine g_aload C rfl dX8_judge_49 rfl ?_
      refine g_ifnull_r (q := 54) C dX8_judge_51 rfl ?_
      refine g_aload_n C rfl dX8_judge_54 rfl ?_
      refine g_iload_n C rfl dX8_judge_55 rfl ?_
      have hs13 := h.1
      replace h := h.2
      refine g_callVD C tw_743 tw_655 tw_656 tw_9 tw_657 hy_X3_read (by decide) (by decide) rfl (Nat.le_of_ble_eq_true rfl) hs8.1 rfl (ct_X3_read V_l1 px2 hs8 f x3 hs13) dX8_judge_56 rfl rfl ?_
      refine g_aload C rfl dX8_judge_59 rfl ?_
      have hs14 := h.1
      replace h := h.2
      refine fg_X8_114I (k := k11) (x := (f k11 3)) C hs14 rfl rfl dX8_judge_61 rfl ?_
      refine g_icmp_eq (tgt := 69) C dX8_judge_64 (by decide) rfl (fun hc15 => ?_) (fun hc15 => ?_)
      · replace h := h.1 hc15
        refine g_iinc (lv' := [(3, .int (x3 + (1 : Int32))), (4, .ref (zad Z k11)), (0, .ref (zad Z 0)), (2, .ref (zad Z px2))]) C dX8_judge_69 rfl (inc_1 _) (by decide) rfl rfl ?_
        refine g_goto (q := 31) C dX8_judge_72 (by decide) ?_
        refine g_lps [0, 2, 3] rfl ?_
        exact hK31 _ _ _ h
      · replace h := h.2 hc15
        refine g_iload_n C rfl dX8_judge_67 rfl ?_
        exact g_iret C dX8_judge_68 h
set_option maxHeartbeats 4000000 in
set_option maxRecDepth 100000 in
theorem wk_X8_judge_L31 (V_l1 : VC_l1) (V_l2 : VC_l2) (V_m1 : VC_m1) (V_m2 : VC_m2) (V_x8 : VC_x8) {Z : Zt}  (C : CX Z layC RX8 cX8_judge 5 (some .int) 2)     (f : Fn) (px2 : Nat) (x3 : Int32) (h : wp_X8_judge_L31   f px2 x3 (zp Z)) : GG Z f [(0, .ref (zad Z 0)), (2, .ref (zad Z px2)), (3, .int x3)] 31 [] := by
  obtain ⟨I, μ, h0, hs⟩ := h
  suffices H : ∀ (N : Nat) (f : Fn) (px2 : Nat) (x3 : Int32), μ f px2 x3 < N → I f px2 x3 → GG Z f [(0, .ref (zad Z 0)), (2, .ref (zad Z px2)), (3, .int x3)] 31 [] from H _ f px2 x3 (Nat.lt_succ_self _) h0
  clear h0
  intro N
  induction N with
  | zero => intro f px2 x3 hm; exact absurd hm (Nat.not_lt_zero _)
  | succ N ih =>
    intro f px2 x3 hm hi
    exact wkb_X8_judge_L31 V_l1 V_l2 V_m1 V_m2 V_x8  C    (fun f9 px29 x39 hk => ih f9 px29 x39 (Nat.lt_of_lt_of_le hk.2 (Nat.le_of_lt_succ hm)) hk.1) f px2 x3 (hs f px2 x3 hi)
set_option maxHeartbeats 4000000 in
set_option maxRecDepth 100000 in
theorem wk_X8_judge (V_l1 : VC_l1) (V_l2 : VC_l2) (V_m1 : VC_m1) (V_m2 : VC_m2) (V_x8 : VC_x8) {Z : Zt}  (C : CX Z layC RX8 cX8_judge 5 (some .int) 2)     (f : Fn) (a1 : Int32) (h : wp_X8_judge  f a1 (zp Z)) : GG Z f [(0, .ref (zad Z 0)), (1, .int a1)] 0 [] := by
  refine g_aload_n C rfl dX8_judge_0 rfl ?_
  refine g_iload_n C rfl dX8_judge_1 rfl ?_
  refine g_callVQ C tw_638 tw_640 tp_10 tw_1 tw_641 hy_X8_sheetOf (by decide) (by decide) rfl (Nat.le_of_ble_eq_true rfl) rfl rfl (ct_X8_sheetOf V_l1 V_l2 V_m1 V_m2 V_x8   f a1 ) dX8_judge_2 rfl rfl (fun hv2 => ?_) (fun k1 hv2 => ?_)
  · replace h := h.1 hv2
    refine g_astore_nN (lv' := [(2, .null), (0, .ref (zad Z 0)), (1, .int a1)]) C dX8_judge_5 (by decide) rfl rfl ?_
    refine g_aload_nN C rfl dX8_judge_6 rfl ?_
    refine g_ifnonnull_n (q := 10) C dX8_judge_7 rfl ?_
    refine g_aload_n C rfl dX8_judge_10 rfl ?_
    refine g_iconst C ki_1 dX8_judge_11 rfl ?_
    refine g_callVI C tw_324 tw_326 tp_0 tw_1 tw_327 hy_X8_error (by decide) (by decide) rfl (Nat.le_of_ble_eq_true rfl) rfl rfl (ct_X8_error V_l1 V_l2 V_m1 V_m2 V_x8   f (1 : Int32) ) dX8_judge_12 rfl rfl (fun r3 f4 hp5 => ?_)
    replace h := h r3 f4 hp5
    exact g_iret C dX8_judge_15 h
  · replace h := h.2 k1 hv2
    refine g_astore_n (lv' := [(2, .ref (zad Z k1)), (0, .ref (zad Z 0)), (1, .int a1)]) C dX8_judge_5 (by decide) rfl rfl ?_
    refine g_aload_n C rfl dX8_judge_6 rfl ?_
    refine g_ifnonnull_r (q := 16) C dX8_judge_7 (by decide) ?_
    refine g_aload_n C rfl dX8_judge_16 rfl ?_
    have hs6 := h.1
    replace h := h.2
    refine g_callVD C tw_642 tw_643 tw_644 tw_9 tw_645 hy_X3_isMissing (by decide) (by decide) rfl (Nat.le_of_ble_eq_true rfl) hs6.1 rfl (ct_X3_isMissing V_l1 k1 hs6 f ) dX8_judge_17 rfl rfl ?_
    refine g_if_eq (tgt := 29) C dX8_judge_20 (by decide) rfl (fun hc7 => ?_) (fun hc7 => ?_)
    · replace h := h.1 hc7
      refine g_iconst C ki_0 dX8_judge_29 rfl ?_
      refine g_istore_n (lv' := [(3, .int (0 : Int32)), (2, .ref (zad Z k1)), (0, .ref (zad Z 0)), (1, .int a1)]) C dX8_judge_30 (by decide) rfl rfl ?_
      refine g_lps [0, 2, 3] rfl ?_
      exact wk_X8_judge_L31 V_l1 V_l2 V_m1 V_m2 V_x8  C    _ _ _ h
    · replace h := h.2 hc7
      refine g_aload_n C rfl dX8_judge_23 rfl ?_
      refine g_iconst C ki_2 dX8_judge_24 rfl ?_
      refine g_callVI C tw_324 tw_326 tp_0 tw_1 tw_327 hy_X8_error (by decide) (by decide) rfl (Nat.le_of_ble_eq_true rfl) rfl rfl (ct_X8_error V_l1 V_l2 V_m1 V_m2 V_x8   f (2 : Int32) ) dX8_judge_25 rfl rfl (fun r16 f17 hp18 => ?_)
      replace h := h r16 f17 hp18
      exact g_iret C dX8_judge_28 h
set_option maxRecDepth 100000 in
theorem ct_X8_judge (V_l1 : VC_l1) (V_l2 : VC_l2) (V_m1 : VC_m1) (V_m2 : VC_m2) (V_x8 : VC_x8) {l : Launch} {E : Ev}   (f : Fn) (a1 : Int32) (hpre : Pre_X8_judge f a1) : CT l E layC yX8_judge cX8_judge 5 (some .int) 2 [.ref (E.2.1 0), .int a1] f (pI (Post_X8_judge f a1)) := by
  refine CT.of (by decide +kernel) (Nat.le_of_ble_eq_true rfl) (fun Z hl9 hE9 hp9 C => ?_)
  subst hl9
  subst hE9
  exact wk_X8_judge V_l1 V_l2 V_m1 V_m2 V_x8 C   f a1 (by rw [hp9]; exact V_x8.2.2.2.2.2.2.2.2.2.2.2.2.2.2.2.2.2.2.2.2.2.2.2.2.2.2.2.2.2.2.2.2.2.2.2.2.2.2.2.2.2.1  f a1  hpre)
set_option maxHeartbeats 4000000 in
set_option maxRecDepth 100000 in
theorem wk_X8_image (V_l1 : VC_l1) (V_l2 : VC_l2) (V_m1 : VC_m1) (V_m2 : VC_m2) (V_x8 : VC_x8) {Z : Zt}  (C : CX Z layC RX8 cX8_image 1 (some .int) 4)     (f : Fn)  (h : wp_X8_image  f  (zp Z)) : GG Z f [(0, .ref (zad Z 0))] 0 [] := by
  refine g_aload_n C rfl dX8_image_0 rfl ?_
  refine fg_X8_16R (k := 0) (p := 19) C rfl rfl dX8_image_1 rfl ?_
  refine g_aload_n C rfl dX8_image_4 rfl ?_
  refine fg_X8_10R (k := 0) (p := 1) C rfl rfl dX8_image_5 rfl ?_
  refine g_callVV C tw_752 tw_753 tw_754 tw_2 tw_755 hy_X7_copy (by decide) (by decide) rfl (Nat.le_of_ble_eq_true rfl) rfl rfl (ct_X7_copyA V_l1 V_l2   f ) dX8_image_8 rfl rfl (fun f1 hp2 => ?_)
  replace h := h f1 hp2
  refine g_aload_n C rfl dX8_image_11 rfl ?_
  refine g_dup C rfl dX8_image_12 rfl ?_
  refine fg_X8_299I (k := 0) (x := (f1 0 7)) C rfl rfl rfl dX8_image_13 rfl ?_
  refine g_iconst C ki_1 dX8_image_16 rfl ?_
  refine g_iadd C dX8_image_17 rfl ?_
  refine fp_X8_299 (k := 0) C rfl rfl (Nat.le_of_ble_eq_true rfl) dX8_image_18 rfl ?_
  refine g_aload_n C rfl dX8_image_21 rfl ?_
  refine fg_X8_299I (k := 0) (x := ((f1 0 7) + (1 : Int32))) C rfl rfl (by simp [up2, upd]) dX8_image_22 rfl ?_
  exact g_iret C dX8_image_25 h
set_option maxRecDepth 100000 in
theorem ct_X8_image (V_l1 : VC_l1) (V_l2 : VC_l2) (V_m1 : VC_m1) (V_m2 : VC_m2) (V_x8 : VC_x8) {l : Launch} {E : Ev}   (f : Fn)  (hpre : Pre_X8_image f) : CT l E layC yX8_image cX8_image 1 (some .int) 4 [.ref (E.2.1 0)] f (pI (Post_X8_image f)) := by
  refine CT.of (by decide +kernel) (Nat.le_of_ble_eq_true rfl) (fun Z hl9 hE9 hp9 C => ?_)
  subst hl9
  subst hE9
  exact wk_X8_image V_l1 V_l2 V_m1 V_m2 V_x8 C   f  (by rw [hp9]; exact V_x8.2.2.2.2.2.2.2.2.2.2.2.2.2.2.2.2.2.2.2.2.2.2.2.2.2.2.2.2.2.2.2.2.2.2.2.2.2.2.2.2.2.2.1  f   hpre)
set_option maxHeartbeats 4000000 in
set_option maxRecDepth 100000 in
theorem wk_X8_restore (V_l1 : VC_l1) (V_l2 : VC_l2) (V_m1 : VC_m1) (V_m2 : VC_m2) (V_x8 : VC_x8) {Z : Zt}  (C : CX Z layC RX8 cX8_restore 1 (some .int) 4)     (f : Fn)  (h : wp_X8_restore  f  (zp Z)) : GG Z f [(0, .ref (zad Z 0))] 0 [] := by
  refine g_aload_n C rfl dX8_restore_0 rfl ?_
  refine fg_X8_299I (k := 0) (x := (f 0 7)) C rfl rfl rfl dX8_restore_1 rfl ?_
  refine g_if_ne (tgt := 13) C dX8_restore_4 (by decide) rfl (fun hc1 => ?_) (fun hc1 => ?_)
  · replace h := h.1 hc1
    refine g_aload_n C rfl dX8_restore_13 rfl ?_
    refine fg_X8_10R (k := 0) (p := 1) C rfl rfl dX8_restore_14 rfl ?_
    refine g_aload_n C rfl dX8_restore_17 rfl ?_
    refine fg_X8_16R (k := 0) (p := 19) C rfl rfl dX8_restore_18 rfl ?_
    refine g_callVV C tw_752 tw_753 tw_754 tw_2 tw_755 hy_X7_copy (by decide) (by decide) rfl (Nat.le_of_ble_eq_true rfl) rfl rfl (ct_X7_copyB V_l1 V_l2   f ) dX8_restore_21 rfl rfl (fun f2 hp3 => ?_)
    replace h := h f2 hp3
    refine g_aload_n C rfl dX8_restore_24 rfl ?_
    refine fg_X8_10R (k := 0) (p := 1) C rfl rfl dX8_restore_25 rfl ?_
    refine fg_X8_161I (k := 1) (x := (f2 1 5)) C rfl rfl rfl dX8_restore_28 rfl ?_
    exact g_iret C dX8_restore_31 h
  · replace h := h.2 hc1
    refine g_aload_n C rfl dX8_restore_7 rfl ?_
    refine g_iconst C ki_2 dX8_restore_8 rfl ?_
    refine g_callVI C tw_324 tw_326 tp_0 tw_1 tw_327 hy_X8_error (by decide) (by decide) rfl (Nat.le_of_ble_eq_true rfl) rfl rfl (ct_X8_error V_l1 V_l2 V_m1 V_m2 V_x8   f (2 : Int32) ) dX8_restore_9 rfl rfl (fun r4 f5 hp6 => ?_)
    replace h := h r4 f5 hp6
    exact g_iret C dX8_restore_12 h
set_option maxRecDepth 100000 in
theorem ct_X8_restore (V_l1 : VC_l1) (V_l2 : VC_l2) (V_m1 : VC_m1) (V_m2 : VC_m2) (V_x8 : VC_x8) {l : Launch} {E : Ev}   (f : Fn)  (hpre : Pre_X8_restore f) : CT l E layC yX8_restore cX8_restore 1 (some .int) 4 [.ref (E.2.1 0)] f (pI (Post_X8_restore f)) := by
  refine CT.of (by decide +kernel) (Nat.le_of_ble_eq_true rfl) (fun Z hl9 hE9 hp9 C => ?_)
  subst hl9
  subst hE9
  exact wk_X8_restore V_l1 V_l2 V_m1 V_m2 V_x8 C   f  (by rw [hp9]; exact V_x8.2.2.2.2.2.2.2.2.2.2.2.2.2.2.2.2.2.2.2.2.2.2.2.2.2.2.2.2.2.2.2.2.2.2.2.2.2.2.2.2.2.2.2.1  f   hpre)
set_option maxHeartbeats 4000000 in
set_option maxRecDepth 100000 in
theorem wk_X8_tell (V_l1 : VC_l1) (V_l2 : VC_l2) (V_m1 : VC_m1) (V_m2 : VC_m2) (V_x8 : VC_x8) {Z : Zt}  (C : CX Z layC RX8 cX8_tell 2 (some .int) 2)     (f : Fn) (a1 : Int32) (h : wp_X8_tell  f a1 (zp Z)) : GG Z f [(0, .ref (zad Z 0)), (1, .int a1)] 0 [] := by
  refine g_aload_n C rfl dX8_tell_0 rfl ?_
  refine fg_X8_10R (k := 0) (p := 1) C rfl rfl dX8_tell_1 rfl ?_
  refine fg_X8_302I (k := 1) (x := (f 1 17)) C rfl rfl rfl dX8_tell_4 rfl ?_
  refine g_bipush C kb_20 dX8_tell_7 rfl ?_
  refine g_icmp_lt (tgt := 18) C dX8_tell_9 (by decide) rfl (fun hc1 => ?_) (fun hc1 => ?_)
  · replace h := h.1 hc1
    refine g_aload_n C rfl dX8_tell_18 rfl ?_
    refine fg_X8_10R (k := 0) (p := 1) C rfl rfl dX8_tell_19 rfl ?_
    refine g_iload_n C rfl dX8_tell_22 rfl ?_
    refine g_callVV C tw_772 tw_773 tw_774 tw_2 tw_775 hy_X7_addWaiting (by decide) (by decide) rfl (Nat.le_of_ble_eq_true rfl) rfl rfl (ct_X7_addWaiting V_l1 V_l2   f a1 ) dX8_tell_23 rfl rfl (fun f2 hp3 => ?_)
    replace h := h f2 hp3
    refine g_aload_n C rfl dX8_tell_26 rfl ?_
    refine fg_X8_10R (k := 0) (p := 1) C rfl rfl dX8_tell_27 rfl ?_
    refine fg_X8_302I (k := 1) (x := (f2 1 17)) C rfl rfl rfl dX8_tell_30 rfl ?_
    exact g_iret C dX8_tell_33 h
  · replace h := h.2 hc1
    refine g_aload_n C rfl dX8_tell_12 rfl ?_
    refine g_iconst C ki_4 dX8_tell_13 rfl ?_
    refine g_callVI C tw_324 tw_326 tp_0 tw_1 tw_327 hy_X8_error (by decide) (by decide) rfl (Nat.le_of_ble_eq_true rfl) rfl rfl (ct_X8_error V_l1 V_l2 V_m1 V_m2 V_x8   f (4 : Int32) ) dX8_tell_14 rfl rfl (fun r4 f5 hp6 => ?_)
    replace h := h r4 f5 hp6
    exact g_iret C dX8_tell_17 h
set_option maxRecDepth 100000 in
theorem ct_X8_tell (V_l1 : VC_l1) (V_l2 : VC_l2) (V_m1 : VC_m1) (V_m2 : VC_m2) (V_x8 : VC_x8) {l : Launch} {E : Ev}   (f : Fn) (a1 : Int32) (hpre : Pre_X8_tell f a1) : CT l E layC yX8_tell cX8_tell 2 (some .int) 2 [.ref (E.2.1 0), .int a1] f (pI (Post_X8_tell f a1)) := by
  refine CT.of (by decide +kernel) (Nat.le_of_ble_eq_true rfl) (fun Z hl9 hE9 hp9 C => ?_)
  subst hl9
  subst hE9
  exact wk_X8_tell V_l1 V_l2 V_m1 V_m2 V_x8 C   f a1 (by rw [hp9]; exact V_x8.2.2.2.2.2.2.2.2.2.2.2.2.2.2.2.2.2.2.2.2.2.2.2.2.2.2.2.2.2.2.2.2.2.2.2.2.2.2.2.2.2.2.2.2.1  f a1  hpre)
set_option maxHeartbeats 4000000 in
set_option maxRecDepth 100000 in
theorem wkb_X8_check_L18 (V_l1 : VC_l1) (V_l2 : VC_l2) (V_m1 : VC_m1) (V_m2 : VC_m2) (V_x8 : VC_x8) {Z : Zt}  (C : CX Z layC RX8 cX8_check 3 (some .int) 2)   {K18 : Fn → Int32 → Int32 → Prop} (hK18 : ∀ (f : Fn) (x1 : Int32) (x2 : Int32), K18 f x1 x2 → GG Z f [(0, .ref (zad Z 0)), (1, .int x1), (2, .int x2)] 18 []) (f : Fn) (x1 : Int32) (x2 : Int32) (h : wpb_X8_check_L18   K18 f x1 x2 (zp Z)) : GG Z f [(0, .ref (zad Z 0)), (1, .int x1), (2, .int x2)] 18 [] := by
  refine g_iload_n C rfl dX8_check_18 rfl ?_
  refine g_iload_n C rfl dX8_check_19 rfl ?_
  refine g_icmp_ge (tgt := 70) C dX8_check_20 (by decide) rfl (fun hc1 => ?_) (fun hc1 => ?_)
  · replace h := h.1 hc1
    refine g_iconst C ki_0 dX8_check_70 rfl ?_
    exact g_iret C dX8_check_71 h
  · replace h := h.2 hc1
    refine g_iload_n C rfl dX8_check_23 rfl ?_
    refine g_bipush C kb_20 dX8_check_24 rfl ?_
    refine g_icmp_ge (tgt := 70) C dX8_check_26 (by decide) rfl (fun hc2 => ?_) (fun hc2 => ?_)
    · replace h := h.1 hc2
      refine g_iconst C ki_0 dX8_check_70 rfl ?_
      exact g_iret C dX8_check_71 h
    · replace h := h.2 hc2
      refine g_aload_n C rfl dX8_check_29 rfl ?_
      refine fg_X8_10R (k := 0) (p := 1) C rfl rfl dX8_check_30 rfl ?_
      refine fg_X8_308R (k := 1) (p := 18) C rfl rfl dX8_check_33 rfl ?_
      refine g_iload_n C rfl dX8_check_36 rfl ?_
      have hs3 := h.1
      replace h := h.2
      refine g_ialdx (k := 18) (j := x2.toNatClampNeg) (x := (f 18 x2.toNatClampNeg)) C rfl hs3 rfl rfl dX8_check_37 rfl ?_
      refine g_aload_n C rfl dX8_check_38 rfl ?_
      refine fg_X8_10R (k := 0) (p := 1) C rfl rfl dX8_check_39 rfl ?_
      refine fg_X8_311R (k := 1) (p := 2) C rfl rfl dX8_check_42 rfl ?_
      refine g_aload_n C rfl dX8_check_45 rfl ?_
      refine fg_X8_10R (k := 0) (p := 1) C rfl rfl dX8_check_46 rfl ?_
      refine fg_X8_161I (k := 1) (x := (f 1 5)) C rfl rfl rfl dX8_check_49 rfl ?_
      refine g_iload_n C rfl dX8_check_52 rfl ?_
      refine g_iadd C dX8_check_53 rfl ?_
      refine g_callVD C tw_341 tw_342 tw_343 tw_3 tw_344 hy_X4_placeAt (by decide) (by decide) rfl (Nat.le_of_ble_eq_true rfl) rfl rfl (ct_X4_placeAt V_l1 2 rfl f ((f 1 5) + x2) ) dX8_check_54 rfl rfl ?_
      refine g_icmp_eq (tgt := 64) C dX8_check_57 (by decide) rfl (fun hc4 => ?_) (fun hc4 => ?_)
      · replace h := h.1 hc4
        refine g_iinc (lv' := [(2, .int (x2 + (1 : Int32))), (0, .ref (zad Z 0)), (1, .int x1)]) C dX8_check_64 rfl (inc_1 _) (by decide) rfl rfl ?_
        refine g_goto (q := 18) C dX8_check_67 (by decide) ?_
        refine g_lps [0, 1, 2] rfl ?_
        exact hK18 _ _ _ h
      · replace h := h.2 hc4
        refine g_iconst C ki_1 dX8_check_60 rfl ?_
        refine g_iload_n C rfl dX8_check_61 rfl ?_
        refine g_iadd C dX8_check_62 rfl ?_
        exact g_iret C dX8_check_63 h
set_option maxHeartbeats 4000000 in
set_option maxRecDepth 100000 in
theorem wk_X8_check_L18 (V_l1 : VC_l1) (V_l2 : VC_l2) (V_m1 : VC_m1) (V_m2 : VC_m2) (V_x8 : VC_x8) {Z : Zt}  (C : CX Z layC RX8 cX8_check 3 (some .int) 2)     (f : Fn) (x1 : Int32) (x2 : Int32) (h : wp_X8_check_L18   f x1 x2 (zp Z)) : GG Z f [(0, .ref (zad Z 0)), (1, .int x1), (2, .int x2)] 18 [] := by
  obtain ⟨I, μ, h0, hs⟩ := h
  suffices H : ∀ (N : Nat) (f : Fn) (x1 : Int32) (x2 : Int32), μ f x1 x2 < N → I f x1 x2 → GG Z f [(0, .ref (zad Z 0)), (1, .int x1), (2, .int x2)] 18 [] from H _ f x1 x2 (Nat.lt_succ_self _) h0
  clear h0
  intro N
  induction N with
  | zero => intro f x1 x2 hm; exact absurd hm (Nat.not_lt_zero _)
  | succ N ih =>
    intro f x1 x2 hm hi
    exact wkb_X8_check_L18 V_l1 V_l2 V_m1 V_m2 V_x8  C    (fun f9 x19 x29 hk => ih f9 x19 x29 (Nat.lt_of_lt_of_le hk.2 (Nat.le_of_lt_succ hm)) hk.1) f x1 x2 (hs f x1 x2 hi)
set_option maxHeartbeats 4000000 in
set_option maxRecDepth 100000 in
theorem wk_X8_check (V_l1 : VC_l1) (V_l2 : VC_l2) (V_m1 : VC_m1) (V_m2 : VC_m2) (V_x8 : VC_x8) {Z : Zt}  (C : CX Z layC RX8 cX8_check 3 (some .int) 2)     (f : Fn)  (h : wp_X8_check  f  (zp Z)) : GG Z f [(0, .ref (zad Z 0))] 0 [] := by
  refine g_aload_n C rfl dX8_check_0 rfl ?_
  refine fg_X8_10R (k := 0) (p := 1) C rfl rfl dX8_check_1 rfl ?_
  refine fg_X8_302I (k := 1) (x := (f 1 17)) C rfl rfl rfl dX8_check_4 rfl ?_
  refine g_istore_n (lv' := [(1, .int (f 1 17)), (0, .ref (zad Z 0))]) C dX8_check_7 (by decide) rfl rfl ?_
  refine g_aload_n C rfl dX8_check_8 rfl ?_
  refine fg_X8_10R (k := 0) (p := 1) C rfl rfl dX8_check_9 rfl ?_
  refine g_iconst C ki_0 dX8_check_12 rfl ?_
  refine fp_X8_302 (k := 1) C rfl rfl (Nat.le_of_ble_eq_true rfl) dX8_check_13 rfl ?_
  refine g_iconst C ki_0 dX8_check_16 rfl ?_
  refine g_istore_n (lv' := [(2, .int (0 : Int32)), (1, .int (f 1 17)), (0, .ref (zad Z 0))]) C dX8_check_17 (by decide) rfl rfl ?_
  refine g_lps [0, 1, 2] rfl ?_
  exact wk_X8_check_L18 V_l1 V_l2 V_m1 V_m2 V_x8  C    _ _ _ h
set_option maxRecDepth 100000 in
theorem ct_X8_check (V_l1 : VC_l1) (V_l2 : VC_l2) (V_m1 : VC_m1) (V_m2 : VC_m2) (V_x8 : VC_x8) {l : Launch} {E : Ev}   (f : Fn)  (hpre : Pre_X8_check f) : CT l E layC yX8_check cX8_check 3 (some .int) 2 [.ref (E.2.1 0)] f (pI (Post_X8_check f)) := by
  refine CT.of (by decide +kernel) (Nat.le_of_ble_eq_true rfl) (fun Z hl9 hE9 hp9 C => ?_)
  subst hl9
  subst hE9
  exact wk_X8_check V_l1 V_l2 V_m1 V_m2 V_x8 C   f  (by rw [hp9]; exact V_x8.2.2.2.2.2.2.2.2.2.2.2.2.2.2.2.2.2.2.2.2.2.2.2.2.2.2.2.2.2.2.2.2.2.2.2.2.2.2.2.2.2.2.2.2.2.1  f   hpre)
set_option maxHeartbeats 4000000 in
set_option maxRecDepth 100000 in
theorem wk_X8_count (V_l1 : VC_l1) (V_l2 : VC_l2) (V_m1 : VC_m1) (V_m2 : VC_m2) (V_x8 : VC_x8) {Z : Zt}  (C : CX Z layC RX8 cX8_count 2 (some .int) 2)     (f : Fn) (a1 : Int32) (h : wp_X8_count  f a1 (zp Z)) : GG Z f [(0, .ref (zad Z 0)), (1, .int a1)] 0 [] := by
  refine g_iload_n C rfl dX8_count_0 rfl ?_
  by_cases hk1_0 : a1 = (0 : Int32)
  · replace h := h.1 hk1_0
    refine g_tableIn (q := 64) (off := (63)) C dX8_count_1 (sw_in1 hk1_0 (by decide +kernel)) (sw_in2 hk1_0 (by decide +kernel)) (sw_ho hk1_0 (by decide +kernel)) (by decide) ?_
    refine g_aload_n C rfl dX8_count_64 rfl ?_
    refine fg_X8_10R (k := 0) (p := 1) C rfl rfl dX8_count_65 rfl ?_
    refine fg_X8_92I (k := 1) (x := (f 1 7)) C rfl rfl rfl dX8_count_68 rfl ?_
    exact g_iret C dX8_count_71 h
  by_cases hk1_1 : a1 = (1 : Int32)
  · replace h := h.2.1 hk1_1
    refine g_tableIn (q := 72) (off := (71)) C dX8_count_1 (sw_in1 hk1_1 (by decide +kernel)) (sw_in2 hk1_1 (by decide +kernel)) (sw_ho hk1_1 (by decide +kernel)) (by decide) ?_
    refine g_aload_n C rfl dX8_count_72 rfl ?_
    refine fg_X8_10R (k := 0) (p := 1) C rfl rfl dX8_count_73 rfl ?_
    refine fg_X8_161I (k := 1) (x := (f 1 5)) C rfl rfl rfl dX8_count_76 rfl ?_
    exact g_iret C dX8_count_79 h
  by_cases hk1_2 : a1 = (2 : Int32)
  · replace h := h.2.2.1 hk1_2
    refine g_tableIn (q := 80) (off := (79)) C dX8_count_1 (sw_in1 hk1_2 (by decide +kernel)) (sw_in2 hk1_2 (by decide +kernel)) (sw_ho hk1_2 (by decide +kernel)) (by decide) ?_
    refine g_aload_n C rfl dX8_count_80 rfl ?_
    refine fg_X8_10R (k := 0) (p := 1) C rfl rfl dX8_count_81 rfl ?_
    refine fg_X8_171I (k := 1) (x := (f 1 12)) C rfl rfl rfl dX8_count_84 rfl ?_
    exact g_iret C dX8_count_87 h
  by_cases hk1_3 : a1 = (3 : Int32)
  · replace h := h.2.2.2.1 hk1_3
    refine g_tableIn (q := 88) (off := (87)) C dX8_count_1 (sw_in1 hk1_3 (by decide +kernel)) (sw_in2 hk1_3 (by decide +kernel)) (sw_ho hk1_3 (by decide +kernel)) (by decide) ?_
    refine g_aload_n C rfl dX8_count_88 rfl ?_
    refine fg_X8_10R (k := 0) (p := 1) C rfl rfl dX8_count_89 rfl ?_
    refine fg_X8_315I (k := 1) (x := (f 1 13)) C rfl rfl rfl dX8_count_92 rfl ?_
    exact g_iret C dX8_count_95 h
  by_cases hk1_4 : a1 = (4 : Int32)
  · replace h := h.2.2.2.2.1 hk1_4
    refine g_tableIn (q := 96) (off := (95)) C dX8_count_1 (sw_in1 hk1_4 (by decide +kernel)) (sw_in2 hk1_4 (by decide +kernel)) (sw_ho hk1_4 (by decide +kernel)) (by decide) ?_
    refine g_aload_n C rfl dX8_count_96 rfl ?_
    refine fg_X8_10R (k := 0) (p := 1) C rfl rfl dX8_count_97 rfl ?_
    refine fg_X8_318I (k := 1) (x := (f 1 14)) C rfl rfl rfl dX8_count_100 rfl ?_
    exact g_iret C dX8_count_103 h
  by_cases hk1_5 : a1 = (5 : Int32)
  · replace h := h.2.2.2.2.2.1 hk1_5
    refine g_tableIn (q := 104) (off := (103)) C dX8_count_1 (sw_in1 hk1_5 (by decide +kernel)) (sw_in2 hk1_5 (by decide +kernel)) (sw_ho hk1_5 (by decide +kernel)) (by decide) ?_
    refine g_aload_n C rfl dX8_count_104 rfl ?_
    refine fg_X8_10R (k := 0) (p := 1) C rfl rfl dX8_count_105 rfl ?_
    refine fg_X8_78I (k := 1) (x := (f 1 2)) C rfl rfl rfl dX8_count_108 rfl ?_
    exact g_iret C dX8_count_111 h
  by_cases hk1_6 : a1 = (6 : Int32)
  · replace h := h.2.2.2.2.2.2.1 hk1_6
    refine g_tableIn (q := 112) (off := (111)) C dX8_count_1 (sw_in1 hk1_6 (by decide +kernel)) (sw_in2 hk1_6 (by decide +kernel)) (sw_ho hk1_6 (by decide +kernel)) (by decide) ?_
    refine g_aload_n C rfl dX8_count_112 rfl ?_
    refine fg_X8_10R (k := 0) (p := 1) C rfl rfl dX8_count_113 rfl ?_
    refine fg_X8_82I (k := 1) (x := (f 1 3)) C rfl rfl rfl dX8_count_116 rfl ?_
    exact g_iret C dX8_count_119 h
  by_cases hk1_7 : a1 = (7 : Int32)
  · replace h := h.2.2.2.2.2.2.2.1 hk1_7
    refine g_tableIn (q := 120) (off := (119)) C dX8_count_1 (sw_in1 hk1_7 (by decide +kernel)) (sw_in2 hk1_7 (by decide +kernel)) (sw_ho hk1_7 (by decide +kernel)) (by decide) ?_
    refine g_aload_n C rfl dX8_count_120 rfl ?_
    refine fg_X8_10R (k := 0) (p := 1) C rfl rfl dX8_count_121 rfl ?_
    refine fg_X8_85I (k := 1) (x := (f 1 4)) C rfl rfl rfl dX8_count_124 rfl ?_
    exact g_iret C dX8_count_127 h
  by_cases hk1_8 : a1 = (8 : Int32)
  · replace h := h.2.2.2.2.2.2.2.2.1 hk1_8
    refine g_tableIn (q := 128) (off := (127)) C dX8_count_1 (sw_in1 hk1_8 (by decide +kernel)) (sw_in2 hk1_8 (by decide +kernel)) (sw_ho hk1_8 (by decide +kernel)) (by decide) ?_
    refine g_aload_n C rfl dX8_count_128 rfl ?_
    refine fg_X8_10R (k := 0) (p := 1) C rfl rfl dX8_count_129 rfl ?_
    refine fg_X8_133I (k := 1) (x := (f 1 9)) C rfl rfl rfl dX8_count_132 rfl ?_
    exact g_iret C dX8_count_135 h
  by_cases hk1_9 : a1 = (9 : Int32)
  · replace h := h.2.2.2.2.2.2.2.2.2.1 hk1_9
    refine g_tableIn (q := 136) (off := (135)) C dX8_count_1 (sw_in1 hk1_9 (by decide +kernel)) (sw_in2 hk1_9 (by decide +kernel)) (sw_ho hk1_9 (by decide +kernel)) (by decide) ?_
    refine g_aload_n C rfl dX8_count_136 rfl ?_
    refine fg_X8_10R (k := 0) (p := 1) C rfl rfl dX8_count_137 rfl ?_
    refine fg_X8_302I (k := 1) (x := (f 1 17)) C rfl rfl rfl dX8_count_140 rfl ?_
    exact g_iret C dX8_count_143 h
  by_cases hk1_10 : a1 = (10 : Int32)
  · replace h := h.2.2.2.2.2.2.2.2.2.2.1 hk1_10
    refine g_tableIn (q := 144) (off := (143)) C dX8_count_1 (sw_in1 hk1_10 (by decide +kernel)) (sw_in2 hk1_10 (by decide +kernel)) (sw_ho hk1_10 (by decide +kernel)) (by decide) ?_
    refine g_aload_n C rfl dX8_count_144 rfl ?_
    refine fg_X8_38R (k := 0) (p := 44) C rfl rfl dX8_count_145 rfl ?_
    refine fg_X8_264I (k := 44) (x := (f 44 1)) C rfl rfl rfl dX8_count_148 rfl ?_
    exact g_iret C dX8_count_151 h
  by_cases hk1_11 : a1 = (11 : Int32)
  · replace h := h.2.2.2.2.2.2.2.2.2.2.2.1 hk1_11
    refine g_tableIn (q := 152) (off := (151)) C dX8_count_1 (sw_in1 hk1_11 (by decide +kernel)) (sw_in2 hk1_11 (by decide +kernel)) (sw_ho hk1_11 (by decide +kernel)) (by decide) ?_
    refine g_aload_n C rfl dX8_count_152 rfl ?_
    refine fg_X8_10R (k := 0) (p := 1) C rfl rfl dX8_count_153 rfl ?_
    refine fg_X8_257I (k := 1) (x := (f 1 15)) C rfl rfl rfl dX8_count_156 rfl ?_
    exact g_iret C dX8_count_159 h
  replace h := h.2.2.2.2.2.2.2.2.2.2.2.2 ⟨hk1_0, hk1_1, hk1_2, hk1_3, hk1_4, hk1_5, hk1_6, hk1_7, hk1_8, hk1_9, hk1_10, hk1_11⟩
  refine g_tableOut (q := 160) C dX8_count_1 (sw_out [(0 : Int32), (1 : Int32), (2 : Int32), (3 : Int32), (4 : Int32), (5 : Int32), (6 : Int32), (7 : Int32), (8 : Int32), (9 : Int32), (10 : Int32), (11 : Int32)] 12 (fun k9 hk9 => by simp only [List.mem_cons, List.not_mem_nil, or_false] at hk9; rcases hk9 with rfl | rfl | rfl | rfl | rfl | rfl | rfl | rfl | rfl | rfl | rfl | rfl <;> assumption) (by decide +kernel) (by decide +kernel)) (by decide) ?_
  refine g_aload_n C rfl dX8_count_160 rfl ?_
  refine g_iconst C ki_1 dX8_count_161 rfl ?_
  refine g_callVI C tw_324 tw_326 tp_0 tw_1 tw_327 hy_X8_error (by decide) (by decide) rfl (Nat.le_of_ble_eq_true rfl) rfl rfl (ct_X8_error V_l1 V_l2 V_m1 V_m2 V_x8   f (1 : Int32) ) dX8_count_162 rfl rfl (fun r2 f3 hp4 => ?_)
  replace h := h r2 f3 hp4
  exact g_iret C dX8_count_165 h
set_option maxRecDepth 100000 in
theorem ct_X8_count (V_l1 : VC_l1) (V_l2 : VC_l2) (V_m1 : VC_m1) (V_m2 : VC_m2) (V_x8 : VC_x8) {l : Launch} {E : Ev}   (f : Fn) (a1 : Int32) (hpre : Pre_X8_count f a1) : CT l E layC yX8_count cX8_count 2 (some .int) 2 [.ref (E.2.1 0), .int a1] f (pI (Post_X8_count f a1)) := by
  refine CT.of (by decide +kernel) (Nat.le_of_ble_eq_true rfl) (fun Z hl9 hE9 hp9 C => ?_)
  subst hl9
  subst hE9
  exact wk_X8_count V_l1 V_l2 V_m1 V_m2 V_x8 C   f a1 (by rw [hp9]; exact V_x8.2.2.2.2.2.2.2.2.2.2.2.2.2.2.2.2.2.2.2.2.2.2.2.2.2.2.2.2.2.2.2.2.2.2.2.2.2.2.2.2.2.2.2.2.2.2.1  f a1  hpre)
set_option maxHeartbeats 4000000 in
set_option maxRecDepth 100000 in
theorem wk_X8_told (V_l1 : VC_l1) (V_l2 : VC_l2) (V_m1 : VC_m1) (V_m2 : VC_m2) (V_x8 : VC_x8) {Z : Zt}  (C : CX Z layC RX8 cX8_told 2 (some .int) 2)     (f : Fn) (a1 : Int32) (h : wp_X8_told  f a1 (zp Z)) : GG Z f [(0, .ref (zad Z 0)), (1, .int a1)] 0 [] := by
  refine g_iload_n C rfl dX8_told_0 rfl ?_
  refine g_iconst C ki_1 dX8_told_1 rfl ?_
  refine g_iconst C ki_5 dX8_told_2 rfl ?_
  refine g_callSD C tw_328 tw_322 tw_1 tw_323 hy_X8_within (by decide) (by decide) rfl (Nat.le_of_ble_eq_true rfl) (ct_X8_within V_l1   f a1 (1 : Int32) (5 : Int32) ) dX8_told_3 rfl rfl ?_
  refine g_if_ne (tgt := 15) C dX8_told_6 (by decide) rfl (fun hc1 => ?_) (fun hc1 => ?_)
  · replace h := h.1 hc1
    refine g_aload_n C rfl dX8_told_15 rfl ?_
    refine fg_X8_48R (k := 0) (p := 56) C rfl rfl dX8_told_16 rfl ?_
    refine g_iload_n C rfl dX8_told_19 rfl ?_
    have hs2 := h.1
    replace h := h.2
    refine g_ialdx (k := 56) (j := a1.toNatClampNeg) (x := (f 56 a1.toNatClampNeg)) C rfl hs2 rfl rfl dX8_told_20 rfl ?_
    exact g_iret C dX8_told_21 h
  · replace h := h.2 hc1
    refine g_aload_n C rfl dX8_told_9 rfl ?_
    refine g_iconst C ki_1 dX8_told_10 rfl ?_
    refine g_callVI C tw_324 tw_326 tp_0 tw_1 tw_327 hy_X8_error (by decide) (by decide) rfl (Nat.le_of_ble_eq_true rfl) rfl rfl (ct_X8_error V_l1 V_l2 V_m1 V_m2 V_x8   f (1 : Int32) ) dX8_told_11 rfl rfl (fun r3 f4 hp5 => ?_)
    replace h := h r3 f4 hp5
    exact g_iret C dX8_told_14 h
set_option maxRecDepth 100000 in
theorem ct_X8_told (V_l1 : VC_l1) (V_l2 : VC_l2) (V_m1 : VC_m1) (V_m2 : VC_m2) (V_x8 : VC_x8) {l : Launch} {E : Ev}   (f : Fn) (a1 : Int32) (hpre : Pre_X8_told f a1) : CT l E layC yX8_told cX8_told 2 (some .int) 2 [.ref (E.2.1 0), .int a1] f (pI (Post_X8_told f a1)) := by
  refine CT.of (by decide +kernel) (Nat.le_of_ble_eq_true rfl) (fun Z hl9 hE9 hp9 C => ?_)
  subst hl9
  subst hE9
  exact wk_X8_told V_l1 V_l2 V_m1 V_m2 V_x8 C   f a1 (by rw [hp9]; exact V_x8.2.2.2.2.2.2.2.2.2.2.2.2.2.2.2.2.2.2.2.2.2.2.2.2.2.2.2.2.2.2.2.2.2.2.2.2.2.2.2.2.2.2.2.2.2.2.2.1  f a1  hpre)
