def Pre_X9_isSo  (f : Fn) (a1 : Int32) (a2 : Int32) : Prop := dOK (f 1) ∧ vp_in a1 6 ∧ vp_in a2 4 ∧ ∃ n : Nat, n ≤ 40 ∧ f 8 (ix a2) = nI n
def Post_X9_isSo  (f : Fn) (a1 : Int32) (a2 : Int32) (r : Int32) (f1 : Fn) : Prop := frG f f1 ∧ r = bI (asT (VMt f (ix a1)) (shN f (ix a2)) (ix (f 8 (ix a2))))
def Val_X9_isSheet  (f : Fn) (a1 : Int32) : Int32 := if inP a1 0 3 then 1 else 0
def Pre_X9_phases  (f : Fn) (a1 : Int32) (a2 : Int32) (a3 : Int32) : Prop := InvM f
def Post_X9_phases  (f : Fn) (a1 : Int32) (a2 : Int32) (a3 : Int32) (r : Int32) (f1 : Fn) : Prop := r = (RE_phases f a1 a2 a3).1 ∧ eqM (RE_phases f a1 a2 a3).2 f1
def Pre_X9_late  (f : Fn) (a1 : Int32) (a2 : Int32) : Prop := InvM f
def Post_X9_late  (f : Fn) (a1 : Int32) (a2 : Int32) (r : Int32) (f1 : Fn) : Prop := r = (RE_late f a1 a2).1 ∧ eqM (RE_late f a1 a2).2 f1
def Pre_X9_seed  (f : Fn) (a1 : Int32) : Prop := InvM f
def Post_X9_seed  (f : Fn) (a1 : Int32) (r : Int32) (f1 : Fn) : Prop := r = (RE_seed f a1).1 ∧ eqM (RE_seed f a1).2 f1
def Pre_X9_ran  (f : Fn) (a1 : Int32) : Prop := ¬ f 0 20 < 0
def Post_X9_ran  (f : Fn) (a1 : Int32) (f1 : Fn) : Prop := f1 = if f 0 20 < 40 then up2 (up2 f 6 (ix (f 0 20)) a1) 0 20 (f 0 20 + 1) else f
def Pre_X9_own  (f : Fn)  : Prop := vp_in (f 0 21) 6
def Val_X9_own  (f : Fn)  : Int32 := f 1 (fl4 (ix (f 0 21)))
def Pre_X9_swingsBy  (f : Fn) (a1 : Int32) (a2 : Int32) : Prop := kOK a1 ∧ vp_in (f 0 21) 6 ∧ kOK (f 1 (fl4 (ix (f 0 21)))) ∧ ∃ t : Nat, t + vlb 0 (klv a1) ≤ 40 ∧ f 0 20 = nI t
def Post_X9_swingsBy  (f : Fn) (a1 : Int32) (a2 : Int32) (r : Int32) (f1 : Fn) : Prop := (∀ d : Nat, 3 * awt 0 + klv a1 < d + 1 → r = (vo (f 1 (fl4 (ix (f 0 21)))) (f 0 21) (f 1 (fl4 (ix (f 0 21)) + 1)) (d + 2) 0 a1 a2).1 ∧ trA f f1 0 20 6 (vo (f 1 (fl4 (ix (f 0 21)))) (f 0 21) (f 1 (fl4 (ix (f 0 21)) + 1)) (d + 2) 0 a1 a2).2) ∧ (∀ a, ¬ a = 0 → ¬ a = 6 → f1 a = f a) ∧ (∀ j, ¬ j = 20 → f1 0 j = f 0 j)
def mu_X9_swingsBy  (f : Fn) (a1 : Int32) (a2 : Int32) : Nat := klv a1
def Pre_X9_fallsBy  (f : Fn) (a1 : Int32) (a2 : Int32) : Prop := kOK a1 ∧ vp_in (f 0 21) 6 ∧ kOK (f 1 (fl4 (ix (f 0 21)))) ∧ ∃ t : Nat, t + vlb 2 (klv a1) ≤ 40 ∧ f 0 20 = nI t
def Post_X9_fallsBy  (f : Fn) (a1 : Int32) (a2 : Int32) (r : Int32) (f1 : Fn) : Prop := (∀ d : Nat, 3 * awt 2 + klv a1 < d + 1 → r = (vo (f 1 (fl4 (ix (f 0 21)))) (f 0 21) (f 1 (fl4 (ix (f 0 21)) + 1)) (d + 2) 2 a1 a2).1 ∧ trA f f1 0 20 6 (vo (f 1 (fl4 (ix (f 0 21)))) (f 0 21) (f 1 (fl4 (ix (f 0 21)) + 1)) (d + 2) 2 a1 a2).2) ∧ (∀ a, ¬ a = 0 → ¬ a = 6 → f1 a = f a) ∧ (∀ j, ¬ j = 20 → f1 0 j = f 0 j)
def mu_X9_fallsBy  (f : Fn) (a1 : Int32) (a2 : Int32) : Nat := klv a1
def Pre_X9_fliesBy  (f : Fn) (a1 : Int32) (a2 : Int32) : Prop := kOK a1 ∧ vp_in (f 0 21) 6 ∧ kOK (f 1 (fl4 (ix (f 0 21)))) ∧ ∃ t : Nat, t + vlb 1 (klv a1) ≤ 40 ∧ f 0 20 = nI t
def Post_X9_fliesBy  (f : Fn) (a1 : Int32) (a2 : Int32) (r : Int32) (f1 : Fn) : Prop := (∀ d : Nat, 3 * awt 1 + klv a1 < d + 1 → r = (vo (f 1 (fl4 (ix (f 0 21)))) (f 0 21) (f 1 (fl4 (ix (f 0 21)) + 1)) (d + 2) 1 a1 a2).1 ∧ trA f f1 0 20 6 (vo (f 1 (fl4 (ix (f 0 21)))) (f 0 21) (f 1 (fl4 (ix (f 0 21)) + 1)) (d + 2) 1 a1 a2).2) ∧ (∀ a, ¬ a = 0 → ¬ a = 6 → f1 a = f a) ∧ (∀ j, ¬ j = 20 → f1 0 j = f 0 j)
def mu_X9_fliesBy  (f : Fn) (a1 : Int32) (a2 : Int32) : Nat := klv a1
def Pre_X9_tellsBy  (f : Fn) (a1 : Int32) (a2 : Int32) : Prop := kOK a1 ∧ vp_in (f 0 21) 6 ∧ kOK (f 1 (fl4 (ix (f 0 21)))) ∧ ∃ t : Nat, t + vlb 3 (klv a1) ≤ 40 ∧ f 0 20 = nI t
def Post_X9_tellsBy  (f : Fn) (a1 : Int32) (a2 : Int32) (r : Int32) (f1 : Fn) : Prop := (∀ d : Nat, 3 * awt 3 + klv a1 < d + 1 → r = (vo (f 1 (fl4 (ix (f 0 21)))) (f 0 21) (f 1 (fl4 (ix (f 0 21)) + 1)) (d + 2) 3 a1 a2).1 ∧ trA f f1 0 20 6 (vo (f 1 (fl4 (ix (f 0 21)))) (f 0 21) (f 1 (fl4 (ix (f 0 21)) + 1)) (d + 2) 3 a1 a2).2) ∧ (∀ a, ¬ a = 0 → ¬ a = 6 → f1 a = f a) ∧ (∀ j, ¬ j = 20 → f1 0 j = f 0 j)
def mu_X9_tellsBy  (f : Fn) (a1 : Int32) (a2 : Int32) : Nat := klv a1
def Pre_X9_voice  (f : Fn) (a1 : Int32) (a2 : Int32) (a3 : Int32) : Prop := InvM f
def Post_X9_voice  (f : Fn) (a1 : Int32) (a2 : Int32) (a3 : Int32) (r : Int32) (f1 : Fn) : Prop := r = (RE_voice f a1 a2 a3).1 ∧ eqM (RE_voice f a1 a2 a3).2 f1
def Pre_X9_trace  (f : Fn) (a1 : Int32) : Prop := InvM f
def Post_X9_trace  (f : Fn) (a1 : Int32) (r : Int32) (f1 : Fn) : Prop := r = (RE_trace f a1).1 ∧ eqM (RE_trace f a1).2 f1
def Pre_X9_sheet  (f : Fn) (a1 : Int32) (a2 : Int32) (a3 : Int32) : Prop := InvM f
def Post_X9_sheet  (f : Fn) (a1 : Int32) (a2 : Int32) (a3 : Int32) (r : Int32) (f1 : Fn) : Prop := r = (RE_sheet f a1 a2 a3).1 ∧ eqM (RE_sheet f a1 a2 a3).2 f1
def Pre_X9_put  (f : Fn) (a1 : Int32) (a2 : Int32) (a3 : Int32) : Prop := InvM f
def Post_X9_put  (f : Fn) (a1 : Int32) (a2 : Int32) (a3 : Int32) (r : Int32) (f1 : Fn) : Prop := r = (RE_put f a1 a2 a3).1 ∧ eqM (RE_put f a1 a2 a3).2 f1
def Pre_X9_move  (f : Fn) (a1 : Int32) (a2 : Int32) (a3 : Int32) (a4 : Int32) (a5 : Int32) : Prop := InvM f
def Post_X9_move  (f : Fn) (a1 : Int32) (a2 : Int32) (a3 : Int32) (a4 : Int32) (a5 : Int32) (r : Int32) (f1 : Fn) : Prop := r = (RE_move f a1 a2 a3 a4 a5).1 ∧ eqM (RE_move f a1 a2 a3 a4 a5).2 f1
def Pre_X9_turns  (f : Fn) (a1 : Int32) : Prop := InvM f
def Post_X9_turns  (f : Fn) (a1 : Int32) (r : Int32) (f1 : Fn) : Prop := r = (RE_turns f a1).1 ∧ eqM (RE_turns f a1).2 f1
def Pre_X9_judge  (f : Fn) (a1 : Int32) : Prop := InvM f
def Post_X9_judge  (f : Fn) (a1 : Int32) (r : Int32) (f1 : Fn) : Prop := r = (RE_judge f a1).1 ∧ eqM (RE_judge f a1).2 f1
def Pre_X9_image  (f : Fn)  : Prop := InvM f
def Post_X9_image  (f : Fn)  (r : Int32) (f1 : Fn) : Prop := r = (RE_image f ).1 ∧ eqM (RE_image f ).2 f1
def Pre_X9_restore  (f : Fn)  : Prop := InvM f
def Post_X9_restore  (f : Fn)  (r : Int32) (f1 : Fn) : Prop := r = (RE_restore f ).1 ∧ eqM (RE_restore f ).2 f1
def Pre_X9_tell  (f : Fn) (a1 : Int32) : Prop := InvM f
def Post_X9_tell  (f : Fn) (a1 : Int32) (r : Int32) (f1 : Fn) : Prop := r = (RE_tell f a1).1 ∧ eqM (RE_tell f a1).2 f1
def Pre_X9_check  (f : Fn)  : Prop := InvM f
def Post_X9_check  (f : Fn)  (r : Int32) (f1 : Fn) : Prop := r = (RE_check f ).1 ∧ eqM (RE_check f ).2 f1
def Pre_X9_count  (f : Fn) (a1 : Int32) : Prop := InvM f
def Post_X9_count  (f : Fn) (a1 : Int32) (r : Int32) (f1 : Fn) : Prop := r = (RE_count f a1).1 ∧ eqM (RE_count f a1).2 f1
def Pre_X9_told  (f : Fn) (a1 : Int32) : Prop := InvM f
def Post_X9_told  (f : Fn) (a1 : Int32) (r : Int32) (f1 : Fn) : Prop := r = (RE_told f a1).1 ∧ eqM (RE_told f a1).2 f1
def wp_X9_isSo_L58  (K5 : Fn → Int32 → Int32 → Int32 → Int32 → Prop) (f : Fn) (x1 : Int32) (x2 : Int32) (x4 : Int32) (s0 : Int32) (post : Option Value → Fn → Prop) : Prop :=
  (K5 f x1 x2 s0 (x4 + (1 : Int32)))
def wpb_X9_isSo_L5   (K5 : Fn → Int32 → Int32 → Int32 → Int32 → Prop) (f : Fn) (x1 : Int32) (x2 : Int32) (x3 : Int32) (x4 : Int32) (post : Option Value → Fn → Prop) : Prop :=
  (vp_in x2 4 ∧ (((f 8 x2.toNatClampNeg) ≤ x4 → ((x3 = 0 ∨ x3 = 1) ∧ (post (some (.int x3)) f))) ∧ (¬ (f 8 x2.toNatClampNeg) ≤ x4 → ((x3 = 0 → ((x3 = 0 ∨ x3 = 1) ∧ (post (some (.int x3)) f))) ∧ (¬ x3 = 0 → (Pre_X9_isTold f x1 ((f 1 1) + x4) ∧ (∀ f7 : Fn, Post_X9_isTold f x1 ((f 1 1) + x4) f7 → (Pre_X9_offNow f7 ∧ (vp_in (((40 : Int32) * x2) + x4) 160 ∧ ((¬ (Val_X9_offNow f7) = (f7 9 (((40 : Int32) * x2) + x4).toNatClampNeg) → (wp_X9_isSo_L58  K5 f7 x1 x2 x4 (0 : Int32) post)) ∧ ((Val_X9_offNow f7) = (f7 9 (((40 : Int32) * x2) + x4).toNatClampNeg) → (wp_X9_isSo_L58  K5 f7 x1 x2 x4 (1 : Int32) post))))))))))))
def wp_X9_isSo_L5   (f : Fn) (x1 : Int32) (x2 : Int32) (x3 : Int32) (x4 : Int32) (post : Option Value → Fn → Prop) : Prop :=
  ∃ (I : Fn → Int32 → Int32 → Int32 → Int32 → Prop) (μ : Fn → Int32 → Int32 → Int32 → Int32 → Nat), I f x1 x2 x3 x4 ∧ ∀ (f : Fn) (x1 : Int32) (x2 : Int32) (x3 : Int32) (x4 : Int32), I f x1 x2 x3 x4 → wpb_X9_isSo_L5   (fun (f9 : Fn) (x19 : Int32) (x29 : Int32) (x39 : Int32) (x49 : Int32) => I f9 x19 x29 x39 x49 ∧ μ f9 x19 x29 x39 x49 < μ f x1 x2 x3 x4) f x1 x2 x3 x4 post
def wp_X9_isSo  (f : Fn) (a1 : Int32) (a2 : Int32) (post : Option Value → Fn → Prop) : Prop :=
  (wp_X9_isSo_L5   f a1 a2 (1 : Int32) (0 : Int32) post)
def wp_X9_isSheet  (f : Fn) (a1 : Int32) (post : Option Value → Fn → Prop) : Prop :=
  (((Val_X9_in f a1.toInt64 (0 : Int64) (3 : Int64)) = 0 ∨ (Val_X9_in f a1.toInt64 (0 : Int64) (3 : Int64)) = 1) ∧ (post (some (.int (Val_X9_in f a1.toInt64 (0 : Int64) (3 : Int64)))) f))
def wp_X9_phases_L25   (f : Fn)  (post : Option Value → Fn → Prop) : Prop :=
  (Pre_X9_finds f (1 : Int32) ∧ (∀ (r3 : Int32) (f4 : Fn), Post_X9_finds f (1 : Int32) r3 f4 → (post (some (.int r3)) f4)))
def wp_X9_phases_L102  (K72 : Fn → Int32 → Int32 → Int32 → Int32 → Int32 → Int32 → Int32 → Prop) (f : Fn) (x1 : Int32) (x2 : Int32) (x3 : Int32) (x4 : Int32) (x5 : Int32) (x6 : Int32) (x7 : Int32) (post : Option Value → Fn → Prop) : Prop :=
  (K72 f x1 x2 x3 x4 x5 x6 (x7 + (-1 : Int32)))
def wpb_X9_phases_L72   (K72 : Fn → Int32 → Int32 → Int32 → Int32 → Int32 → Int32 → Int32 → Prop) (f : Fn) (x1 : Int32) (x2 : Int32) (x3 : Int32) (x4 : Int32) (x5 : Int32) (x6 : Int32) (x7 : Int32) (post : Option Value → Fn → Prop) : Prop :=
  ((x7 < 0 → ((¬ x5 = 0 → ((¬ x3 = 0 → (post (some (.int x5)) (up2 f 1 17 x4))) ∧ (x3 = 0 → (post (some (.int x6)) (up2 f 1 17 x4))))) ∧ (x5 = 0 → (Pre_X9_finds (up2 f 1 17 x4) (2 : Int32) ∧ (∀ (r14 : Int32) (f15 : Fn), Post_X9_finds (up2 f 1 17 x4) (2 : Int32) r14 f15 → (post (some (.int r14)) f15)))))) ∧ (¬ x7 < 0 → (Pre_X9_isSo (up2 f 1 17 x7) x1 x2 ∧ (∀ (r18 : Int32) (f19 : Fn), Post_X9_isSo (up2 f 1 17 x7) x1 x2 r18 f19 → ((r18 = 0 → (wp_X9_phases_L102  K72 f19 x1 x2 x3 x4 x5 x6 x7 post)) ∧ (¬ r18 = 0 → (wp_X9_phases_L102  K72 f19 x1 x2 x3 x4 (x5 + (1 : Int32)) x7 x7 post)))))))
def wp_X9_phases_L72   (f : Fn) (x1 : Int32) (x2 : Int32) (x3 : Int32) (x4 : Int32) (x5 : Int32) (x6 : Int32) (x7 : Int32) (post : Option Value → Fn → Prop) : Prop :=
  ∃ (I : Fn → Int32 → Int32 → Int32 → Int32 → Int32 → Int32 → Int32 → Prop) (μ : Fn → Int32 → Int32 → Int32 → Int32 → Int32 → Int32 → Int32 → Nat), I f x1 x2 x3 x4 x5 x6 x7 ∧ ∀ (f : Fn) (x1 : Int32) (x2 : Int32) (x3 : Int32) (x4 : Int32) (x5 : Int32) (x6 : Int32) (x7 : Int32), I f x1 x2 x3 x4 x5 x6 x7 → wpb_X9_phases_L72   (fun (f9 : Fn) (x19 : Int32) (x29 : Int32) (x39 : Int32) (x49 : Int32) (x59 : Int32) (x69 : Int32) (x79 : Int32) => I f9 x19 x29 x39 x49 x59 x69 x79 ∧ μ f9 x19 x29 x39 x49 x59 x69 x79 < μ f x1 x2 x3 x4 x5 x6 x7) f x1 x2 x3 x4 x5 x6 x7 post
def wp_X9_phases  (f : Fn) (a1 : Int32) (a2 : Int32) (a3 : Int32) (post : Option Value → Fn → Prop) : Prop :=
  (((Val_X9_isFlyer f a1) = 0 → (wp_X9_phases_L25   f  post)) ∧ (¬ (Val_X9_isFlyer f a1) = 0 → (((Val_X9_isSheet f a2) = 0 → (wp_X9_phases_L25   f  post)) ∧ (¬ (Val_X9_isSheet f a2) = 0 → ((¬ (Val_X9_in f a3.toInt64 (0 : Int64) (1 : Int64)) = 0 → (vp_in a2 4 ∧ ((¬ (f 7 a2.toNatClampNeg) = 0 → (wp_X9_phases_L72   f a1 a2 a3 (f 1 17) (0 : Int32) (0 : Int32) ((f 1 15) - (1 : Int32)) post)) ∧ ((f 7 a2.toNatClampNeg) = 0 → (Pre_X9_finds f (2 : Int32) ∧ (∀ (r23 : Int32) (f24 : Fn), Post_X9_finds f (2 : Int32) r23 f24 → (post (some (.int r23)) f24))))))) ∧ ((Val_X9_in f a3.toInt64 (0 : Int64) (1 : Int64)) = 0 → (wp_X9_phases_L25   f  post)))))))
def wp_X9_late_L15   (f : Fn)  (post : Option Value → Fn → Prop) : Prop :=
  (Pre_X9_finds f (1 : Int32) ∧ (∀ (r3 : Int32) (f4 : Fn), Post_X9_finds f (1 : Int32) r3 f4 → (post (some (.int r3)) f4)))
def wp_X9_late_L68  (K42 : Fn → Int32 → Int32 → Int32 → Int32 → Prop) (f : Fn) (x1 : Int32) (x2 : Int32) (x4 : Int32) (s0 : Int32) (post : Option Value → Fn → Prop) : Prop :=
  (K42 f x1 x2 s0 (x4 + (-1 : Int32)))
def wpb_X9_late_L42   (K42 : Fn → Int32 → Int32 → Int32 → Int32 → Prop) (f : Fn) (x1 : Int32) (x2 : Int32) (x3 : Int32) (x4 : Int32) (post : Option Value → Fn → Prop) : Prop :=
  ((x4 < 0 → ((0 ≤ x3 → (post (some (.int x3)) (up2 f 0 10 (-1 : Int32)))) ∧ (¬ 0 ≤ x3 → (Pre_X9_finds (up2 f 0 10 (-1 : Int32)) (2 : Int32) ∧ (∀ (r12 : Int32) (f13 : Fn), Post_X9_finds (up2 f 0 10 (-1 : Int32)) (2 : Int32) r12 f13 → (post (some (.int r12)) f13)))))) ∧ (¬ x4 < 0 → (Pre_X9_isSo (up2 f 0 10 x4) x1 x2 ∧ (∀ (r16 : Int32) (f17 : Fn), Post_X9_isSo (up2 f 0 10 x4) x1 x2 r16 f17 → ((r16 = 0 → (wp_X9_late_L68  K42 f17 x1 x2 x4 x3 post)) ∧ (¬ r16 = 0 → (wp_X9_late_L68  K42 f17 x1 x2 x4 x4 post)))))))
def wp_X9_late_L42   (f : Fn) (x1 : Int32) (x2 : Int32) (x3 : Int32) (x4 : Int32) (post : Option Value → Fn → Prop) : Prop :=
  ∃ (I : Fn → Int32 → Int32 → Int32 → Int32 → Prop) (μ : Fn → Int32 → Int32 → Int32 → Int32 → Nat), I f x1 x2 x3 x4 ∧ ∀ (f : Fn) (x1 : Int32) (x2 : Int32) (x3 : Int32) (x4 : Int32), I f x1 x2 x3 x4 → wpb_X9_late_L42   (fun (f9 : Fn) (x19 : Int32) (x29 : Int32) (x39 : Int32) (x49 : Int32) => I f9 x19 x29 x39 x49 ∧ μ f9 x19 x29 x39 x49 < μ f x1 x2 x3 x4) f x1 x2 x3 x4 post
def wp_X9_late  (f : Fn) (a1 : Int32) (a2 : Int32) (post : Option Value → Fn → Prop) : Prop :=
  (((Val_X9_isFlyer f a1) = 0 → (wp_X9_late_L15   f  post)) ∧ (¬ (Val_X9_isFlyer f a1) = 0 → ((¬ (Val_X9_isSheet f a2) = 0 → (vp_in a2 4 ∧ ((¬ (f 7 a2.toNatClampNeg) = 0 → (wp_X9_late_L42   f a1 a2 (-1 : Int32) (9 : Int32) post)) ∧ ((f 7 a2.toNatClampNeg) = 0 → (Pre_X9_finds f (2 : Int32) ∧ (∀ (r21 : Int32) (f22 : Fn), Post_X9_finds f (2 : Int32) r21 f22 → (post (some (.int r21)) f22))))))) ∧ ((Val_X9_isSheet f a2) = 0 → (wp_X9_late_L15   f  post)))))
def wp_X9_seed  (f : Fn) (a1 : Int32) (post : Option Value → Fn → Prop) : Prop :=
  (post (some (.int (f 1 8))) (up2 f 1 8 a1))
def wp_X9_ran  (f : Fn) (a1 : Int32) (post : Option Value → Fn → Prop) : Prop :=
  (((40 : Int32) ≤ (f 0 20) → (post none f)) ∧ (¬ (40 : Int32) ≤ (f 0 20) → (vp_in (f 0 20) 40 ∧ (post none (up2 (up2 f 6 (f 0 20).toNatClampNeg a1) 0 20 ((f 0 20) + (1 : Int32)))))))
def wp_X9_own  (f : Fn)  (post : Option Value → Fn → Prop) : Prop :=
  (Pre_X9_of f (f 0 21) (0 : Int32) ∧ (post (some (.int (Val_X9_of f (f 0 21) (0 : Int32)))) f))
def wp_X9_swingsBy (m0 : Nat)  (f : Fn) (a1 : Int32) (a2 : Int32) (post : Option Value → Fn → Prop) : Prop :=
  ((a1 = (0 : Int32) → (Pre_X9_ran f (10 : Int32) ∧ (∀ f3 : Fn, Post_X9_ran f (10 : Int32) f3 → (post (some (.int (a2 + (f3 0 21)))) f3)))) ∧ (a1 = (1 : Int32) → (Pre_X9_ran f (20 : Int32) ∧ (∀ f6 : Fn, Post_X9_ran f (20 : Int32) f6 → (Pre_X9_swingsBy f6 (Val_X9_above f6 (1 : Int32)) a2 ∧ (mu_X9_swingsBy f6 (Val_X9_above f6 (1 : Int32)) a2 < m0 ∧ (∀ (r10 : Int32) (f11 : Fn), Post_X9_swingsBy f6 (Val_X9_above f6 (1 : Int32)) a2 r10 f11 → (post (some (.int (r10 * (3 : Int32)))) f11))))))) ∧ (¬ a1 = (0 : Int32) ∧ ¬ a1 = (1 : Int32) → (Pre_X9_swingsBy f (Val_X9_above f a1) a2 ∧ (mu_X9_swingsBy f (Val_X9_above f a1) a2 < m0 ∧ (∀ (r15 : Int32) (f16 : Fn), Post_X9_swingsBy f (Val_X9_above f a1) a2 r15 f16 → (post (some (.int r15)) f16))))))
def wp_X9_fallsBy (m0 : Nat)  (f : Fn) (a1 : Int32) (a2 : Int32) (post : Option Value → Fn → Prop) : Prop :=
  ((a1 = (0 : Int32) → (Pre_X9_ran f (12 : Int32) ∧ (∀ f3 : Fn, Post_X9_ran f (12 : Int32) f3 → (Pre_X9_of f3 (f3 0 21) (1 : Int32) ∧ (post (some (.int (a2 - (Val_X9_of f3 (f3 0 21) (1 : Int32))))) f3))))) ∧ (a1 = (3 : Int32) → (Pre_X9_ran f (40 : Int32) ∧ (∀ f7 : Fn, Post_X9_ran f (40 : Int32) f7 → (Pre_X9_fallsBy f7 (Val_X9_above f7 (3 : Int32)) a2 ∧ (mu_X9_fallsBy f7 (Val_X9_above f7 (3 : Int32)) a2 < m0 ∧ (∀ (r11 : Int32) (f12 : Fn), Post_X9_fallsBy f7 (Val_X9_above f7 (3 : Int32)) a2 r11 f12 → (post (some (.int (-r11))) f12))))))) ∧ (a1 = (6 : Int32) → (Pre_X9_ran f (70 : Int32) ∧ (∀ f15 : Fn, Post_X9_ran f (70 : Int32) f15 → (Pre_X9_fallsBy f15 (Val_X9_above f15 (6 : Int32)) a2 ∧ (mu_X9_fallsBy f15 (Val_X9_above f15 (6 : Int32)) a2 < m0 ∧ (∀ (r19 : Int32) (f20 : Fn), Post_X9_fallsBy f15 (Val_X9_above f15 (6 : Int32)) a2 r19 f20 → (post (some (.int (r19 ^^^ (f20 0 21)))) f20))))))) ∧ (¬ a1 = (0 : Int32) ∧ ¬ a1 = (3 : Int32) ∧ ¬ a1 = (6 : Int32) → (Pre_X9_fallsBy f (Val_X9_above f a1) a2 ∧ (mu_X9_fallsBy f (Val_X9_above f a1) a2 < m0 ∧ (∀ (r24 : Int32) (f25 : Fn), Post_X9_fallsBy f (Val_X9_above f a1) a2 r24 f25 → (post (some (.int r24)) f25))))))
def wp_X9_fliesBy (m0 : Nat)  (f : Fn) (a1 : Int32) (a2 : Int32) (post : Option Value → Fn → Prop) : Prop :=
  ((a1 = (0 : Int32) → (Pre_X9_ran f (11 : Int32) ∧ (∀ f3 : Fn, Post_X9_ran f (11 : Int32) f3 → (Pre_X9_own f3 ∧ (Pre_X9_swingsBy f3 (Val_X9_own f3) a2 ∧ (∀ (r7 : Int32) (f8 : Fn), Post_X9_swingsBy f3 (Val_X9_own f3) a2 r7 f8 → (post (some (.int (r7 * (2 : Int32)))) f8))))))) ∧ (a1 = (2 : Int32) → (Pre_X9_ran f (30 : Int32) ∧ (∀ f11 : Fn, Post_X9_ran f (30 : Int32) f11 → (Pre_X9_fliesBy f11 (Val_X9_above f11 (2 : Int32)) a2 ∧ (mu_X9_fliesBy f11 (Val_X9_above f11 (2 : Int32)) a2 < m0 ∧ (∀ (r15 : Int32) (f16 : Fn), Post_X9_fliesBy f11 (Val_X9_above f11 (2 : Int32)) a2 r15 f16 → (Pre_X9_own f16 ∧ (Pre_X9_fallsBy f16 (Val_X9_own f16) (1 : Int32) ∧ (∀ (r20 : Int32) (f21 : Fn), Post_X9_fallsBy f16 (Val_X9_own f16) (1 : Int32) r20 f21 → (post (some (.int (r15 - r20))) f21)))))))))) ∧ (a1 = (5 : Int32) → (Pre_X9_ran f (60 : Int32) ∧ (∀ f24 : Fn, Post_X9_ran f (60 : Int32) f24 → (Pre_X9_fliesBy f24 (Val_X9_above f24 (5 : Int32)) (a2 + (1 : Int32)) ∧ (mu_X9_fliesBy f24 (Val_X9_above f24 (5 : Int32)) (a2 + (1 : Int32)) < m0 ∧ (∀ (r28 : Int32) (f29 : Fn), Post_X9_fliesBy f24 (Val_X9_above f24 (5 : Int32)) (a2 + (1 : Int32)) r28 f29 → (post (some (.int r28)) f29))))))) ∧ (¬ a1 = (0 : Int32) ∧ ¬ a1 = (2 : Int32) ∧ ¬ a1 = (5 : Int32) → (Pre_X9_fliesBy f (Val_X9_above f a1) a2 ∧ (mu_X9_fliesBy f (Val_X9_above f a1) a2 < m0 ∧ (∀ (r33 : Int32) (f34 : Fn), Post_X9_fliesBy f (Val_X9_above f a1) a2 r33 f34 → (post (some (.int r33)) f34))))))
def wp_X9_tellsBy (m0 : Nat)  (f : Fn) (a1 : Int32) (a2 : Int32) (post : Option Value → Fn → Prop) : Prop :=
  ((a1 = (0 : Int32) → (Pre_X9_ran f (13 : Int32) ∧ (∀ f3 : Fn, Post_X9_ran f (13 : Int32) f3 → (Pre_X9_own f3 ∧ (Pre_X9_fliesBy f3 (Val_X9_own f3) a2 ∧ (∀ (r7 : Int32) (f8 : Fn), Post_X9_fliesBy f3 (Val_X9_own f3) a2 r7 f8 → (Pre_X9_own f8 ∧ (Pre_X9_fallsBy f8 (Val_X9_own f8) a2 ∧ (∀ (r12 : Int32) (f13 : Fn), Post_X9_fallsBy f8 (Val_X9_own f8) a2 r12 f13 → (post (some (.int (r7 ^^^ r12))) f13)))))))))) ∧ (a1 = (4 : Int32) → (Pre_X9_ran f (50 : Int32) ∧ (∀ f16 : Fn, Post_X9_ran f (50 : Int32) f16 → (Pre_X9_tellsBy f16 (Val_X9_above f16 (4 : Int32)) a2 ∧ (mu_X9_tellsBy f16 (Val_X9_above f16 (4 : Int32)) a2 < m0 ∧ (∀ (r20 : Int32) (f21 : Fn), Post_X9_tellsBy f16 (Val_X9_above f16 (4 : Int32)) a2 r20 f21 → (Pre_X9_own f21 ∧ (Pre_X9_swingsBy f21 (Val_X9_own f21) (2 : Int32) ∧ (∀ (r25 : Int32) (f26 : Fn), Post_X9_swingsBy f21 (Val_X9_own f21) (2 : Int32) r25 f26 → (post (some (.int (r20 - r25))) f26)))))))))) ∧ (a1 = (6 : Int32) → (Pre_X9_ran f (71 : Int32) ∧ (∀ f29 : Fn, Post_X9_ran f (71 : Int32) f29 → (Pre_X9_own f29 ∧ (Pre_X9_fliesBy f29 (Val_X9_own f29) a2 ∧ (∀ (r33 : Int32) (f34 : Fn), Post_X9_fliesBy f29 (Val_X9_own f29) a2 r33 f34 → (Pre_X9_tellsBy f34 (Val_X9_above f34 (6 : Int32)) a2 ∧ (mu_X9_tellsBy f34 (Val_X9_above f34 (6 : Int32)) a2 < m0 ∧ (∀ (r38 : Int32) (f39 : Fn), Post_X9_tellsBy f34 (Val_X9_above f34 (6 : Int32)) a2 r38 f39 → (post (some (.int (r33 - r38))) f39)))))))))) ∧ (¬ a1 = (0 : Int32) ∧ ¬ a1 = (4 : Int32) ∧ ¬ a1 = (6 : Int32) → (Pre_X9_tellsBy f (Val_X9_above f a1) a2 ∧ (mu_X9_tellsBy f (Val_X9_above f a1) a2 < m0 ∧ (∀ (r43 : Int32) (f44 : Fn), Post_X9_tellsBy f (Val_X9_above f a1) a2 r43 f44 → (post (some (.int r43)) f44))))))
def wp_X9_voice_L20   (f : Fn)  (post : Option Value → Fn → Prop) : Prop :=
  (Pre_X9_finds f (1 : Int32) ∧ (∀ (r3 : Int32) (f4 : Fn), Post_X9_finds f (1 : Int32) r3 f4 → (post (some (.int r3)) f4)))
def wp_X9_voice  (f : Fn) (a1 : Int32) (a2 : Int32) (a3 : Int32) (post : Option Value → Fn → Prop) : Prop :=
  (((Val_X9_isFlyer f a1) = 0 → (wp_X9_voice_L20   f  post)) ∧ (¬ (Val_X9_isFlyer f a1) = 0 → ((¬ (Val_X9_in f a2.toInt64 (0 : Int64) (3 : Int64)) = 0 → (Pre_X9_own (up2 (up2 f 0 20 (0 : Int32)) 0 21 a1) ∧ ((¬ a2 = 0 → ((¬ a2 = (1 : Int32) → ((¬ a2 = (2 : Int32) → (Pre_X9_tellsBy (up2 (up2 f 0 20 (0 : Int32)) 0 21 a1) (Val_X9_own (up2 (up2 f 0 20 (0 : Int32)) 0 21 a1)) a3 ∧ (∀ (r12 : Int32) (f13 : Fn), Post_X9_tellsBy (up2 (up2 f 0 20 (0 : Int32)) 0 21 a1) (Val_X9_own (up2 (up2 f 0 20 (0 : Int32)) 0 21 a1)) a3 r12 f13 → (post (some (.int r12)) f13)))) ∧ (a2 = (2 : Int32) → (Pre_X9_fallsBy (up2 (up2 f 0 20 (0 : Int32)) 0 21 a1) (Val_X9_own (up2 (up2 f 0 20 (0 : Int32)) 0 21 a1)) a3 ∧ (∀ (r16 : Int32) (f17 : Fn), Post_X9_fallsBy (up2 (up2 f 0 20 (0 : Int32)) 0 21 a1) (Val_X9_own (up2 (up2 f 0 20 (0 : Int32)) 0 21 a1)) a3 r16 f17 → (post (some (.int r16)) f17)))))) ∧ (a2 = (1 : Int32) → (Pre_X9_fliesBy (up2 (up2 f 0 20 (0 : Int32)) 0 21 a1) (Val_X9_own (up2 (up2 f 0 20 (0 : Int32)) 0 21 a1)) a3 ∧ (∀ (r20 : Int32) (f21 : Fn), Post_X9_fliesBy (up2 (up2 f 0 20 (0 : Int32)) 0 21 a1) (Val_X9_own (up2 (up2 f 0 20 (0 : Int32)) 0 21 a1)) a3 r20 f21 → (post (some (.int r20)) f21)))))) ∧ (a2 = 0 → (Pre_X9_swingsBy (up2 (up2 f 0 20 (0 : Int32)) 0 21 a1) (Val_X9_own (up2 (up2 f 0 20 (0 : Int32)) 0 21 a1)) a3 ∧ (∀ (r24 : Int32) (f25 : Fn), Post_X9_swingsBy (up2 (up2 f 0 20 (0 : Int32)) 0 21 a1) (Val_X9_own (up2 (up2 f 0 20 (0 : Int32)) 0 21 a1)) a3 r24 f25 → (post (some (.int r24)) f25))))))) ∧ ((Val_X9_in f a2.toInt64 (0 : Int64) (3 : Int64)) = 0 → (wp_X9_voice_L20   f  post)))))
def wp_X9_trace  (f : Fn) (a1 : Int32) (post : Option Value → Fn → Prop) : Prop :=
  (((Val_X9_in f a1.toInt64 (0 : Int64) ((f 0 20) - (1 : Int32)).toInt64) = 0 → (Pre_X9_finds f (2 : Int32) ∧ (∀ (r3 : Int32) (f4 : Fn), Post_X9_finds f (2 : Int32) r3 f4 → (post (some (.int r3)) f4)))) ∧ (¬ (Val_X9_in f a1.toInt64 (0 : Int64) ((f 0 20) - (1 : Int32)).toInt64) = 0 → (vp_in a1 40 ∧ (post (some (.int (f 6 a1.toNatClampNeg))) f))))
def wp_X9_sheet_L29   (f : Fn)  (post : Option Value → Fn → Prop) : Prop :=
  (Pre_X9_finds f (1 : Int32) ∧ (∀ (r3 : Int32) (f4 : Fn), Post_X9_finds f (1 : Int32) r3 f4 → (post (some (.int r3)) f4)))
def wpb_X9_sheet_L90   (K90 : Fn → Int32 → Int32 → Prop) (f : Fn) (x1 : Int32) (x4 : Int32) (post : Option Value → Fn → Prop) : Prop :=
  (((40 : Int32) ≤ x4 → (post (some (.int (1 : Int32))) f)) ∧ (¬ (40 : Int32) ≤ x4 → (vp_in (((40 : Int32) * x1) + x4) 160 ∧ (K90 (up2 f 9 (((40 : Int32) * x1) + x4).toNatClampNeg (0 : Int32)) x1 (x4 + (1 : Int32))))))
def wp_X9_sheet_L90   (f : Fn) (x1 : Int32) (x4 : Int32) (post : Option Value → Fn → Prop) : Prop :=
  ∃ (I : Fn → Int32 → Int32 → Prop) (μ : Fn → Int32 → Int32 → Nat), I f x1 x4 ∧ ∀ (f : Fn) (x1 : Int32) (x4 : Int32), I f x1 x4 → wpb_X9_sheet_L90   (fun (f9 : Fn) (x19 : Int32) (x49 : Int32) => I f9 x19 x49 ∧ μ f9 x19 x49 < μ f x1 x4) f x1 x4 post
def wp_X9_sheet_L86   (f : Fn) (x1 : Int32) (s0 : Int32) (s1 : Int32) (post : Option Value → Fn → Prop) : Prop :=
  (vp_in s1 4 ∧ (wp_X9_sheet_L90   (up2 f 8 s1.toNatClampNeg s0) x1 (0 : Int32) post))
def wp_X9_sheet_L65   (f : Fn) (x1 : Int32) (x2 : Int32) (x3 : Int32) (post : Option Value → Fn → Prop) : Prop :=
  (vp_in x1 4 ∧ ((¬ x2 = 0 → (wp_X9_sheet_L86   (up2 f 7 x1.toNatClampNeg x2) x1 x3 x1 post)) ∧ (x2 = 0 → (wp_X9_sheet_L86   (up2 f 7 x1.toNatClampNeg x2) x1 (0 : Int32) x1 post))))
def wp_X9_sheet_L49   (f : Fn) (x1 : Int32) (x2 : Int32) (x3 : Int32) (post : Option Value → Fn → Prop) : Prop :=
  ((x2 = 0 → (wp_X9_sheet_L65   f x1 x2 x3 post)) ∧ (¬ x2 = 0 → ((x3 ≤ (40 : Int32) → (wp_X9_sheet_L65   f x1 x2 x3 post)) ∧ (¬ x3 ≤ (40 : Int32) → (Pre_X9_finds f (1 : Int32) ∧ (∀ (r16 : Int32) (f17 : Fn), Post_X9_finds f (1 : Int32) r16 f17 → (post (some (.int r16)) f17)))))))
def wp_X9_sheet_L35   (f : Fn) (x1 : Int32) (x2 : Int32) (x3 : Int32) (post : Option Value → Fn → Prop) : Prop :=
  ((x2 = 0 → (wp_X9_sheet_L49   f x1 x2 x3 post)) ∧ (¬ x2 = 0 → ((0 ≤ x3 → (wp_X9_sheet_L49   f x1 x2 x3 post)) ∧ (¬ 0 ≤ x3 → (Pre_X9_finds f (3 : Int32) ∧ (∀ (r21 : Int32) (f22 : Fn), Post_X9_finds f (3 : Int32) r21 f22 → (post (some (.int r21)) f22)))))))
def wp_X9_sheet  (f : Fn) (a1 : Int32) (a2 : Int32) (a3 : Int32) (post : Option Value → Fn → Prop) : Prop :=
  (((Val_X9_isSheet f a1) = 0 → (wp_X9_sheet_L29   f  post)) ∧ (¬ (Val_X9_isSheet f a1) = 0 → ((a2 = 0 → (wp_X9_sheet_L35   f a1 a2 a3 post)) ∧ (¬ a2 = 0 → ((a2 = (8 : Int32) → (wp_X9_sheet_L35   f a1 a2 a3 post)) ∧ (¬ a2 = (8 : Int32) → ((a2 = (16 : Int32) → (wp_X9_sheet_L35   f a1 a2 a3 post)) ∧ (¬ a2 = (16 : Int32) → ((a2 = (32 : Int32) → (wp_X9_sheet_L35   f a1 a2 a3 post)) ∧ (¬ a2 = (32 : Int32) → (wp_X9_sheet_L29   f  post)))))))))))
def wp_X9_put_L95   (f : Fn) (s0 : Int32) (s1 : Int32) (post : Option Value → Fn → Prop) : Prop :=
  (vp_in s1 160 ∧ (post (some (.int (1 : Int32))) (up2 f 9 s1.toNatClampNeg s0)))
def wp_X9_put  (f : Fn) (a1 : Int32) (a2 : Int32) (a3 : Int32) (post : Option Value → Fn → Prop) : Prop :=
  ((¬ (Val_X9_isSheet f a1) = 0 → (vp_in a1 4 ∧ ((¬ (f 7 a1.toNatClampNeg) = 0 → (vp_in a1 4 ∧ ((¬ (Val_X9_in f a2.toInt64 (0 : Int64) ((f 8 a1.toNatClampNeg) - (1 : Int32)).toInt64) = 0 → (vp_in a1 4 ∧ ((¬ (f 7 a1.toNatClampNeg) = (8 : Int32) → (vp_in a1 4 ∧ ((¬ (f 7 a1.toNatClampNeg) = (16 : Int32) → (wp_X9_put_L95   f a3 (((40 : Int32) * a1) + a2) post)) ∧ ((f 7 a1.toNatClampNeg) = (16 : Int32) → (wp_X9_put_L95   f a3.toInt16.toInt32 (((40 : Int32) * a1) + a2) post))))) ∧ ((f 7 a1.toNatClampNeg) = (8 : Int32) → (wp_X9_put_L95   f a3.toInt8.toInt32 (((40 : Int32) * a1) + a2) post))))) ∧ ((Val_X9_in f a2.toInt64 (0 : Int64) ((f 8 a1.toNatClampNeg) - (1 : Int32)).toInt64) = 0 → (Pre_X9_finds f (1 : Int32) ∧ (∀ (r12 : Int32) (f13 : Fn), Post_X9_finds f (1 : Int32) r12 f13 → (post (some (.int r12)) f13))))))) ∧ ((f 7 a1.toNatClampNeg) = 0 → (Pre_X9_finds f (2 : Int32) ∧ (∀ (r16 : Int32) (f17 : Fn), Post_X9_finds f (2 : Int32) r16 f17 → (post (some (.int r16)) f17))))))) ∧ ((Val_X9_isSheet f a1) = 0 → (Pre_X9_finds f (1 : Int32) ∧ (∀ (r20 : Int32) (f21 : Fn), Post_X9_finds f (1 : Int32) r20 f21 → (post (some (.int r20)) f21)))))
def wp_X9_move_L14   (f : Fn)  (post : Option Value → Fn → Prop) : Prop :=
  (Pre_X9_finds f (1 : Int32) ∧ (∀ (r3 : Int32) (f4 : Fn), Post_X9_finds f (1 : Int32) r3 f4 → (post (some (.int r3)) f4)))
def wp_X9_move_L38   (f : Fn)  (post : Option Value → Fn → Prop) : Prop :=
  (Pre_X9_finds f (2 : Int32) ∧ (∀ (r10 : Int32) (f11 : Fn), Post_X9_finds f (2 : Int32) r10 f11 → (post (some (.int r10)) f11)))
def wp_X9_move_L106   (f : Fn)  (post : Option Value → Fn → Prop) : Prop :=
  (Pre_X9_finds f (1 : Int32) ∧ (∀ (r20 : Int32) (f21 : Fn), Post_X9_finds f (1 : Int32) r20 f21 → (post (some (.int r20)) f21)))
def wpb_X9_move_L152   (K152 : Fn → Int32 → Int32 → Int32 → Int32 → Prop) (f : Fn) (x3 : Int32) (x4 : Int32) (x5 : Int32) (x6 : Int32) (post : Option Value → Fn → Prop) : Prop :=
  ((x5 ≤ x6 → (post (some (.int x5)) f)) ∧ (¬ x5 ≤ x6 → (vp_in x6 40 ∧ (vp_in ((((40 : Int32) * x3) + x4) + x6) 160 ∧ (K152 (up2 f 9 ((((40 : Int32) * x3) + x4) + x6).toNatClampNeg (f 10 x6.toNatClampNeg)) x3 x4 x5 (x6 + (1 : Int32)))))))
def wp_X9_move_L152   (f : Fn) (x3 : Int32) (x4 : Int32) (x5 : Int32) (x6 : Int32) (post : Option Value → Fn → Prop) : Prop :=
  ∃ (I : Fn → Int32 → Int32 → Int32 → Int32 → Prop) (μ : Fn → Int32 → Int32 → Int32 → Int32 → Nat), I f x3 x4 x5 x6 ∧ ∀ (f : Fn) (x3 : Int32) (x4 : Int32) (x5 : Int32) (x6 : Int32), I f x3 x4 x5 x6 → wpb_X9_move_L152   (fun (f9 : Fn) (x39 : Int32) (x49 : Int32) (x59 : Int32) (x69 : Int32) => I f9 x39 x49 x59 x69 ∧ μ f9 x39 x49 x59 x69 < μ f x3 x4 x5 x6) f x3 x4 x5 x6 post
def wpb_X9_move_L115   (K115 : Fn → Int32 → Int32 → Int32 → Int32 → Int32 → Int32 → Prop) (f : Fn) (x1 : Int32) (x2 : Int32) (x3 : Int32) (x4 : Int32) (x5 : Int32) (x6 : Int32) (post : Option Value → Fn → Prop) : Prop :=
  ((x5 ≤ x6 → (wp_X9_move_L152   f x3 x4 x5 (0 : Int32) post)) ∧ (¬ x5 ≤ x6 → (vp_in ((((40 : Int32) * x1) + x2) + x6) 160 ∧ (vp_in x6 40 ∧ (K115 (up2 f 10 x6.toNatClampNeg (f 9 ((((40 : Int32) * x1) + x2) + x6).toNatClampNeg)) x1 x2 x3 x4 x5 (x6 + (1 : Int32)))))))
def wp_X9_move_L115   (f : Fn) (x1 : Int32) (x2 : Int32) (x3 : Int32) (x4 : Int32) (x5 : Int32) (x6 : Int32) (post : Option Value → Fn → Prop) : Prop :=
  ∃ (I : Fn → Int32 → Int32 → Int32 → Int32 → Int32 → Int32 → Prop) (μ : Fn → Int32 → Int32 → Int32 → Int32 → Int32 → Int32 → Nat), I f x1 x2 x3 x4 x5 x6 ∧ ∀ (f : Fn) (x1 : Int32) (x2 : Int32) (x3 : Int32) (x4 : Int32) (x5 : Int32) (x6 : Int32), I f x1 x2 x3 x4 x5 x6 → wpb_X9_move_L115   (fun (f9 : Fn) (x19 : Int32) (x29 : Int32) (x39 : Int32) (x49 : Int32) (x59 : Int32) (x69 : Int32) => I f9 x19 x29 x39 x49 x59 x69 ∧ μ f9 x19 x29 x39 x49 x59 x69 < μ f x1 x2 x3 x4 x5 x6) f x1 x2 x3 x4 x5 x6 post
def wp_X9_move  (f : Fn) (a1 : Int32) (a2 : Int32) (a3 : Int32) (a4 : Int32) (a5 : Int32) (post : Option Value → Fn → Prop) : Prop :=
  (((Val_X9_isSheet f a1) = 0 → (wp_X9_move_L14   f  post)) ∧ (¬ (Val_X9_isSheet f a1) = 0 → ((¬ (Val_X9_isSheet f a3) = 0 → (vp_in a1 4 ∧ (((f 7 a1.toNatClampNeg) = 0 → (wp_X9_move_L38   f  post)) ∧ (¬ (f 7 a1.toNatClampNeg) = 0 → (vp_in a3 4 ∧ ((¬ (f 7 a3.toNatClampNeg) = 0 → (vp_in a1 4 ∧ (vp_in a3 4 ∧ (((f 7 a1.toNatClampNeg) = (f 7 a3.toNatClampNeg) → ((a5 < 0 → (wp_X9_move_L106   f  post)) ∧ (¬ a5 < 0 → ((a2 < 0 → (wp_X9_move_L106   f  post)) ∧ (¬ a2 < 0 → ((a4 < 0 → (wp_X9_move_L106   f  post)) ∧ (¬ a4 < 0 → (vp_in a1 4 ∧ ((((f 8 a1.toNatClampNeg) - a2) < a5 → (wp_X9_move_L106   f  post)) ∧ (¬ ((f 8 a1.toNatClampNeg) - a2) < a5 → (vp_in a3 4 ∧ ((a5 ≤ ((f 8 a3.toNatClampNeg) - a4) → (wp_X9_move_L115   f a1 a2 a3 a4 a5 (0 : Int32) post)) ∧ (¬ a5 ≤ ((f 8 a3.toNatClampNeg) - a4) → (wp_X9_move_L106   f  post)))))))))))))) ∧ (¬ (f 7 a1.toNatClampNeg) = (f 7 a3.toNatClampNeg) → (Pre_X9_finds f (5 : Int32) ∧ (∀ (r36 : Int32) (f37 : Fn), Post_X9_finds f (5 : Int32) r36 f37 → (post (some (.int r36)) f37)))))))) ∧ ((f 7 a3.toNatClampNeg) = 0 → (wp_X9_move_L38   f  post)))))))) ∧ ((Val_X9_isSheet f a3) = 0 → (wp_X9_move_L14   f  post)))))
def wpb_X9_turns_L30   (K30 : Fn → Int32 → Int32 → Prop) (f : Fn) (x1 : Int32) (x2 : Int32) (post : Option Value → Fn → Prop) : Prop :=
  (vp_in x1 4 ∧ (((f 8 x1.toNatClampNeg) ≤ x2 → (post (some (.int x2)) f)) ∧ (¬ (f 8 x1.toNatClampNeg) ≤ x2 → (((f 1 0) ≤ x2 → (post (some (.int x2)) f)) ∧ (¬ (f 1 0) ≤ x2 → (vp_in (((40 : Int32) * x1) + x2) 160 ∧ (((Val_X9_in f (f 9 (((40 : Int32) * x1) + x2).toNatClampNeg).toInt64 (1 : Int64) (3 : Int64)) = 0 → (post (some (.int x2)) f)) ∧ (¬ (Val_X9_in f (f 9 (((40 : Int32) * x1) + x2).toNatClampNeg).toInt64 (1 : Int64) (3 : Int64)) = 0 → (vp_in (((40 : Int32) * x1) + x2) 160 ∧ (Pre_X9_sets f x2 (2 : Int32) (f 9 (((40 : Int32) * x1) + x2).toNatClampNeg) ∧ (∀ f11 : Fn, Post_X9_sets f x2 (2 : Int32) (f 9 (((40 : Int32) * x1) + x2).toNatClampNeg) f11 → (K30 f11 x1 (x2 + (1 : Int32))))))))))))))
def wp_X9_turns_L30   (f : Fn) (x1 : Int32) (x2 : Int32) (post : Option Value → Fn → Prop) : Prop :=
  ∃ (I : Fn → Int32 → Int32 → Prop) (μ : Fn → Int32 → Int32 → Nat), I f x1 x2 ∧ ∀ (f : Fn) (x1 : Int32) (x2 : Int32), I f x1 x2 → wpb_X9_turns_L30   (fun (f9 : Fn) (x19 : Int32) (x29 : Int32) => I f9 x19 x29 ∧ μ f9 x19 x29 < μ f x1 x2) f x1 x2 post
def wp_X9_turns  (f : Fn) (a1 : Int32) (post : Option Value → Fn → Prop) : Prop :=
  ((¬ (Val_X9_isSheet f a1) = 0 → (vp_in a1 4 ∧ ((¬ (f 7 a1.toNatClampNeg) = 0 → (wp_X9_turns_L30   f a1 (0 : Int32) post)) ∧ ((f 7 a1.toNatClampNeg) = 0 → (Pre_X9_finds f (2 : Int32) ∧ (∀ (r14 : Int32) (f15 : Fn), Post_X9_finds f (2 : Int32) r14 f15 → (post (some (.int r14)) f15))))))) ∧ ((Val_X9_isSheet f a1) = 0 → (Pre_X9_finds f (1 : Int32) ∧ (∀ (r18 : Int32) (f19 : Fn), Post_X9_finds f (1 : Int32) r18 f19 → (post (some (.int r18)) f19)))))
def wp_X9_judge_L76   (f : Fn) (x1 : Int32) (x2 : Int32) (post : Option Value → Fn → Prop) : Prop :=
  (vp_in x1 4 ∧ ((¬ x2 = (f 8 x1.toNatClampNeg) → (post (some (.int x2)) f)) ∧ (x2 = (f 8 x1.toNatClampNeg) → ((¬ x2 = (f 1 0) → (post (some (.int x2)) f)) ∧ (x2 = (f 1 0) → (post (some (.int (-1 : Int32))) f))))))
def wpb_X9_judge_L30   (K30 : Fn → Int32 → Int32 → Prop) (f : Fn) (x1 : Int32) (x2 : Int32) (post : Option Value → Fn → Prop) : Prop :=
  (vp_in x1 4 ∧ (((f 8 x1.toNatClampNeg) ≤ x2 → (wp_X9_judge_L76   f x1 x2 post)) ∧ (¬ (f 8 x1.toNatClampNeg) ≤ x2 → (((f 1 0) ≤ x2 → (wp_X9_judge_L76   f x1 x2 post)) ∧ (¬ (f 1 0) ≤ x2 → (vp_in (((40 : Int32) * x1) + x2) 160 ∧ (Pre_X9_of f x2 (3 : Int32) ∧ ((¬ (f 9 (((40 : Int32) * x1) + x2).toNatClampNeg) = (Val_X9_of f x2 (3 : Int32)) → (wp_X9_judge_L76   f x1 x2 post)) ∧ ((f 9 (((40 : Int32) * x1) + x2).toNatClampNeg) = (Val_X9_of f x2 (3 : Int32)) → (K30 f x1 (x2 + (1 : Int32))))))))))))
def wp_X9_judge_L30   (f : Fn) (x1 : Int32) (x2 : Int32) (post : Option Value → Fn → Prop) : Prop :=
  ∃ (I : Fn → Int32 → Int32 → Prop) (μ : Fn → Int32 → Int32 → Nat), I f x1 x2 ∧ ∀ (f : Fn) (x1 : Int32) (x2 : Int32), I f x1 x2 → wpb_X9_judge_L30   (fun (f9 : Fn) (x19 : Int32) (x29 : Int32) => I f9 x19 x29 ∧ μ f9 x19 x29 < μ f x1 x2) f x1 x2 post
def wp_X9_judge  (f : Fn) (a1 : Int32) (post : Option Value → Fn → Prop) : Prop :=
  ((¬ (Val_X9_isSheet f a1) = 0 → (vp_in a1 4 ∧ ((¬ (f 7 a1.toNatClampNeg) = 0 → (wp_X9_judge_L30   f a1 (0 : Int32) post)) ∧ ((f 7 a1.toNatClampNeg) = 0 → (Pre_X9_finds f (2 : Int32) ∧ (∀ (r14 : Int32) (f15 : Fn), Post_X9_finds f (2 : Int32) r14 f15 → (post (some (.int r14)) f15))))))) ∧ ((Val_X9_isSheet f a1) = 0 → (Pre_X9_finds f (1 : Int32) ∧ (∀ (r18 : Int32) (f19 : Fn), Post_X9_finds f (1 : Int32) r18 f19 → (post (some (.int r18)) f19)))))
def wpb_X9_image_L2   (K2 : Fn → Int32 → Prop) (f : Fn) (x1 : Int32) (post : Option Value → Fn → Prop) : Prop :=
  (((264 : Int32) ≤ x1 → (post (some (.int ((f 0 2) + (1 : Int32)))) (up2 f 0 2 ((f 0 2) + (1 : Int32))))) ∧ (¬ (264 : Int32) ≤ x1 → (vp_in x1 264 ∧ (vp_in x1 264 ∧ (K2 (up2 f 2 x1.toNatClampNeg (f 1 x1.toNatClampNeg)) (x1 + (1 : Int32)))))))
def wp_X9_image_L2   (f : Fn) (x1 : Int32) (post : Option Value → Fn → Prop) : Prop :=
  ∃ (I : Fn → Int32 → Prop) (μ : Fn → Int32 → Nat), I f x1 ∧ ∀ (f : Fn) (x1 : Int32), I f x1 → wpb_X9_image_L2   (fun (f9 : Fn) (x19 : Int32) => I f9 x19 ∧ μ f9 x19 < μ f x1) f x1 post
def wp_X9_image  (f : Fn)  (post : Option Value → Fn → Prop) : Prop :=
  (wp_X9_image_L2   f (0 : Int32) post)
def wpb_X9_restore_L15   (K15 : Fn → Int32 → Prop) (f : Fn) (x1 : Int32) (post : Option Value → Fn → Prop) : Prop :=
  (((264 : Int32) ≤ x1 → (post (some (.int (f 1 1))) f)) ∧ (¬ (264 : Int32) ≤ x1 → (vp_in x1 264 ∧ (vp_in x1 264 ∧ (K15 (up2 f 1 x1.toNatClampNeg (f 2 x1.toNatClampNeg)) (x1 + (1 : Int32)))))))
def wp_X9_restore_L15   (f : Fn) (x1 : Int32) (post : Option Value → Fn → Prop) : Prop :=
  ∃ (I : Fn → Int32 → Prop) (μ : Fn → Int32 → Nat), I f x1 ∧ ∀ (f : Fn) (x1 : Int32), I f x1 → wpb_X9_restore_L15   (fun (f9 : Fn) (x19 : Int32) => I f9 x19 ∧ μ f9 x19 < μ f x1) f x1 post
def wp_X9_restore  (f : Fn)  (post : Option Value → Fn → Prop) : Prop :=
  ((¬ (f 0 2) = 0 → (wp_X9_restore_L15   f (0 : Int32) post)) ∧ ((f 0 2) = 0 → (Pre_X9_finds f (2 : Int32) ∧ (∀ (r6 : Int32) (f7 : Fn), Post_X9_finds f (2 : Int32) r6 f7 → (post (some (.int r6)) f7)))))
def wp_X9_tell  (f : Fn) (a1 : Int32) (post : Option Value → Fn → Prop) : Prop :=
  ((¬ (f 1 10) = (20 : Int32) → (vp_in ((92 : Int32) + (f 1 10)) 264 ∧ (post (some (.int (((up2 f 1 ((92 : Int32) + (f 1 10)).toNatClampNeg a1) 1 10) + (1 : Int32)))) (up2 (up2 f 1 ((92 : Int32) + (f 1 10)).toNatClampNeg a1) 1 10 (((up2 f 1 ((92 : Int32) + (f 1 10)).toNatClampNeg a1) 1 10) + (1 : Int32)))))) ∧ ((f 1 10) = (20 : Int32) → (Pre_X9_finds f (4 : Int32) ∧ (∀ (r4 : Int32) (f5 : Fn), Post_X9_finds f (4 : Int32) r4 f5 → (post (some (.int r4)) f5)))))
def wpb_X9_check_L18   (K18 : Fn → Int32 → Int32 → Prop) (f : Fn) (x1 : Int32) (x2 : Int32) (post : Option Value → Fn → Prop) : Prop :=
  ((x1 ≤ x2 → (post (some (.int (0 : Int32))) f)) ∧ (¬ x1 ≤ x2 → (vp_in ((92 : Int32) + x2) 264 ∧ (Pre_X9_barOf f (0 : Int32) ((f 1 1) + x2) ∧ (((f 1 ((92 : Int32) + x2).toNatClampNeg) = (Val_X9_barOf f (0 : Int32) ((f 1 1) + x2)) → (K18 f x1 (x2 + (1 : Int32)))) ∧ (¬ (f 1 ((92 : Int32) + x2).toNatClampNeg) = (Val_X9_barOf f (0 : Int32) ((f 1 1) + x2)) → (post (some (.int ((1 : Int32) + x2))) f)))))))
def wp_X9_check_L18   (f : Fn) (x1 : Int32) (x2 : Int32) (post : Option Value → Fn → Prop) : Prop :=
  ∃ (I : Fn → Int32 → Int32 → Prop) (μ : Fn → Int32 → Int32 → Nat), I f x1 x2 ∧ ∀ (f : Fn) (x1 : Int32) (x2 : Int32), I f x1 x2 → wpb_X9_check_L18   (fun (f9 : Fn) (x19 : Int32) (x29 : Int32) => I f9 x19 x29 ∧ μ f9 x19 x29 < μ f x1 x2) f x1 x2 post
def wp_X9_check  (f : Fn)  (post : Option Value → Fn → Prop) : Prop :=
  (wp_X9_check_L18   (up2 f 1 10 (0 : Int32)) (f 1 10) (0 : Int32) post)
def wp_X9_count  (f : Fn) (a1 : Int32) (post : Option Value → Fn → Prop) : Prop :=
  ((a1 = (0 : Int32) → (post (some (.int (f 1 0))) f)) ∧ (a1 = (1 : Int32) → (post (some (.int (f 1 1))) f)) ∧ (a1 = (2 : Int32) → (post (some (.int (f 1 2))) f)) ∧ (a1 = (3 : Int32) → (post (some (.int (f 1 3))) f)) ∧ (a1 = (4 : Int32) → (post (some (.int (f 1 4))) f)) ∧ (a1 = (5 : Int32) → (post (some (.int (f 1 5))) f)) ∧ (a1 = (6 : Int32) → (post (some (.int (f 1 6))) f)) ∧ (a1 = (7 : Int32) → (post (some (.int (f 1 7))) f)) ∧ (a1 = (8 : Int32) → (post (some (.int (f 1 9))) f)) ∧ (a1 = (9 : Int32) → (post (some (.int (f 1 10))) f)) ∧ (a1 = (10 : Int32) → (post (some (.int (f 0 20))) f)) ∧ (a1 = (11 : Int32) → (post (some (.int (f 1 8))) f)) ∧ (¬ a1 = (0 : Int32) ∧ ¬ a1 = (1 : Int32) ∧ ¬ a1 = (2 : Int32) ∧ ¬ a1 = (3 : Int32) ∧ ¬ a1 = (4 : Int32) ∧ ¬ a1 = (5 : Int32) ∧ ¬ a1 = (6 : Int32) ∧ ¬ a1 = (7 : Int32) ∧ ¬ a1 = (8 : Int32) ∧ ¬ a1 = (9 : Int32) ∧ ¬ a1 = (10 : Int32) ∧ ¬ a1 = (11 : Int32) → (Pre_X9_finds f (1 : Int32) ∧ (∀ (r3 : Int32) (f4 : Fn), Post_X9_finds f (1 : Int32) r3 f4 → (post (some (.int r3)) f4)))))
def wp_X9_told  (f : Fn) (a1 : Int32) (post : Option Value → Fn → Prop) : Prop :=
  (((Val_X9_in f a1.toInt64 (1 : Int64) (5 : Int64)) = 0 → (Pre_X9_finds f (1 : Int32) ∧ (∀ (r3 : Int32) (f4 : Fn), Post_X9_finds f (1 : Int32) r3 f4 → (post (some (.int r3)) f4)))) ∧ (¬ (Val_X9_in f a1.toInt64 (1 : Int64) (5 : Int64)) = 0 → (vp_in a1 6 ∧ (post (some (.int (f 3 a1.toNatClampNeg))) f))))
def vcS_X9_isSo : Prop := ∀  (f : Fn) (a1 : Int32) (a2 : Int32), Pre_X9_isSo f a1 a2 → wp_X9_isSo f a1 a2 (pI (Post_X9_isSo f a1 a2))
def vcS_X9_isSheet : Prop := ∀  (f : Fn) (a1 : Int32), wp_X9_isSheet f a1 (pI (fun r9 f9 => r9 = Val_X9_isSheet f a1 ∧ f9 = f))
def vcS_X9_phases : Prop := ∀  (f : Fn) (a1 : Int32) (a2 : Int32) (a3 : Int32), Pre_X9_phases f a1 a2 a3 → wp_X9_phases f a1 a2 a3 (pI (Post_X9_phases f a1 a2 a3))
def vcS_X9_late : Prop := ∀  (f : Fn) (a1 : Int32) (a2 : Int32), Pre_X9_late f a1 a2 → wp_X9_late f a1 a2 (pI (Post_X9_late f a1 a2))
def vcS_X9_seed : Prop := ∀  (f : Fn) (a1 : Int32), Pre_X9_seed f a1 → wp_X9_seed f a1 (pI (Post_X9_seed f a1))
def vcS_X9_ran : Prop := ∀  (f : Fn) (a1 : Int32), Pre_X9_ran f a1 → wp_X9_ran f a1 (pV (Post_X9_ran f a1))
def vcS_X9_own : Prop := ∀  (f : Fn) , Pre_X9_own f → wp_X9_own f (pI (fun r9 f9 => r9 = Val_X9_own f ∧ f9 = f))
def vcS_X9_swingsBy : Prop := ∀  (f : Fn) (a1 : Int32) (a2 : Int32), Pre_X9_swingsBy f a1 a2 → (mu_X9_swingsBy f a1 a2 < 4 ∧ wp_X9_swingsBy (mu_X9_swingsBy f a1 a2) f a1 a2 (pI (Post_X9_swingsBy f a1 a2)))
def vcS_X9_fallsBy : Prop := ∀  (f : Fn) (a1 : Int32) (a2 : Int32), Pre_X9_fallsBy f a1 a2 → (mu_X9_fallsBy f a1 a2 < 4 ∧ wp_X9_fallsBy (mu_X9_fallsBy f a1 a2) f a1 a2 (pI (Post_X9_fallsBy f a1 a2)))
def vcS_X9_fliesBy : Prop := ∀  (f : Fn) (a1 : Int32) (a2 : Int32), Pre_X9_fliesBy f a1 a2 → (mu_X9_fliesBy f a1 a2 < 4 ∧ wp_X9_fliesBy (mu_X9_fliesBy f a1 a2) f a1 a2 (pI (Post_X9_fliesBy f a1 a2)))
def vcS_X9_tellsBy : Prop := ∀  (f : Fn) (a1 : Int32) (a2 : Int32), Pre_X9_tellsBy f a1 a2 → (mu_X9_tellsBy f a1 a2 < 4 ∧ wp_X9_tellsBy (mu_X9_tellsBy f a1 a2) f a1 a2 (pI (Post_X9_tellsBy f a1 a2)))
def vcS_X9_voice : Prop := ∀  (f : Fn) (a1 : Int32) (a2 : Int32) (a3 : Int32), Pre_X9_voice f a1 a2 a3 → wp_X9_voice f a1 a2 a3 (pI (Post_X9_voice f a1 a2 a3))
def vcS_X9_trace : Prop := ∀  (f : Fn) (a1 : Int32), Pre_X9_trace f a1 → wp_X9_trace f a1 (pI (Post_X9_trace f a1))
def vcS_X9_sheet : Prop := ∀  (f : Fn) (a1 : Int32) (a2 : Int32) (a3 : Int32), Pre_X9_sheet f a1 a2 a3 → wp_X9_sheet f a1 a2 a3 (pI (Post_X9_sheet f a1 a2 a3))
def vcS_X9_put : Prop := ∀  (f : Fn) (a1 : Int32) (a2 : Int32) (a3 : Int32), Pre_X9_put f a1 a2 a3 → wp_X9_put f a1 a2 a3 (pI (Post_X9_put f a1 a2 a3))
def vcS_X9_move : Prop := ∀  (f : Fn) (a1 : Int32) (a2 : Int32) (a3 : Int32) (a4 : Int32) (a5 : Int32), Pre_X9_move f a1 a2 a3 a4 a5 → wp_X9_move f a1 a2 a3 a4 a5 (pI (Post_X9_move f a1 a2 a3 a4 a5))
def vcS_X9_turns : Prop := ∀  (f : Fn) (a1 : Int32), Pre_X9_turns f a1 → wp_X9_turns f a1 (pI (Post_X9_turns f a1))
def vcS_X9_judge : Prop := ∀  (f : Fn) (a1 : Int32), Pre_X9_judge f a1 → wp_X9_judge f a1 (pI (Post_X9_judge f a1))
def vcS_X9_image : Prop := ∀  (f : Fn) , Pre_X9_image f → wp_X9_image f (pI (Post_X9_image f))
def vcS_X9_restore : Prop := ∀  (f : Fn) , Pre_X9_restore f → wp_X9_restore f (pI (Post_X9_restore f))
def vcS_X9_tell : Prop := ∀  (f : Fn) (a1 : Int32), Pre_X9_tell f a1 → wp_X9_tell f a1 (pI (Post_X9_tell f a1))
def vcS_X9_check : Prop := ∀  (f : Fn) , Pre_X9_check f → wp_X9_check f (pI (Post_X9_check f))
def vcS_X9_count : Prop := ∀  (f : Fn) (a1 : Int32), Pre_X9_count f a1 → wp_X9_count f a1 (pI (Post_X9_count f a1))
def vcS_X9_told : Prop := ∀  (f : Fn) (a1 : Int32), Pre_X9_told f a1 → wp_X9_told f a1 (pI (Post_X9_told f a1))
def VC_m2 : Prop := vcS_X9_isSo ∧ vcS_X9_isSheet ∧ vcS_X9_phases ∧ vcS_X9_late ∧ vcS_X9_seed ∧ vcS_X9_ran ∧ vcS_X9_own ∧ vcS_X9_swingsBy ∧ vcS_X9_fallsBy ∧ vcS_X9_fliesBy ∧ vcS_X9_tellsBy ∧ vcS_X9_voice ∧ vcS_X9_trace ∧ vcS_X9_sheet ∧ vcS_X9_put ∧ vcS_X9_move ∧ vcS_X9_turns ∧ vcS_X9_judge ∧ vcS_X9_image ∧ vcS_X9_restore ∧ vcS_X9_tell ∧ vcS_X9_check ∧ vcS_X9_count ∧ vcS_X9_told ∧ True
theorem kb_11 : (Int8.ofInt 11).toInt32 = (11 : Int32) := by decide +kernel
theorem kb_32 : (Int8.ofInt 32).toInt32 = (32 : Int32) := by decide +kernel
theorem kb_70 : (Int8.ofInt 70).toInt32 = (70 : Int32) := by decide +kernel
theorem kb_71 : (Int8.ofInt 71).toInt32 = (71 : Int32) := by decide +kernel
theorem kb_92 : (Int8.ofInt 92).toInt32 = (92 : Int32) := by decide +kernel
theorem ks_264 : (Int16.ofInt 264).toInt32 = (264 : Int32) := by decide +kernel
theorem kc_3 : (3 : Int32).toNatClampNeg = 3 := by decide +kernel
theorem kc_10 : (10 : Int32).toNatClampNeg = 10 := by decide +kernel
theorem vi_3_264 : vp_in (3 : Int32) 264 := vp_of (by decide +kernel)
theorem vi_10_264 : vp_in (10 : Int32) 264 := vp_of (by decide +kernel)
theorem fg_X9_13R {Z : Zt} {la : List CD} {cc : ByteArray} {n : Nat} {ret : Option FieldType} {d : Nat} {f : Fn} {lv : List (Nat × Value)} {pc q : Nat} {st : List Value} {k : Nat} {fl : List Nat} {p : Nat} (C : CX Z la RX9 cc n ret d) (hk : la[k]? = some (.inl (9, fl))) (hf : fl[1]? = some (p + 2)) (hd : decode cc pc = .ok (.getfield 13, 3)) (hq : pc + 3 = q) (g : GG Z f lv q (.ref (zad Z p) :: st)) : GG Z f lv pc (.ref (zad Z k) :: st) := g_get (T := TX9) (N := 26) C gwi9 rfl (by decide) rfl rfl rfl tw_795 hk hf hd hq (by rw [fvl_2]; exact g)
theorem fg_X9_29R {Z : Zt} {la : List CD} {cc : ByteArray} {n : Nat} {ret : Option FieldType} {d : Nat} {f : Fn} {lv : List (Nat × Value)} {pc q : Nat} {st : List Value} {k : Nat} {fl : List Nat} {p : Nat} (C : CX Z la RX9 cc n ret d) (hk : la[k]? = some (.inl (9, fl))) (hf : fl[19]? = some (p + 2)) (hd : decode cc pc = .ok (.getfield 29, 3)) (hq : pc + 3 = q) (g : GG Z f lv q (.ref (zad Z p) :: st)) : GG Z f lv pc (.ref (zad Z k) :: st) := g_get (T := TX9) (N := 26) C gwi9 rfl (by decide) rfl rfl rfl tw_813 hk hf hd hq (by rw [fvl_2]; exact g)
theorem fg_X9_32R {Z : Zt} {la : List CD} {cc : ByteArray} {n : Nat} {ret : Option FieldType} {d : Nat} {f : Fn} {lv : List (Nat × Value)} {pc q : Nat} {st : List Value} {k : Nat} {fl : List Nat} {p : Nat} (C : CX Z la RX9 cc n ret d) (hk : la[k]? = some (.inl (9, fl))) (hf : fl[22]? = some (p + 2)) (hd : decode cc pc = .ok (.getfield 32, 3)) (hq : pc + 3 = q) (g : GG Z f lv q (.ref (zad Z p) :: st)) : GG Z f lv pc (.ref (zad Z k) :: st) := g_get (T := TX9) (N := 26) C gwi9 rfl (by decide) rfl rfl rfl tw_816 hk hf hd hq (by rw [fvl_2]; exact g)
theorem fg_X9_35R {Z : Zt} {la : List CD} {cc : ByteArray} {n : Nat} {ret : Option FieldType} {d : Nat} {f : Fn} {lv : List (Nat × Value)} {pc q : Nat} {st : List Value} {k : Nat} {fl : List Nat} {p : Nat} (C : CX Z la RX9 cc n ret d) (hk : la[k]? = some (.inl (9, fl))) (hf : fl[23]? = some (p + 2)) (hd : decode cc pc = .ok (.getfield 35, 3)) (hq : pc + 3 = q) (g : GG Z f lv q (.ref (zad Z p) :: st)) : GG Z f lv pc (.ref (zad Z k) :: st) := g_get (T := TX9) (N := 26) C gwi9 rfl (by decide) rfl rfl rfl tw_817 hk hf hd hq (by rw [fvl_2]; exact g)
theorem fg_X9_38R {Z : Zt} {la : List CD} {cc : ByteArray} {n : Nat} {ret : Option FieldType} {d : Nat} {f : Fn} {lv : List (Nat × Value)} {pc q : Nat} {st : List Value} {k : Nat} {fl : List Nat} {p : Nat} (C : CX Z la RX9 cc n ret d) (hk : la[k]? = some (.inl (9, fl))) (hf : fl[24]? = some (p + 2)) (hd : decode cc pc = .ok (.getfield 38, 3)) (hq : pc + 3 = q) (g : GG Z f lv q (.ref (zad Z p) :: st)) : GG Z f lv pc (.ref (zad Z k) :: st) := g_get (T := TX9) (N := 26) C gwi9 rfl (by decide) rfl rfl rfl tw_818 hk hf hd hq (by rw [fvl_2]; exact g)
theorem fg_X9_41R {Z : Zt} {la : List CD} {cc : ByteArray} {n : Nat} {ret : Option FieldType} {d : Nat} {f : Fn} {lv : List (Nat × Value)} {pc q : Nat} {st : List Value} {k : Nat} {fl : List Nat} {p : Nat} (C : CX Z la RX9 cc n ret d) (hk : la[k]? = some (.inl (9, fl))) (hf : fl[25]? = some (p + 2)) (hd : decode cc pc = .ok (.getfield 41, 3)) (hq : pc + 3 = q) (g : GG Z f lv q (.ref (zad Z p) :: st)) : GG Z f lv pc (.ref (zad Z k) :: st) := g_get (T := TX9) (N := 26) C gwi9 rfl (by decide) rfl rfl rfl tw_819 hk hf hd hq (by rw [fvl_2]; exact g)
theorem fg_X9_268I {Z : Zt} {la : List CD} {cc : ByteArray} {n : Nat} {ret : Option FieldType} {d : Nat} {f : Fn} {lv : List (Nat × Value)} {pc q : Nat} {st : List Value} {k : Nat} {fl : List Nat} {x : Int32} (C : CX Z la RX9 cc n ret d) (hk : la[k]? = some (.inl (9, fl))) (hf : fl[20]? = some 0) (hx : f k 20 = x) (hd : decode cc pc = .ok (.getfield 268, 3)) (hq : pc + 3 = q) (g : GG Z f lv q (.int x :: st)) : GG Z f lv pc (.ref (zad Z k) :: st) := g_get (T := TX9) (N := 26) C gwi9 rfl (by decide) rfl rfl rfl tw_814 hk hf hd hq (by rw [fvl_0, hx]; exact g)
theorem fg_X9_271I {Z : Zt} {la : List CD} {cc : ByteArray} {n : Nat} {ret : Option FieldType} {d : Nat} {f : Fn} {lv : List (Nat × Value)} {pc q : Nat} {st : List Value} {k : Nat} {fl : List Nat} {x : Int32} (C : CX Z la RX9 cc n ret d) (hk : la[k]? = some (.inl (9, fl))) (hf : fl[21]? = some 0) (hx : f k 21 = x) (hd : decode cc pc = .ok (.getfield 271, 3)) (hq : pc + 3 = q) (g : GG Z f lv q (.int x :: st)) : GG Z f lv pc (.ref (zad Z k) :: st) := g_get (T := TX9) (N := 26) C gwi9 rfl (by decide) rfl rfl rfl tw_815 hk hf hd hq (by rw [fvl_0, hx]; exact g)
theorem fg_X9_293I {Z : Zt} {la : List CD} {cc : ByteArray} {n : Nat} {ret : Option FieldType} {d : Nat} {f : Fn} {lv : List (Nat × Value)} {pc q : Nat} {st : List Value} {k : Nat} {fl : List Nat} {x : Int32} (C : CX Z la RX9 cc n ret d) (hk : la[k]? = some (.inl (9, fl))) (hf : fl[2]? = some 0) (hx : f k 2 = x) (hd : decode cc pc = .ok (.getfield 293, 3)) (hq : pc + 3 = q) (g : GG Z f lv q (.int x :: st)) : GG Z f lv pc (.ref (zad Z k) :: st) := g_get (T := TX9) (N := 26) C gwi9 rfl (by decide) rfl rfl rfl tw_796 hk hf hd hq (by rw [fvl_0, hx]; exact g)
theorem fp_X9_22 {Z : Zt} {la : List CD} {cc : ByteArray} {n : Nat} {ret : Option FieldType} {d : Nat} {f : Fn} {lv : List (Nat × Value)} {pc q : Nat} {st : List Value} {k : Nat} {fl : List Nat} {v : Int32} (C : CX Z la RX9 cc n ret d) (hk : la[k]? = some (.inl (9, fl))) (hf : fl[10]? = some 0) (hlen : fl.length ≤ 100) (hd : decode cc pc = .ok (.putfield 22, 3)) (hq : pc + 3 = q) (g : GG Z (up2 f k 10 v) lv q st) : GG Z f lv pc (.int v :: .ref (zad Z k) :: st) := g_put (T := TX9) (N := 26) (j := 10) C gwi9 tyX9_ok nmX9 rfl (by decide) rfl rfl rfl rfl tw_804 rfl rfl hk hf hlen hd hq g
theorem fp_X9_268 {Z : Zt} {la : List CD} {cc : ByteArray} {n : Nat} {ret : Option FieldType} {d : Nat} {f : Fn} {lv : List (Nat × Value)} {pc q : Nat} {st : List Value} {k : Nat} {fl : List Nat} {v : Int32} (C : CX Z la RX9 cc n ret d) (hk : la[k]? = some (.inl (9, fl))) (hf : fl[20]? = some 0) (hlen : fl.length ≤ 100) (hd : decode cc pc = .ok (.putfield 268, 3)) (hq : pc + 3 = q) (g : GG Z (up2 f k 20 v) lv q st) : GG Z f lv pc (.int v :: .ref (zad Z k) :: st) := g_put (T := TX9) (N := 26) (j := 20) C gwi9 tyX9_ok nmX9 rfl (by decide) rfl rfl rfl rfl tw_814 rfl rfl hk hf hlen hd hq g
theorem fp_X9_271 {Z : Zt} {la : List CD} {cc : ByteArray} {n : Nat} {ret : Option FieldType} {d : Nat} {f : Fn} {lv : List (Nat × Value)} {pc q : Nat} {st : List Value} {k : Nat} {fl : List Nat} {v : Int32} (C : CX Z la RX9 cc n ret d) (hk : la[k]? = some (.inl (9, fl))) (hf : fl[21]? = some 0) (hlen : fl.length ≤ 100) (hd : decode cc pc = .ok (.putfield 271, 3)) (hq : pc + 3 = q) (g : GG Z (up2 f k 21 v) lv q st) : GG Z f lv pc (.int v :: .ref (zad Z k) :: st) := g_put (T := TX9) (N := 26) (j := 21) C gwi9 tyX9_ok nmX9 rfl (by decide) rfl rfl rfl rfl tw_815 rfl rfl hk hf hlen hd hq g
theorem fp_X9_293 {Z : Zt} {la : List CD} {cc : ByteArray} {n : Nat} {ret : Option FieldType} {d : Nat} {f : Fn} {lv : List (Nat × Value)} {pc q : Nat} {st : List Value} {k : Nat} {fl : List Nat} {v : Int32} (C : CX Z la RX9 cc n ret d) (hk : la[k]? = some (.inl (9, fl))) (hf : fl[2]? = some 0) (hlen : fl.length ≤ 100) (hd : decode cc pc = .ok (.putfield 293, 3)) (hq : pc + 3 = q) (g : GG Z (up2 f k 2 v) lv q st) : GG Z f lv pc (.int v :: .ref (zad Z k) :: st) := g_put (T := TX9) (N := 26) (j := 2) C gwi9 tyX9_ok nmX9 rfl (by decide) rfl rfl rfl rfl tw_796 rfl rfl hk hf hlen hd hq g
theorem hy_X9_fallsBy : yX9_fallsBy.cls ≠ "java/lang/invoke/MethodHandle" ∧ yX9_fallsBy.cls ≠ "java/lang/invoke/VarHandle" ∧ (parseMethodDescriptor yX9_fallsBy.desc).map (fun d => d.parameters.length) = some 2 := by decide +kernel
theorem hy_X9_fliesBy : yX9_fliesBy.cls ≠ "java/lang/invoke/MethodHandle" ∧ yX9_fliesBy.cls ≠ "java/lang/invoke/VarHandle" ∧ (parseMethodDescriptor yX9_fliesBy.desc).map (fun d => d.parameters.length) = some 2 := by decide +kernel
theorem hy_X9_isSheet : yX9_isSheet.cls ≠ "java/lang/invoke/MethodHandle" ∧ yX9_isSheet.cls ≠ "java/lang/invoke/VarHandle" ∧ (parseMethodDescriptor yX9_isSheet.desc).map (fun d => d.parameters.length) = some 1 := by decide +kernel
theorem hy_X9_isSo : yX9_isSo.cls ≠ "java/lang/invoke/MethodHandle" ∧ yX9_isSo.cls ≠ "java/lang/invoke/VarHandle" ∧ (parseMethodDescriptor yX9_isSo.desc).map (fun d => d.parameters.length) = some 2 := by decide +kernel
theorem hy_X9_own : yX9_own.cls ≠ "java/lang/invoke/MethodHandle" ∧ yX9_own.cls ≠ "java/lang/invoke/VarHandle" ∧ (parseMethodDescriptor yX9_own.desc).map (fun d => d.parameters.length) = some 0 := by decide +kernel
theorem hy_X9_ran : yX9_ran.cls ≠ "java/lang/invoke/MethodHandle" ∧ yX9_ran.cls ≠ "java/lang/invoke/VarHandle" ∧ (parseMethodDescriptor yX9_ran.desc).map (fun d => d.parameters.length) = some 1 := by decide +kernel
theorem hy_X9_swingsBy : yX9_swingsBy.cls ≠ "java/lang/invoke/MethodHandle" ∧ yX9_swingsBy.cls ≠ "java/lang/invoke/VarHandle" ∧ (parseMethodDescriptor yX9_swingsBy.desc).map (fun d => d.parameters.length) = some 2 := by decide +kernel
theorem hy_X9_tellsBy : yX9_tellsBy.cls ≠ "java/lang/invoke/MethodHandle" ∧ yX9_tellsBy.cls ≠ "java/lang/invoke/VarHandle" ∧ (parseMethodDescriptor yX9_tellsBy.desc).map (fun d => d.parameters.length) = some 2 := by decide +kernel
set_option maxHeartbeats 4000000 in
set_option maxRecDepth 100000 in
theorem wk_X9_isSo_L58 (V_l1 : VC_l1) (V_l2 : VC_l2) (V_m1 : VC_m1) (V_m2 : VC_m2) {Z : Zt}  (C : CX Z layM RX9 cX9_isSo 5 (some .boolean) 56)   {K5 : Fn → Int32 → Int32 → Int32 → Int32 → Prop} (hK5 : ∀ (f : Fn) (x1 : Int32) (x2 : Int32) (x3 : Int32) (x4 : Int32), K5 f x1 x2 x3 x4 → GG Z f [(0, .ref (zad Z 0)), (1, .int x1), (2, .int x2), (3, .int x3), (4, .int x4)] 5 []) (f : Fn) (x1 : Int32) (x2 : Int32) (x4 : Int32) (s0 : Int32) (h : wp_X9_isSo_L58  K5 f x1 x2 x4 s0 (zp Z)) : GG Z f [(0, .ref (zad Z 0)), (1, .int x1), (2, .int x2), (4, .int x4)] 58 [.int s0] := by
  refine g_istore_n (lv' := [(3, .int s0), (0, .ref (zad Z 0)), (1, .int x1), (2, .int x2), (4, .int x4)]) C dX9_isSo_58 (by decide) rfl rfl ?_
  refine g_iinc (lv' := [(4, .int (x4 + (1 : Int32))), (3, .int s0), (0, .ref (zad Z 0)), (1, .int x1), (2, .int x2)]) C dX9_isSo_59 rfl (inc_1 _) (by decide) rfl rfl ?_
  refine g_goto (q := 5) C dX9_isSo_62 (by decide) ?_
  refine g_lps [0, 1, 2, 3, 4] rfl ?_
  exact hK5 _ _ _ _ _ h
set_option maxHeartbeats 4000000 in
set_option maxRecDepth 100000 in
theorem wkb_X9_isSo_L5 (V_l1 : VC_l1) (V_l2 : VC_l2) (V_m1 : VC_m1) (V_m2 : VC_m2) {Z : Zt}  (C : CX Z layM RX9 cX9_isSo 5 (some .boolean) 56)   {K5 : Fn → Int32 → Int32 → Int32 → Int32 → Prop} (hK5 : ∀ (f : Fn) (x1 : Int32) (x2 : Int32) (x3 : Int32) (x4 : Int32), K5 f x1 x2 x3 x4 → GG Z f [(0, .ref (zad Z 0)), (1, .int x1), (2, .int x2), (3, .int x3), (4, .int x4)] 5 []) (f : Fn) (x1 : Int32) (x2 : Int32) (x3 : Int32) (x4 : Int32) (h : wpb_X9_isSo_L5   K5 f x1 x2 x3 x4 (zp Z)) : GG Z f [(0, .ref (zad Z 0)), (1, .int x1), (2, .int x2), (3, .int x3), (4, .int x4)] 5 [] := by
  refine g_iload C rfl dX9_isSo_5 rfl ?_
  refine g_aload_n C rfl dX9_isSo_7 rfl ?_
  refine fg_X9_35R (k := 0) (p := 8) C rfl rfl dX9_isSo_8 rfl ?_
  refine g_iload_n C rfl dX9_isSo_11 rfl ?_
  have hs1 := h.1
  replace h := h.2
  refine g_ialdx (k := 8) (j := x2.toNatClampNeg) (x := (f 8 x2.toNatClampNeg)) C rfl hs1 rfl rfl dX9_isSo_12 rfl ?_
  refine g_icmp_ge (tgt := 65) C dX9_isSo_13 (by decide) rfl (fun hc2 => ?_) (fun hc2 => ?_)
  · replace h := h.1 hc2
    refine g_iload_n C rfl dX9_isSo_65 rfl ?_
    have hs3 := h.1
    replace h := h.2
    exact g_zret C hs3 dX9_isSo_66 h
  · replace h := h.2 hc2
    refine g_iload_n C rfl dX9_isSo_16 rfl ?_
    refine g_if_eq (tgt := 65) C dX9_isSo_17 (by decide) rfl (fun hc4 => ?_) (fun hc4 => ?_)
    · replace h := h.1 hc4
      refine g_iload_n C rfl dX9_isSo_65 rfl ?_
      have hs5 := h.1
      replace h := h.2
      exact g_zret C hs5 dX9_isSo_66 h
    · replace h := h.2 hc4
      refine g_aload_n C rfl dX9_isSo_20 rfl ?_
      refine g_iload_n C rfl dX9_isSo_21 rfl ?_
      refine g_aload_n C rfl dX9_isSo_22 rfl ?_
      refine fg_X9_7R (k := 0) (p := 1) C rfl rfl dX9_isSo_23 rfl ?_
      refine g_iconst C ki_1 dX9_isSo_26 rfl ?_
      refine g_ialdx (k := 1) (j := 1) (x := (f 1 1)) C rfl vi_1_264 kc_1 rfl dX9_isSo_27 rfl ?_
      refine g_iload C rfl dX9_isSo_28 rfl ?_
      refine g_iadd C dX9_isSo_30 rfl ?_
      have hs6 := h.1
      replace h := h.2
      refine g_callVV C tw_1033 tw_1035 tp_35 tw_10 tw_1036 hy_X9_isTold (by decide) (by decide) rfl (Nat.le_of_ble_eq_true rfl) rfl rfl (ct_X9_isTold V_l1 V_l2 V_m1   f x1 ((f 1 1) + x4) hs6) dX9_isSo_31 rfl rfl (fun f7 hp8 => ?_)
      replace h := h f7 hp8
      refine g_aload_n C rfl dX9_isSo_34 rfl ?_
      have hs9 := h.1
      replace h := h.2
      refine g_callVD C tw_1045 tw_1047 tp_38 tw_10 tw_1048 hy_X9_offNow (by decide) (by decide) rfl (Nat.le_of_ble_eq_true rfl) rfl rfl (ct_X9_offNow V_l1 V_l2 V_m1   f7 hs9) dX9_isSo_35 rfl rfl ?_
      refine g_aload_n C rfl dX9_isSo_38 rfl ?_
      refine fg_X9_38R (k := 0) (p := 9) C rfl rfl dX9_isSo_39 rfl ?_
      refine g_bipush C kb_40 dX9_isSo_42 rfl ?_
      refine g_iload_n C rfl dX9_isSo_44 rfl ?_
      refine g_imul C dX9_isSo_45 rfl ?_
      refine g_iload C rfl dX9_isSo_46 rfl ?_
      refine g_iadd C dX9_isSo_48 rfl ?_
      have hs10 := h.1
      replace h := h.2
      refine g_ialdx (k := 9) (j := (((40 : Int32) * x2) + x4).toNatClampNeg) (x := (f7 9 (((40 : Int32) * x2) + x4).toNatClampNeg)) C rfl hs10 rfl rfl dX9_isSo_49 rfl ?_
      refine g_icmp_ne (tgt := 57) C dX9_isSo_50 (by decide) rfl (fun hc11 => ?_) (fun hc11 => ?_)
      · replace h := h.1 hc11
        refine g_iconst C ki_0 dX9_isSo_57 rfl ?_
        refine g_lps [0, 1, 2, 4] rfl ?_
        exact wk_X9_isSo_L58 V_l1 V_l2 V_m1 V_m2  C   hK5 _ _ _ _ _ h
      · replace h := h.2 hc11
        refine g_iconst C ki_1 dX9_isSo_53 rfl ?_
        refine g_goto (q := 58) C dX9_isSo_54 (by decide) ?_
        refine g_lps [0, 1, 2, 4] rfl ?_
        exact wk_X9_isSo_L58 V_l1 V_l2 V_m1 V_m2  C   hK5 _ _ _ _ _ h
set_option maxHeartbeats 4000000 in
set_option maxRecDepth 100000 in
theorem wk_X9_isSo_L5 (V_l1 : VC_l1) (V_l2 : VC_l2) (V_m1 : VC_m1) (V_m2 : VC_m2) {Z : Zt}  (C : CX Z layM RX9 cX9_isSo 5 (some .boolean) 56)     (f : Fn) (x1 : Int32) (x2 : Int32) (x3 : Int32) (x4 : Int32) (h : wp_X9_isSo_L5   f x1 x2 x3 x4 (zp Z)) : GG Z f [(0, .ref (zad Z 0)), (1, .int x1), (2, .int x2), (3, .int x3), (4, .int x4)] 5 [] := by
  obtain ⟨I, μ, h0, hs⟩ := h
  suffices H : ∀ (N : Nat) (f : Fn) (x1 : Int32) (x2 : Int32) (x3 : Int32) (x4 : Int32), μ f x1 x2 x3 x4 < N → I f x1 x2 x3 x4 → GG Z f [(0, .ref (zad Z 0)), (1, .int x1), (2, .int x2), (3, .int x3), (4, .int x4)] 5 [] from H _ f x1 x2 x3 x4 (Nat.lt_succ_self _) h0
  clear h0
  intro N
  induction N with
  | zero => intro f x1 x2 x3 x4 hm; exact absurd hm (Nat.not_lt_zero _)
  | succ N ih =>
    intro f x1 x2 x3 x4 hm hi
    exact wkb_X9_isSo_L5 V_l1 V_l2 V_m1 V_m2  C    (fun f9 x19 x29 x39 x49 hk => ih f9 x19 x29 x39 x49 (Nat.lt_of_lt_of_le hk.2 (Nat.le_of_lt_succ hm)) hk.1) f x1 x2 x3 x4 (hs f x1 x2 x3 x4 hi)
set_option maxHeartbeats 4000000 in
set_option maxRecDepth 100000 in
theorem wk_X9_isSo (V_l1 : VC_l1) (V_l2 : VC_l2) (V_m1 : VC_m1) (V_m2 : VC_m2) {Z : Zt}  (C : CX Z layM RX9 cX9_isSo 5 (some .boolean) 56)     (f : Fn) (a1 : Int32) (a2 : Int32) (h : wp_X9_isSo  f a1 a2 (zp Z)) : GG Z f [(0, .ref (zad Z 0)), (1, .int a1), (2, .int a2)] 0 [] := by
  refine g_iconst C ki_1 dX9_isSo_0 rfl ?_
  refine g_istore_n (lv' := [(3, .int (1 : Int32)), (0, .ref (zad Z 0)), (1, .int a1), (2, .int a2)]) C dX9_isSo_1 (by decide) rfl rfl ?_
  refine g_iconst C ki_0 dX9_isSo_2 rfl ?_
  refine g_istore (lv' := [(4, .int (0 : Int32)), (3, .int (1 : Int32)), (0, .ref (zad Z 0)), (1, .int a1), (2, .int a2)]) C dX9_isSo_3 (by decide) rfl rfl ?_
  refine g_lps [0, 1, 2, 3, 4] rfl ?_
  exact wk_X9_isSo_L5 V_l1 V_l2 V_m1 V_m2  C    _ _ _ _ _ h
set_option maxRecDepth 100000 in
theorem ct_X9_isSo (V_l1 : VC_l1) (V_l2 : VC_l2) (V_m1 : VC_m1) (V_m2 : VC_m2) {l : Launch} {E : Ev}   (f : Fn) (a1 : Int32) (a2 : Int32) (hpre : Pre_X9_isSo f a1 a2) : CT l E layM yX9_isSo cX9_isSo 5 (some .boolean) 56 [.ref (E.2.1 0), .int a1, .int a2] f (pI (Post_X9_isSo f a1 a2)) := by
  refine CT.of (by decide +kernel) (Nat.le_of_ble_eq_true rfl) (fun Z hl9 hE9 hp9 C => ?_)
  subst hl9
  subst hE9
  exact wk_X9_isSo V_l1 V_l2 V_m1 V_m2 C   f a1 a2 (by rw [hp9]; exact V_m2.1  f a1 a2  hpre)
set_option maxHeartbeats 4000000 in
set_option maxRecDepth 100000 in
theorem wk_X9_isSheet (V_l1 : VC_l1) (V_l2 : VC_l2) (V_m1 : VC_m1) (V_m2 : VC_m2) {Z : Zt}  (C : CX Z layM RX9 cX9_isSheet 1 (some .boolean) 1)     (f : Fn) (a1 : Int32) (h : wp_X9_isSheet  f a1 (zp Z)) : GG Z f [(0, .int a1)] 0 [] := by
  refine g_iload_n C rfl dX9_isSheet_0 rfl ?_
  refine g_i2l C dX9_isSheet_1 rfl ?_
  refine g_lconst C kl_0 dX9_isSheet_2 rfl ?_
  refine g_ldc2 C tw_1024 dX9_isSheet_3 rfl ?_
  refine g_callSD C tw_878 tw_879 tw_10 tw_880 hy_X9_in (by decide) (by decide) rfl (Nat.le_of_ble_eq_true rfl) (ct_X9_in V_l1 V_l2 V_m1   f a1.toInt64 (0 : Int64) (3 : Int64) ) dX9_isSheet_6 rfl rfl ?_
  have hs1 := h.1
  replace h := h.2
  exact g_zret C hs1 dX9_isSheet_9 h
set_option maxRecDepth 100000 in
theorem ct_X9_isSheet (V_l1 : VC_l1) (V_l2 : VC_l2) (V_m1 : VC_m1) (V_m2 : VC_m2) {l : Launch} {E : Ev}   (f : Fn) (a1 : Int32)  : CT l E layM yX9_isSheet cX9_isSheet 1 (some .boolean) 1 [.int a1] f (pI (fun r9 f9 => r9 = Val_X9_isSheet f a1 ∧ f9 = f)) := by
  refine CT.of (by decide +kernel) (Nat.le_of_ble_eq_true rfl) (fun Z hl9 hE9 hp9 C => ?_)
  subst hl9
  subst hE9
  exact wk_X9_isSheet V_l1 V_l2 V_m1 V_m2 C   f a1 (by rw [hp9]; exact V_m2.2.1  f a1  )
set_option maxHeartbeats 4000000 in
set_option maxRecDepth 100000 in
theorem wk_X9_phases_L25 (V_l1 : VC_l1) (V_l2 : VC_l2) (V_m1 : VC_m1) (V_m2 : VC_m2) {Z : Zt}  (C : CX Z layM RX9 cX9_phases 8 (some .int) 57)     (f : Fn)  (h : wp_X9_phases_L25   f  (zp Z)) : GG Z f [(0, .ref (zad Z 0))] 25 [] := by
  refine g_aload_n C rfl dX9_phases_25 rfl ?_
  refine g_iconst C ki_1 dX9_phases_26 rfl ?_
  have hs2 := h.1
  replace h := h.2
  refine g_callVI C tw_881 tw_883 tp_15 tw_10 tw_884 hy_X9_finds (by decide) (by decide) rfl (Nat.le_of_ble_eq_true rfl) rfl rfl (ct_X9_finds V_l1 V_l2 V_m1   f (1 : Int32) hs2) dX9_phases_27 rfl rfl (fun r3 f4 hp5 => ?_)
  replace h := h r3 f4 hp5
  exact g_iret C dX9_phases_30 h
set_option maxHeartbeats 4000000 in
set_option maxRecDepth 100000 in
theorem wk_X9_phases_L102 (V_l1 : VC_l1) (V_l2 : VC_l2) (V_m1 : VC_m1) (V_m2 : VC_m2) {Z : Zt}  (C : CX Z layM RX9 cX9_phases 8 (some .int) 57)   {K72 : Fn → Int32 → Int32 → Int32 → Int32 → Int32 → Int32 → Int32 → Prop} (hK72 : ∀ (f : Fn) (x1 : Int32) (x2 : Int32) (x3 : Int32) (x4 : Int32) (x5 : Int32) (x6 : Int32) (x7 : Int32), K72 f x1 x2 x3 x4 x5 x6 x7 → GG Z f [(0, .ref (zad Z 0)), (1, .int x1), (2, .int x2), (3, .int x3), (4, .int x4), (5, .int x5), (6, .int x6), (7, .int x7)] 72 []) (f : Fn) (x1 : Int32) (x2 : Int32) (x3 : Int32) (x4 : Int32) (x5 : Int32) (x6 : Int32) (x7 : Int32) (h : wp_X9_phases_L102  K72 f x1 x2 x3 x4 x5 x6 x7 (zp Z)) : GG Z f [(0, .ref (zad Z 0)), (1, .int x1), (2, .int x2), (3, .int x3), (4, .int x4), (5, .int x5), (6, .int x6), (7, .int x7)] 102 [] := by
  refine g_iinc (lv' := [(7, .int (x7 + (-1 : Int32))), (0, .ref (zad Z 0)), (1, .int x1), (2, .int x2), (3, .int x3), (4, .int x4), (5, .int x5), (6, .int x6)]) C dX9_phases_102 rfl (inc_m1 _) (by decide) rfl rfl ?_
  refine g_goto (q := 72) C dX9_phases_105 (by decide) ?_
  refine g_lps [0, 1, 2, 3, 4, 5, 6, 7] rfl ?_
  exact hK72 _ _ _ _ _ _ _ _ h
set_option maxHeartbeats 4000000 in
set_option maxRecDepth 100000 in
theorem wkb_X9_phases_L72 (V_l1 : VC_l1) (V_l2 : VC_l2) (V_m1 : VC_m1) (V_m2 : VC_m2) {Z : Zt}  (C : CX Z layM RX9 cX9_phases 8 (some .int) 57)   {K72 : Fn → Int32 → Int32 → Int32 → Int32 → Int32 → Int32 → Int32 → Prop} (hK72 : ∀ (f : Fn) (x1 : Int32) (x2 : Int32) (x3 : Int32) (x4 : Int32) (x5 : Int32) (x6 : Int32) (x7 : Int32), K72 f x1 x2 x3 x4 x5 x6 x7 → GG Z f [(0, .ref (zad Z 0)), (1, .int x1), (2, .int x2), (3, .int x3), (4, .int x4), (5, .int x5), (6, .int x6), (7, .int x7)] 72 []) (f : Fn) (x1 : Int32) (x2 : Int32) (x3 : Int32) (x4 : Int32) (x5 : Int32) (x6 : Int32) (x7 : Int32) (h : wpb_X9_phases_L72   K72 f x1 x2 x3 x4 x5 x6 x7 (zp Z)) : GG Z f [(0, .ref (zad Z 0)), (1, .int x1), (2, .int x2), (3, .int x3), (4, .int x4), (5, .int x5), (6, .int x6), (7, .int x7)] 72 [] := by
  refine g_iload C rfl dX9_phases_72 rfl ?_
  refine g_if_lt (tgt := 108) C dX9_phases_74 (by decide) rfl (fun hc10 => ?_) (fun hc10 => ?_)
  · replace h := h.1 hc10
    refine g_aload_n C rfl dX9_phases_108 rfl ?_
    refine fg_X9_7R (k := 0) (p := 1) C rfl rfl dX9_phases_109 rfl ?_
    refine g_bipush C kb_17 dX9_phases_112 rfl ?_
    refine g_iload C rfl dX9_phases_114 rfl ?_
    refine g_iastx (k := 1) (j := 17) C rfl vi_17_264 kc_17 dX9_phases_116 rfl ?_
    refine g_iload C rfl dX9_phases_117 rfl ?_
    refine g_if_ne (tgt := 130) C dX9_phases_119 (by decide) rfl (fun hc11 => ?_) (fun hc11 => ?_)
    · replace h := h.1 hc11
      refine g_iload_n C rfl dX9_phases_130 rfl ?_
      refine g_if_ne (tgt := 139) C dX9_phases_131 (by decide) rfl (fun hc12 => ?_) (fun hc12 => ?_)
      · replace h := h.1 hc12
        refine g_iload C rfl dX9_phases_139 rfl ?_
        exact g_iret C dX9_phases_141 h
      · replace h := h.2 hc12
        refine g_iload C rfl dX9_phases_134 rfl ?_
        refine g_goto (q := 141) C dX9_phases_136 (by decide) ?_
        exact g_iret C dX9_phases_141 h
    · replace h := h.2 hc11
      refine g_aload_n C rfl dX9_phases_122 rfl ?_
      refine g_iconst C ki_2 dX9_phases_123 rfl ?_
      have hs13 := h.1
      replace h := h.2
      refine g_callVI C tw_881 tw_883 tp_15 tw_10 tw_884 hy_X9_finds (by decide) (by decide) rfl (Nat.le_of_ble_eq_true rfl) rfl rfl (ct_X9_finds V_l1 V_l2 V_m1   (up2 f 1 17 x4) (2 : Int32) hs13) dX9_phases_124 rfl rfl (fun r14 f15 hp16 => ?_)
      replace h := h r14 f15 hp16
      refine g_goto (q := 141) C dX9_phases_127 (by decide) ?_
      exact g_iret C dX9_phases_141 h
  · replace h := h.2 hc10
    refine g_aload_n C rfl dX9_phases_77 rfl ?_
    refine fg_X9_7R (k := 0) (p := 1) C rfl rfl dX9_phases_78 rfl ?_
    refine g_bipush C kb_17 dX9_phases_81 rfl ?_
    refine g_iload C rfl dX9_phases_83 rfl ?_
    refine g_iastx (k := 1) (j := 17) C rfl vi_17_264 kc_17 dX9_phases_85 rfl ?_
    refine g_aload_n C rfl dX9_phases_86 rfl ?_
    refine g_iload_n C rfl dX9_phases_87 rfl ?_
    refine g_iload_n C rfl dX9_phases_88 rfl ?_
    have hs17 := h.1
    replace h := h.2
    refine g_callVI C tw_1158 tw_1160 tp_48 tw_10 tw_1161 hy_X9_isSo (by decide) (by decide) rfl (Nat.le_of_ble_eq_true rfl) rfl rfl (ct_X9_isSo V_l1 V_l2 V_m1 V_m2   (up2 f 1 17 x7) x1 x2 hs17) dX9_phases_89 rfl rfl (fun r18 f19 hp20 => ?_)
    replace h := h r18 f19 hp20
    refine g_if_eq (tgt := 102) C dX9_phases_92 (by decide) rfl (fun hc21 => ?_) (fun hc21 => ?_)
    · replace h := h.1 hc21
      exact wk_X9_phases_L102 V_l1 V_l2 V_m1 V_m2  C   hK72 _ _ _ _ _ _ _ _ h
    · replace h := h.2 hc21
      refine g_iinc (lv' := [(5, .int (x5 + (1 : Int32))), (0, .ref (zad Z 0)), (1, .int x1), (2, .int x2), (3, .int x3), (4, .int x4), (6, .int x6), (7, .int x7)]) C dX9_phases_95 rfl (inc_1 _) (by decide) rfl rfl ?_
      refine g_iload C rfl dX9_phases_98 rfl ?_
      refine g_istore (lv' := [(6, .int x7), (5, .int (x5 + (1 : Int32))), (0, .ref (zad Z 0)), (1, .int x1), (2, .int x2), (3, .int x3), (4, .int x4), (7, .int x7)]) C dX9_phases_100 (by decide) rfl rfl ?_
      refine g_lps [0, 1, 2, 3, 4, 5, 6, 7] rfl ?_
      exact wk_X9_phases_L102 V_l1 V_l2 V_m1 V_m2  C   hK72 _ _ _ _ _ _ _ _ h
set_option maxHeartbeats 4000000 in
set_option maxRecDepth 100000 in
theorem wk_X9_phases_L72 (V_l1 : VC_l1) (V_l2 : VC_l2) (V_m1 : VC_m1) (V_m2 : VC_m2) {Z : Zt}  (C : CX Z layM RX9 cX9_phases 8 (some .int) 57)     (f : Fn) (x1 : Int32) (x2 : Int32) (x3 : Int32) (x4 : Int32) (x5 : Int32) (x6 : Int32) (x7 : Int32) (h : wp_X9_phases_L72   f x1 x2 x3 x4 x5 x6 x7 (zp Z)) : GG Z f [(0, .ref (zad Z 0)), (1, .int x1), (2, .int x2), (3, .int x3), (4, .int x4), (5, .int x5), (6, .int x6), (7, .int x7)] 72 [] := by
  obtain ⟨I, μ, h0, hs⟩ := h
  suffices H : ∀ (N : Nat) (f : Fn) (x1 : Int32) (x2 : Int32) (x3 : Int32) (x4 : Int32) (x5 : Int32) (x6 : Int32) (x7 : Int32), μ f x1 x2 x3 x4 x5 x6 x7 < N → I f x1 x2 x3 x4 x5 x6 x7 → GG Z f [(0, .ref (zad Z 0)), (1, .int x1), (2, .int x2), (3, .int x3), (4, .int x4), (5, .int x5), (6, .int x6), (7, .int x7)] 72 [] from H _ f x1 x2 x3 x4 x5 x6 x7 (Nat.lt_succ_self _) h0
  clear h0
  intro N
  induction N with
  | zero => intro f x1 x2 x3 x4 x5 x6 x7 hm; exact absurd hm (Nat.not_lt_zero _)
  | succ N ih =>
    intro f x1 x2 x3 x4 x5 x6 x7 hm hi
    exact wkb_X9_phases_L72 V_l1 V_l2 V_m1 V_m2  C    (fun f9 x19 x29 x39 x49 x59 x69 x79 hk => ih f9 x19 x29 x39 x49 x59 x69 x79 (Nat.lt_of_lt_of_le hk.2 (Nat.le_of_lt_succ hm)) hk.1) f x1 x2 x3 x4 x5 x6 x7 (hs f x1 x2 x3 x4 x5 x6 x7 hi)
set_option maxHeartbeats 4000000 in
set_option maxRecDepth 100000 in
theorem wk_X9_phases (V_l1 : VC_l1) (V_l2 : VC_l2) (V_m1 : VC_m1) (V_m2 : VC_m2) {Z : Zt}  (C : CX Z layM RX9 cX9_phases 8 (some .int) 57)     (f : Fn) (a1 : Int32) (a2 : Int32) (a3 : Int32) (h : wp_X9_phases  f a1 a2 a3 (zp Z)) : GG Z f [(0, .ref (zad Z 0)), (1, .int a1), (2, .int a2), (3, .int a3)] 0 [] := by
  refine g_aload_n C rfl dX9_phases_0 rfl ?_
  refine g_iload_n C rfl dX9_phases_1 rfl ?_
  refine g_callVD C tw_988 tw_990 tp_29 tw_10 tw_991 hy_X9_isFlyer (by decide) (by decide) rfl (Nat.le_of_ble_eq_true rfl) rfl rfl (ct_X9_isFlyer V_l1 V_l2 V_m1   f a1 ) dX9_phases_2 rfl rfl ?_
  refine g_if_eq (tgt := 25) C dX9_phases_5 (by decide) rfl (fun hc1 => ?_) (fun hc1 => ?_)
  · replace h := h.1 hc1
    refine g_lps [0] rfl ?_
    exact wk_X9_phases_L25 V_l1 V_l2 V_m1 V_m2  C    _  h
  · replace h := h.2 hc1
    refine g_iload_n C rfl dX9_phases_8 rfl ?_
    refine g_callSD C tw_1155 tw_1156 tw_10 tw_1157 hy_X9_isSheet (by decide) (by decide) rfl (Nat.le_of_ble_eq_true rfl) (ct_X9_isSheet V_l1 V_l2 V_m1 V_m2   f a2 ) dX9_phases_9 rfl rfl ?_
    refine g_if_eq (tgt := 25) C dX9_phases_12 (by decide) rfl (fun hc6 => ?_) (fun hc6 => ?_)
    · replace h := h.1 hc6
      refine g_lps [0] rfl ?_
      exact wk_X9_phases_L25 V_l1 V_l2 V_m1 V_m2  C    _  h
    · replace h := h.2 hc6
      refine g_iload_n C rfl dX9_phases_15 rfl ?_
      refine g_i2l C dX9_phases_16 rfl ?_
      refine g_lconst C kl_0 dX9_phases_17 rfl ?_
      refine g_lconst C kl_1 dX9_phases_18 rfl ?_
      refine g_callSD C tw_878 tw_879 tw_10 tw_880 hy_X9_in (by decide) (by decide) rfl (Nat.le_of_ble_eq_true rfl) (ct_X9_in V_l1 V_l2 V_m1   f a3.toInt64 (0 : Int64) (1 : Int64) ) dX9_phases_19 rfl rfl ?_
      refine g_if_ne (tgt := 31) C dX9_phases_22 (by decide) rfl (fun hc7 => ?_) (fun hc7 => ?_)
      · replace h := h.1 hc7
        refine g_aload_n C rfl dX9_phases_31 rfl ?_
        refine fg_X9_32R (k := 0) (p := 7) C rfl rfl dX9_phases_32 rfl ?_
        refine g_iload_n C rfl dX9_phases_35 rfl ?_
        have hs8 := h.1
        replace h := h.2
        refine g_ialdx (k := 7) (j := a2.toNatClampNeg) (x := (f 7 a2.toNatClampNeg)) C rfl hs8 rfl rfl dX9_phases_36 rfl ?_
        refine g_if_ne (tgt := 46) C dX9_phases_37 (by decide) rfl (fun hc9 => ?_) (fun hc9 => ?_)
        · replace h := h.1 hc9
          refine g_aload_n C rfl dX9_phases_46 rfl ?_
          refine fg_X9_7R (k := 0) (p := 1) C rfl rfl dX9_phases_47 rfl ?_
          refine g_bipush C kb_17 dX9_phases_50 rfl ?_
          refine g_ialdx (k := 1) (j := 17) (x := (f 1 17)) C rfl vi_17_264 kc_17 rfl dX9_phases_52 rfl ?_
          refine g_istore (lv' := [(4, .int (f 1 17)), (0, .ref (zad Z 0)), (1, .int a1), (2, .int a2), (3, .int a3)]) C dX9_phases_53 (by decide) rfl rfl ?_
          refine g_iconst C ki_0 dX9_phases_55 rfl ?_
          refine g_istore (lv' := [(5, .int (0 : Int32)), (4, .int (f 1 17)), (0, .ref (zad Z 0)), (1, .int a1), (2, .int a2), (3, .int a3)]) C dX9_phases_56 (by decide) rfl rfl ?_
          refine g_iconst C ki_0 dX9_phases_58 rfl ?_
          refine g_istore (lv' := [(6, .int (0 : Int32)), (5, .int (0 : Int32)), (4, .int (f 1 17)), (0, .ref (zad Z 0)), (1, .int a1), (2, .int a2), (3, .int a3)]) C dX9_phases_59 (by decide) rfl rfl ?_
          refine g_aload_n C rfl dX9_phases_61 rfl ?_
          refine fg_X9_7R (k := 0) (p := 1) C rfl rfl dX9_phases_62 rfl ?_
          refine g_bipush C kb_15 dX9_phases_65 rfl ?_
          refine g_ialdx (k := 1) (j := 15) (x := (f 1 15)) C rfl vi_15_264 kc_15 rfl dX9_phases_67 rfl ?_
          refine g_iconst C ki_1 dX9_phases_68 rfl ?_
          refine g_isub C dX9_phases_69 rfl ?_
          refine g_istore (lv' := [(7, .int ((f 1 15) - (1 : Int32))), (6, .int (0 : Int32)), (5, .int (0 : Int32)), (4, .int (f 1 17)), (0, .ref (zad Z 0)), (1, .int a1), (2, .int a2), (3, .int a3)]) C dX9_phases_70 (by decide) rfl rfl ?_
          refine g_lps [0, 1, 2, 3, 4, 5, 6, 7] rfl ?_
          exact wk_X9_phases_L72 V_l1 V_l2 V_m1 V_m2  C    _ _ _ _ _ _ _ _ h
        · replace h := h.2 hc9
          refine g_aload_n C rfl dX9_phases_40 rfl ?_
          refine g_iconst C ki_2 dX9_phases_41 rfl ?_
          have hs22 := h.1
          replace h := h.2
          refine g_callVI C tw_881 tw_883 tp_15 tw_10 tw_884 hy_X9_finds (by decide) (by decide) rfl (Nat.le_of_ble_eq_true rfl) rfl rfl (ct_X9_finds V_l1 V_l2 V_m1   f (2 : Int32) hs22) dX9_phases_42 rfl rfl (fun r23 f24 hp25 => ?_)
          replace h := h r23 f24 hp25
          exact g_iret C dX9_phases_45 h
      · replace h := h.2 hc7
        refine g_lps [0] rfl ?_
        exact wk_X9_phases_L25 V_l1 V_l2 V_m1 V_m2  C    _  h
set_option maxRecDepth 100000 in
theorem ct_X9_phases (V_l1 : VC_l1) (V_l2 : VC_l2) (V_m1 : VC_m1) (V_m2 : VC_m2) {l : Launch} {E : Ev}   (f : Fn) (a1 : Int32) (a2 : Int32) (a3 : Int32) (hpre : Pre_X9_phases f a1 a2 a3) : CT l E layM yX9_phases cX9_phases 8 (some .int) 57 [.ref (E.2.1 0), .int a1, .int a2, .int a3] f (pI (Post_X9_phases f a1 a2 a3)) := by
  refine CT.of (by decide +kernel) (Nat.le_of_ble_eq_true rfl) (fun Z hl9 hE9 hp9 C => ?_)
  subst hl9
  subst hE9
  exact wk_X9_phases V_l1 V_l2 V_m1 V_m2 C   f a1 a2 a3 (by rw [hp9]; exact V_m2.2.2.1  f a1 a2 a3  hpre)
set_option maxHeartbeats 4000000 in
set_option maxRecDepth 100000 in
theorem wk_X9_late_L15 (V_l1 : VC_l1) (V_l2 : VC_l2) (V_m1 : VC_m1) (V_m2 : VC_m2) {Z : Zt}  (C : CX Z layM RX9 cX9_late 5 (some .int) 57)     (f : Fn)  (h : wp_X9_late_L15   f  (zp Z)) : GG Z f [(0, .ref (zad Z 0))] 15 [] := by
  refine g_aload_n C rfl dX9_late_15 rfl ?_
  refine g_iconst C ki_1 dX9_late_16 rfl ?_
  have hs2 := h.1
  replace h := h.2
  refine g_callVI C tw_881 tw_883 tp_15 tw_10 tw_884 hy_X9_finds (by decide) (by decide) rfl (Nat.le_of_ble_eq_true rfl) rfl rfl (ct_X9_finds V_l1 V_l2 V_m1   f (1 : Int32) hs2) dX9_late_17 rfl rfl (fun r3 f4 hp5 => ?_)
  replace h := h r3 f4 hp5
  exact g_iret C dX9_late_20 h
set_option maxHeartbeats 4000000 in
set_option maxRecDepth 100000 in
theorem wk_X9_late_L68 (V_l1 : VC_l1) (V_l2 : VC_l2) (V_m1 : VC_m1) (V_m2 : VC_m2) {Z : Zt}  (C : CX Z layM RX9 cX9_late 5 (some .int) 57)   {K42 : Fn → Int32 → Int32 → Int32 → Int32 → Prop} (hK42 : ∀ (f : Fn) (x1 : Int32) (x2 : Int32) (x3 : Int32) (x4 : Int32), K42 f x1 x2 x3 x4 → GG Z f [(0, .ref (zad Z 0)), (1, .int x1), (2, .int x2), (3, .int x3), (4, .int x4)] 42 []) (f : Fn) (x1 : Int32) (x2 : Int32) (x4 : Int32) (s0 : Int32) (h : wp_X9_late_L68  K42 f x1 x2 x4 s0 (zp Z)) : GG Z f [(0, .ref (zad Z 0)), (1, .int x1), (2, .int x2), (4, .int x4)] 68 [.int s0] := by
  refine g_istore_n (lv' := [(3, .int s0), (0, .ref (zad Z 0)), (1, .int x1), (2, .int x2), (4, .int x4)]) C dX9_late_68 (by decide) rfl rfl ?_
  refine g_iinc (lv' := [(4, .int (x4 + (-1 : Int32))), (3, .int s0), (0, .ref (zad Z 0)), (1, .int x1), (2, .int x2)]) C dX9_late_69 rfl (inc_m1 _) (by decide) rfl rfl ?_
  refine g_goto (q := 42) C dX9_late_72 (by decide) ?_
  refine g_lps [0, 1, 2, 3, 4] rfl ?_
  exact hK42 _ _ _ _ _ h
set_option maxHeartbeats 4000000 in
set_option maxRecDepth 100000 in
theorem wkb_X9_late_L42 (V_l1 : VC_l1) (V_l2 : VC_l2) (V_m1 : VC_m1) (V_m2 : VC_m2) {Z : Zt}  (C : CX Z layM RX9 cX9_late 5 (some .int) 57)   {K42 : Fn → Int32 → Int32 → Int32 → Int32 → Prop} (hK42 : ∀ (f : Fn) (x1 : Int32) (x2 : Int32) (x3 : Int32) (x4 : Int32), K42 f x1 x2 x3 x4 → GG Z f [(0, .ref (zad Z 0)), (1, .int x1), (2, .int x2), (3, .int x3), (4, .int x4)] 42 []) (f : Fn) (x1 : Int32) (x2 : Int32) (x3 : Int32) (x4 : Int32) (h : wpb_X9_late_L42   K42 f x1 x2 x3 x4 (zp Z)) : GG Z f [(0, .ref (zad Z 0)), (1, .int x1), (2, .int x2), (3, .int x3), (4, .int x4)] 42 [] := by
  refine g_iload C rfl dX9_late_42 rfl ?_
  refine g_if_lt (tgt := 75) C dX9_late_44 (by decide) rfl (fun hc9 => ?_) (fun hc9 => ?_)
  · replace h := h.1 hc9
    refine g_aload_n C rfl dX9_late_75 rfl ?_
    refine g_iconst C ki_m1 dX9_late_76 rfl ?_
    refine fp_X9_22 (k := 0) C rfl rfl (Nat.le_of_ble_eq_true rfl) dX9_late_77 rfl ?_
    refine g_iload_n C rfl dX9_late_80 rfl ?_
    refine g_if_ge (tgt := 92) C dX9_late_81 (by decide) rfl (fun hc10 => ?_) (fun hc10 => ?_)
    · replace h := h.1 hc10
      refine g_iload_n C rfl dX9_late_92 rfl ?_
      exact g_iret C dX9_late_93 h
    · replace h := h.2 hc10
      refine g_aload_n C rfl dX9_late_84 rfl ?_
      refine g_iconst C ki_2 dX9_late_85 rfl ?_
      have hs11 := h.1
      replace h := h.2
      refine g_callVI C tw_881 tw_883 tp_15 tw_10 tw_884 hy_X9_finds (by decide) (by decide) rfl (Nat.le_of_ble_eq_true rfl) rfl rfl (ct_X9_finds V_l1 V_l2 V_m1   (up2 f 0 10 (-1 : Int32)) (2 : Int32) hs11) dX9_late_86 rfl rfl (fun r12 f13 hp14 => ?_)
      replace h := h r12 f13 hp14
      refine g_goto (q := 93) C dX9_late_89 (by decide) ?_
      exact g_iret C dX9_late_93 h
  · replace h := h.2 hc9
    refine g_aload_n C rfl dX9_late_47 rfl ?_
    refine g_iload C rfl dX9_late_48 rfl ?_
    refine fp_X9_22 (k := 0) C rfl rfl (Nat.le_of_ble_eq_true rfl) dX9_late_50 rfl ?_
    refine g_aload_n C rfl dX9_late_53 rfl ?_
    refine g_iload_n C rfl dX9_late_54 rfl ?_
    refine g_iload_n C rfl dX9_late_55 rfl ?_
    have hs15 := h.1
    replace h := h.2
    refine g_callVI C tw_1158 tw_1160 tp_48 tw_10 tw_1161 hy_X9_isSo (by decide) (by decide) rfl (Nat.le_of_ble_eq_true rfl) rfl rfl (ct_X9_isSo V_l1 V_l2 V_m1 V_m2   (up2 f 0 10 x4) x1 x2 hs15) dX9_late_56 rfl rfl (fun r16 f17 hp18 => ?_)
    replace h := h r16 f17 hp18
    refine g_if_eq (tgt := 67) C dX9_late_59 (by decide) rfl (fun hc19 => ?_) (fun hc19 => ?_)
    · replace h := h.1 hc19
      refine g_iload_n C rfl dX9_late_67 rfl ?_
      refine g_lps [0, 1, 2, 4] rfl ?_
      exact wk_X9_late_L68 V_l1 V_l2 V_m1 V_m2  C   hK42 _ _ _ _ _ h
    · replace h := h.2 hc19
      refine g_iload C rfl dX9_late_62 rfl ?_
      refine g_goto (q := 68) C dX9_late_64 (by decide) ?_
      refine g_lps [0, 1, 2, 4] rfl ?_
      exact wk_X9_late_L68 V_l1 V_l2 V_m1 V_m2  C   hK42 _ _ _ _ _ h
set_option maxHeartbeats 4000000 in
set_option maxRecDepth 100000 in
theorem wk_X9_late_L42 (V_l1 : VC_l1) (V_l2 : VC_l2) (V_m1 : VC_m1) (V_m2 : VC_m2) {Z : Zt}  (C : CX Z layM RX9 cX9_late 5 (some .int) 57)     (f : Fn) (x1 : Int32) (x2 : Int32) (x3 : Int32) (x4 : Int32) (h : wp_X9_late_L42   f x1 x2 x3 x4 (zp Z)) : GG Z f [(0, .ref (zad Z 0)), (1, .int x1), (2, .int x2), (3, .int x3), (4, .int x4)] 42 [] := by
  obtain ⟨I, μ, h0, hs⟩ := h
  suffices H : ∀ (N : Nat) (f : Fn) (x1 : Int32) (x2 : Int32) (x3 : Int32) (x4 : Int32), μ f x1 x2 x3 x4 < N → I f x1 x2 x3 x4 → GG Z f [(0, .ref (zad Z 0)), (1, .int x1), (2, .int x2), (3, .int x3), (4, .int x4)] 42 [] from H _ f x1 x2 x3 x4 (Nat.lt_succ_self _) h0
  clear h0
  intro N
  induction N with
  | zero => intro f x1 x2 x3 x4 hm; exact absurd hm (Nat.not_lt_zero _)
  | succ N ih =>
    intro f x1 x2 x3 x4 hm hi
    exact wkb_X9_late_L42 V_l1 V_l2 V_m1 V_m2  C    (fun f9 x19 x29 x39 x49 hk => ih f9 x19 x29 x39 x49 (Nat.lt_of_lt_of_le hk.2 (Nat.le_of_lt_succ hm)) hk.1) f x1 x2 x3 x4 (hs f x1 x2 x3 x4 hi)
set_option maxHeartbeats 4000000 in
set_option maxRecDepth 100000 in
theorem wk_X9_late (V_l1 : VC_l1) (V_l2 : VC_l2) (V_m1 : VC_m1) (V_m2 : VC_m2) {Z : Zt}  (C : CX Z layM RX9 cX9_late 5 (some .int) 57)     (f : Fn) (a1 : Int32) (a2 : Int32) (h : wp_X9_late  f a1 a2 (zp Z)) : GG Z f [(0, .ref (zad Z 0)), (1, .int a1), (2, .int a2)] 0 [] := by
  refine g_aload_n C rfl dX9_late_0 rfl ?_
  refine g_iload_n C rfl dX9_late_1 rfl ?_
  refine g_callVD C tw_988 tw_990 tp_29 tw_10 tw_991 hy_X9_isFlyer (by decide) (by decide) rfl (Nat.le_of_ble_eq_true rfl) rfl rfl (ct_X9_isFlyer V_l1 V_l2 V_m1   f a1 ) dX9_late_2 rfl rfl ?_
  refine g_if_eq (tgt := 15) C dX9_late_5 (by decide) rfl (fun hc1 => ?_) (fun hc1 => ?_)
  · replace h := h.1 hc1
    refine g_lps [0] rfl ?_
    exact wk_X9_late_L15 V_l1 V_l2 V_m1 V_m2  C    _  h
  · replace h := h.2 hc1
    refine g_iload_n C rfl dX9_late_8 rfl ?_
    refine g_callSD C tw_1155 tw_1156 tw_10 tw_1157 hy_X9_isSheet (by decide) (by decide) rfl (Nat.le_of_ble_eq_true rfl) (ct_X9_isSheet V_l1 V_l2 V_m1 V_m2   f a2 ) dX9_late_9 rfl rfl ?_
    refine g_if_ne (tgt := 21) C dX9_late_12 (by decide) rfl (fun hc6 => ?_) (fun hc6 => ?_)
    · replace h := h.1 hc6
      refine g_aload_n C rfl dX9_late_21 rfl ?_
      refine fg_X9_32R (k := 0) (p := 7) C rfl rfl dX9_late_22 rfl ?_
      refine g_iload_n C rfl dX9_late_25 rfl ?_
      have hs7 := h.1
      replace h := h.2
      refine g_ialdx (k := 7) (j := a2.toNatClampNeg) (x := (f 7 a2.toNatClampNeg)) C rfl hs7 rfl rfl dX9_late_26 rfl ?_
      refine g_if_ne (tgt := 36) C dX9_late_27 (by decide) rfl (fun hc8 => ?_) (fun hc8 => ?_)
      · replace h := h.1 hc8
        refine g_iconst C ki_m1 dX9_late_36 rfl ?_
        refine g_istore_n (lv' := [(3, .int (-1 : Int32)), (0, .ref (zad Z 0)), (1, .int a1), (2, .int a2)]) C dX9_late_37 (by decide) rfl rfl ?_
        refine g_bipush C kb_9 dX9_late_38 rfl ?_
        refine g_istore (lv' := [(4, .int (9 : Int32)), (3, .int (-1 : Int32)), (0, .ref (zad Z 0)), (1, .int a1), (2, .int a2)]) C dX9_late_40 (by decide) rfl rfl ?_
        refine g_lps [0, 1, 2, 3, 4] rfl ?_
        exact wk_X9_late_L42 V_l1 V_l2 V_m1 V_m2  C    _ _ _ _ _ h
      · replace h := h.2 hc8
        refine g_aload_n C rfl dX9_late_30 rfl ?_
        refine g_iconst C ki_2 dX9_late_31 rfl ?_
        have hs20 := h.1
        replace h := h.2
        refine g_callVI C tw_881 tw_883 tp_15 tw_10 tw_884 hy_X9_finds (by decide) (by decide) rfl (Nat.le_of_ble_eq_true rfl) rfl rfl (ct_X9_finds V_l1 V_l2 V_m1   f (2 : Int32) hs20) dX9_late_32 rfl rfl (fun r21 f22 hp23 => ?_)
        replace h := h r21 f22 hp23
        exact g_iret C dX9_late_35 h
    · replace h := h.2 hc6
      refine g_lps [0] rfl ?_
      exact wk_X9_late_L15 V_l1 V_l2 V_m1 V_m2  C    _  h
set_option maxRecDepth 100000 in
theorem ct_X9_late (V_l1 : VC_l1) (V_l2 : VC_l2) (V_m1 : VC_m1) (V_m2 : VC_m2) {l : Launch} {E : Ev}   (f : Fn) (a1 : Int32) (a2 : Int32) (hpre : Pre_X9_late f a1 a2) : CT l E layM yX9_late cX9_late 5 (some .int) 57 [.ref (E.2.1 0), .int a1, .int a2] f (pI (Post_X9_late f a1 a2)) := by
  refine CT.of (by decide +kernel) (Nat.le_of_ble_eq_true rfl) (fun Z hl9 hE9 hp9 C => ?_)
  subst hl9
  subst hE9
  exact wk_X9_late V_l1 V_l2 V_m1 V_m2 C   f a1 a2 (by rw [hp9]; exact V_m2.2.2.2.1  f a1 a2  hpre)
set_option maxHeartbeats 4000000 in
set_option maxRecDepth 100000 in
theorem wk_X9_seed (V_l1 : VC_l1) (V_l2 : VC_l2) (V_m1 : VC_m1) (V_m2 : VC_m2) {Z : Zt}  (C : CX Z layM RX9 cX9_seed 3 (some .int) 0)     (f : Fn) (a1 : Int32) (h : wp_X9_seed  f a1 (zp Z)) : GG Z f [(0, .ref (zad Z 0)), (1, .int a1)] 0 [] := by
  refine g_aload_n C rfl dX9_seed_0 rfl ?_
  refine fg_X9_7R (k := 0) (p := 1) C rfl rfl dX9_seed_1 rfl ?_
  refine g_bipush C kb_8 dX9_seed_4 rfl ?_
  refine g_ialdx (k := 1) (j := 8) (x := (f 1 8)) C rfl vi_8_264 kc_8 rfl dX9_seed_6 rfl ?_
  refine g_istore_n (lv' := [(2, .int (f 1 8)), (0, .ref (zad Z 0)), (1, .int a1)]) C dX9_seed_7 (by decide) rfl rfl ?_
  refine g_aload_n C rfl dX9_seed_8 rfl ?_
  refine fg_X9_7R (k := 0) (p := 1) C rfl rfl dX9_seed_9 rfl ?_
  refine g_bipush C kb_8 dX9_seed_12 rfl ?_
  refine g_iload_n C rfl dX9_seed_14 rfl ?_
  refine g_iastx (k := 1) (j := 8) C rfl vi_8_264 kc_8 dX9_seed_15 rfl ?_
  refine g_iload_n C rfl dX9_seed_16 rfl ?_
  exact g_iret C dX9_seed_17 h
set_option maxRecDepth 100000 in
theorem ct_X9_seed (V_l1 : VC_l1) (V_l2 : VC_l2) (V_m1 : VC_m1) (V_m2 : VC_m2) {l : Launch} {E : Ev}   (f : Fn) (a1 : Int32) (hpre : Pre_X9_seed f a1) : CT l E layM yX9_seed cX9_seed 3 (some .int) 0 [.ref (E.2.1 0), .int a1] f (pI (Post_X9_seed f a1)) := by
  refine CT.of (by decide +kernel) (Nat.le_of_ble_eq_true rfl) (fun Z hl9 hE9 hp9 C => ?_)
  subst hl9
  subst hE9
  exact wk_X9_seed V_l1 V_l2 V_m1 V_m2 C   f a1 (by rw [hp9]; exact V_m2.2.2.2.2.1  f a1  hpre)
set_option maxHeartbeats 4000000 in
set_option maxRecDepth 100000 in
theorem wk_X9_ran (V_l1 : VC_l1) (V_l2 : VC_l2) (V_m1 : VC_m1) (V_m2 : VC_m2) {Z : Zt}  (C : CX Z layM RX9 cX9_ran 2 none 0)     (f : Fn) (a1 : Int32) (h : wp_X9_ran  f a1 (zp Z)) : GG Z f [(0, .ref (zad Z 0)), (1, .int a1)] 0 [] := by
  refine g_aload_n C rfl dX9_ran_0 rfl ?_
  refine fg_X9_268I (k := 0) (x := (f 0 20)) C rfl rfl rfl dX9_ran_1 rfl ?_
  refine g_bipush C kb_40 dX9_ran_4 rfl ?_
  refine g_icmp_ge (tgt := 29) C dX9_ran_6 (by decide) rfl (fun hc1 => ?_) (fun hc1 => ?_)
  · replace h := h.1 hc1
    exact g_vret C dX9_ran_29 h
  · replace h := h.2 hc1
    refine g_aload_n C rfl dX9_ran_9 rfl ?_
    refine fg_X9_29R (k := 0) (p := 6) C rfl rfl dX9_ran_10 rfl ?_
    refine g_aload_n C rfl dX9_ran_13 rfl ?_
    refine fg_X9_268I (k := 0) (x := (f 0 20)) C rfl rfl rfl dX9_ran_14 rfl ?_
    refine g_iload_n C rfl dX9_ran_17 rfl ?_
    have hs2 := h.1
    replace h := h.2
    refine g_iastx (k := 6) (j := (f 0 20).toNatClampNeg) C rfl hs2 rfl dX9_ran_18 rfl ?_
    refine g_aload_n C rfl dX9_ran_19 rfl ?_
    refine g_dup C rfl dX9_ran_20 rfl ?_
    refine fg_X9_268I (k := 0) (x := (f 0 20)) C rfl rfl (by simp [up2, upd]) dX9_ran_21 rfl ?_
    refine g_iconst C ki_1 dX9_ran_24 rfl ?_
    refine g_iadd C dX9_ran_25 rfl ?_
    refine fp_X9_268 (k := 0) C rfl rfl (Nat.le_of_ble_eq_true rfl) dX9_ran_26 rfl ?_
    exact g_vret C dX9_ran_29 h
set_option maxRecDepth 100000 in
theorem ct_X9_ran (V_l1 : VC_l1) (V_l2 : VC_l2) (V_m1 : VC_m1) (V_m2 : VC_m2) {l : Launch} {E : Ev}   (f : Fn) (a1 : Int32) (hpre : Pre_X9_ran f a1) : CT l E layM yX9_ran cX9_ran 2 none 0 [.ref (E.2.1 0), .int a1] f (pV (Post_X9_ran f a1)) := by
  refine CT.of (by decide +kernel) (Nat.le_of_ble_eq_true rfl) (fun Z hl9 hE9 hp9 C => ?_)
  subst hl9
  subst hE9
  exact wk_X9_ran V_l1 V_l2 V_m1 V_m2 C   f a1 (by rw [hp9]; exact V_m2.2.2.2.2.2.1  f a1  hpre)
set_option maxHeartbeats 4000000 in
set_option maxRecDepth 100000 in
theorem wk_X9_own (V_l1 : VC_l1) (V_l2 : VC_l2) (V_m1 : VC_m1) (V_m2 : VC_m2) {Z : Zt}  (C : CX Z layM RX9 cX9_own 1 (some .int) 1)     (f : Fn)  (h : wp_X9_own  f  (zp Z)) : GG Z f [(0, .ref (zad Z 0))] 0 [] := by
  refine g_aload_n C rfl dX9_own_0 rfl ?_
  refine g_aload_n C rfl dX9_own_1 rfl ?_
  refine fg_X9_271I (k := 0) (x := (f 0 21)) C rfl rfl rfl dX9_own_2 rfl ?_
  refine g_iconst C ki_0 dX9_own_5 rfl ?_
  have hs1 := h.1
  replace h := h.2
  refine g_callVD C tw_997 tw_999 tp_31 tw_10 tw_1000 hy_X9_of (by decide) (by decide) rfl (Nat.le_of_ble_eq_true rfl) rfl rfl (ct_X9_of V_l1 V_l2 V_m1   f (f 0 21) (0 : Int32) hs1) dX9_own_6 rfl rfl ?_
  exact g_iret C dX9_own_9 h
set_option maxRecDepth 100000 in
theorem ct_X9_own (V_l1 : VC_l1) (V_l2 : VC_l2) (V_m1 : VC_m1) (V_m2 : VC_m2) {l : Launch} {E : Ev}   (f : Fn)  (hpre : Pre_X9_own f) : CT l E layM yX9_own cX9_own 1 (some .int) 1 [.ref (E.2.1 0)] f (pI (fun r9 f9 => r9 = Val_X9_own f ∧ f9 = f)) := by
  refine CT.of (by decide +kernel) (Nat.le_of_ble_eq_true rfl) (fun Z hl9 hE9 hp9 C => ?_)
  subst hl9
  subst hE9
  exact wk_X9_own V_l1 V_l2 V_m1 V_m2 C   f  (by rw [hp9]; exact V_m2.2.2.2.2.2.2.1  f   hpre)
set_option maxHeartbeats 4000000 in
set_option maxRecDepth 100000 in
theorem wk_X9_swingsBy (V_l1 : VC_l1) (V_l2 : VC_l2) (V_m1 : VC_m1) (V_m2 : VC_m2) {Z : Zt} {m0 dd de : Nat} (hde : de + 1 ≤ dd) (hd1 : 3 ≤ dd) (hr_X9_swingsBy : ∀ (f : Fn) (b1 : Int32) (b2 : Int32), Pre_X9_swingsBy f b1 b2 → mu_X9_swingsBy f b1 b2 < m0 → CT (zl Z) (zE Z) layM yX9_swingsBy cX9_swingsBy 3 (some .int) de [.ref (zad Z 0), .int b1, .int b2] f (pI (Post_X9_swingsBy f b1 b2))) (C : CX Z layM RX9 cX9_swingsBy 3 (some .int) dd)     (f : Fn) (a1 : Int32) (a2 : Int32) (h : wp_X9_swingsBy m0  f a1 a2 (zp Z)) : GG Z f [(0, .ref (zad Z 0)), (1, .int a1), (2, .int a2)] 0 [] := by
  refine g_iload_n C rfl dX9_swingsBy_0 rfl ?_
  by_cases hk1_0 : a1 = (0 : Int32)
  · replace h := h.1 hk1_0
    refine g_lookup (q := 28) (off := (27)) C dX9_swingsBy_1 (by decide +kernel) (sw_lo hk1_0 (by decide +kernel)) (by decide) ?_
    refine g_aload_n C rfl dX9_swingsBy_28 rfl ?_
    refine g_bipush C kb_10 dX9_swingsBy_29 rfl ?_
    have hs2 := h.1
    replace h := h.2
    refine g_callVV C tw_1182 tw_1184 tp_51 tw_10 tw_1185 hy_X9_ran (by decide) (by omega) rfl (Nat.le_of_ble_eq_true rfl) rfl rfl (ct_X9_ran V_l1 V_l2 V_m1 V_m2   f (10 : Int32) hs2) dX9_swingsBy_31 rfl rfl (fun f3 hp4 => ?_)
    replace h := h f3 hp4
    refine g_iload_n C rfl dX9_swingsBy_34 rfl ?_
    refine g_aload_n C rfl dX9_swingsBy_35 rfl ?_
    refine fg_X9_271I (k := 0) (x := (f3 0 21)) C rfl rfl rfl dX9_swingsBy_36 rfl ?_
    refine g_iadd C dX9_swingsBy_39 rfl ?_
    exact g_iret C dX9_swingsBy_40 h
  by_cases hk1_1 : a1 = (1 : Int32)
  · replace h := h.2.1 hk1_1
    refine g_lookup (q := 41) (off := (40)) C dX9_swingsBy_1 (by decide +kernel) (sw_lo hk1_1 (by decide +kernel)) (by decide) ?_
    refine g_aload_n C rfl dX9_swingsBy_41 rfl ?_
    refine g_bipush C kb_20 dX9_swingsBy_42 rfl ?_
    have hs5 := h.1
    replace h := h.2
    refine g_callVV C tw_1182 tw_1184 tp_51 tw_10 tw_1185 hy_X9_ran (by decide) (by omega) rfl (Nat.le_of_ble_eq_true rfl) rfl rfl (ct_X9_ran V_l1 V_l2 V_m1 V_m2   f (20 : Int32) hs5) dX9_swingsBy_44 rfl rfl (fun f6 hp7 => ?_)
    replace h := h f6 hp7
    refine g_aload_n C rfl dX9_swingsBy_47 rfl ?_
    refine g_iconst C ki_1 dX9_swingsBy_48 rfl ?_
    refine g_callSD C tw_1017 tw_1018 tw_10 tw_1019 hy_X9_above (by decide) (by omega) rfl (Nat.le_of_ble_eq_true rfl) (ct_X9_above V_l1 V_l2 V_m1   f6 (1 : Int32) ) dX9_swingsBy_49 rfl rfl ?_
    refine g_iload_n C rfl dX9_swingsBy_52 rfl ?_
    have hs8 := h.1
    replace h := h.2
    have hs9 := h.1
    replace h := h.2
    refine g_callVI C tw_1178 tw_1180 tp_50 tw_10 tw_1181 hy_X9_swingsBy (by decide) hde rfl (Nat.le_of_ble_eq_true rfl) rfl rfl (hr_X9_swingsBy f6 (Val_X9_above f6 (1 : Int32)) a2 hs8 hs9) dX9_swingsBy_53 rfl rfl (fun r10 f11 hp12 => ?_)
    replace h := h r10 f11 hp12
    refine g_iconst C ki_3 dX9_swingsBy_56 rfl ?_
    refine g_imul C dX9_swingsBy_57 rfl ?_
    exact g_iret C dX9_swingsBy_58 h
  replace h := h.2.2 ⟨hk1_0, hk1_1⟩
  refine g_lookup (q := 59) (off := (58)) C dX9_swingsBy_1 (by decide +kernel) (sw_ld _ [(0 : Int32), (1 : Int32)] (by decide +kernel) (fun k9 hk9 => by simp only [List.mem_cons, List.not_mem_nil, or_false] at hk9; rcases hk9 with rfl | rfl <;> assumption)) (by decide) ?_
  refine g_aload_n C rfl dX9_swingsBy_59 rfl ?_
  refine g_iload_n C rfl dX9_swingsBy_60 rfl ?_
  refine g_callSD C tw_1017 tw_1018 tw_10 tw_1019 hy_X9_above (by decide) (by omega) rfl (Nat.le_of_ble_eq_true rfl) (ct_X9_above V_l1 V_l2 V_m1   f a1 ) dX9_swingsBy_61 rfl rfl ?_
  refine g_iload_n C rfl dX9_swingsBy_64 rfl ?_
  have hs13 := h.1
  replace h := h.2
  have hs14 := h.1
  replace h := h.2
  refine g_callVI C tw_1178 tw_1180 tp_50 tw_10 tw_1181 hy_X9_swingsBy (by decide) hde rfl (Nat.le_of_ble_eq_true rfl) rfl rfl (hr_X9_swingsBy f (Val_X9_above f a1) a2 hs13 hs14) dX9_swingsBy_65 rfl rfl (fun r15 f16 hp17 => ?_)
  replace h := h r15 f16 hp17
  exact g_iret C dX9_swingsBy_68 h
set_option maxRecDepth 100000 in
theorem ctN_v0 (V_l1 : VC_l1) (V_l2 : VC_l2) (V_m1 : VC_m1) (V_m2 : VC_m2) {l : Launch} {E : Ev} : ∀ N : Nat, (∀ (f : Fn) (a1 : Int32) (a2 : Int32), Pre_X9_swingsBy f a1 a2 → mu_X9_swingsBy f a1 a2 < N → CT l E layM yX9_swingsBy cX9_swingsBy 3 (some .int) (3 + N) [.ref (E.2.1 0), .int a1, .int a2] f (pI (Post_X9_swingsBy f a1 a2))) ∧ True := by
  intro N
  induction N with
  | zero => exact ⟨fun f a1 a2 _ h => absurd h (Nat.not_lt_zero _), trivial⟩
  | succ N ih =>
    obtain ⟨i_X9_swingsBy, -⟩ := ih
    refine ⟨?_, trivial⟩
    · intro f a1 a2 hpre hmu
      refine CT.of (by decide +kernel) (Nat.le_of_ble_eq_true rfl) (fun Z hl9 hE9 hp9 C => ?_)
      subst hl9
      subst hE9
      exact wk_X9_swingsBy V_l1 V_l2 V_m1 V_m2 (m0 := mu_X9_swingsBy f a1 a2) (dd := 3 + (N + 1)) (de := 3 + N) (Nat.le_refl _) (by omega) (fun f9 a19 a29 h1 h2 => i_X9_swingsBy f9 a19 a29 h1 (by omega)) C f a1 a2 (by rw [hp9]; exact (V_m2.2.2.2.2.2.2.2.1 f a1 a2 hpre).2)
theorem ct_X9_swingsBy (V_l1 : VC_l1) (V_l2 : VC_l2) (V_m1 : VC_m1) (V_m2 : VC_m2) {l : Launch} {E : Ev} (f : Fn) (a1 : Int32) (a2 : Int32) (hpre : Pre_X9_swingsBy f a1 a2) : CT l E layM yX9_swingsBy cX9_swingsBy 3 (some .int) 7 [.ref (E.2.1 0), .int a1, .int a2] f (pI (Post_X9_swingsBy f a1 a2)) := (ctN_v0 V_l1 V_l2 V_m1 V_m2 4).1 f a1 a2 hpre (V_m2.2.2.2.2.2.2.2.1 f a1 a2 hpre).1
set_option maxHeartbeats 4000000 in
set_option maxRecDepth 100000 in
theorem wk_X9_fallsBy (V_l1 : VC_l1) (V_l2 : VC_l2) (V_m1 : VC_m1) (V_m2 : VC_m2) {Z : Zt} {m0 dd de : Nat} (hde : de + 1 ≤ dd) (hd1 : 3 ≤ dd) (hr_X9_fallsBy : ∀ (f : Fn) (b1 : Int32) (b2 : Int32), Pre_X9_fallsBy f b1 b2 → mu_X9_fallsBy f b1 b2 < m0 → CT (zl Z) (zE Z) layM yX9_fallsBy cX9_fallsBy 3 (some .int) de [.ref (zad Z 0), .int b1, .int b2] f (pI (Post_X9_fallsBy f b1 b2))) (C : CX Z layM RX9 cX9_fallsBy 3 (some .int) dd)     (f : Fn) (a1 : Int32) (a2 : Int32) (h : wp_X9_fallsBy m0  f a1 a2 (zp Z)) : GG Z f [(0, .ref (zad Z 0)), (1, .int a1), (2, .int a2)] 0 [] := by
  refine g_iload_n C rfl dX9_fallsBy_0 rfl ?_
  by_cases hk1_0 : a1 = (0 : Int32)
  · replace h := h.1 hk1_0
    refine g_lookup (q := 36) (off := (35)) C dX9_fallsBy_1 (by decide +kernel) (sw_lo hk1_0 (by decide +kernel)) (by decide) ?_
    refine g_aload_n C rfl dX9_fallsBy_36 rfl ?_
    refine g_bipush C kb_12 dX9_fallsBy_37 rfl ?_
    have hs2 := h.1
    replace h := h.2
    refine g_callVV C tw_1182 tw_1184 tp_51 tw_10 tw_1185 hy_X9_ran (by decide) (by omega) rfl (Nat.le_of_ble_eq_true rfl) rfl rfl (ct_X9_ran V_l1 V_l2 V_m1 V_m2   f (12 : Int32) hs2) dX9_fallsBy_39 rfl rfl (fun f3 hp4 => ?_)
    replace h := h f3 hp4
    refine g_iload_n C rfl dX9_fallsBy_42 rfl ?_
    refine g_aload_n C rfl dX9_fallsBy_43 rfl ?_
    refine g_aload_n C rfl dX9_fallsBy_44 rfl ?_
    refine fg_X9_271I (k := 0) (x := (f3 0 21)) C rfl rfl rfl dX9_fallsBy_45 rfl ?_
    refine g_iconst C ki_1 dX9_fallsBy_48 rfl ?_
    have hs5 := h.1
    replace h := h.2
    refine g_callVD C tw_997 tw_999 tp_31 tw_10 tw_1000 hy_X9_of (by decide) (by omega) rfl (Nat.le_of_ble_eq_true rfl) rfl rfl (ct_X9_of V_l1 V_l2 V_m1   f3 (f3 0 21) (1 : Int32) hs5) dX9_fallsBy_49 rfl rfl ?_
    refine g_isub C dX9_fallsBy_52 rfl ?_
    exact g_iret C dX9_fallsBy_53 h
  by_cases hk1_1 : a1 = (3 : Int32)
  · replace h := h.2.1 hk1_1
    refine g_lookup (q := 54) (off := (53)) C dX9_fallsBy_1 (by decide +kernel) (sw_lo hk1_1 (by decide +kernel)) (by decide) ?_
    refine g_aload_n C rfl dX9_fallsBy_54 rfl ?_
    refine g_bipush C kb_40 dX9_fallsBy_55 rfl ?_
    have hs6 := h.1
    replace h := h.2
    refine g_callVV C tw_1182 tw_1184 tp_51 tw_10 tw_1185 hy_X9_ran (by decide) (by omega) rfl (Nat.le_of_ble_eq_true rfl) rfl rfl (ct_X9_ran V_l1 V_l2 V_m1 V_m2   f (40 : Int32) hs6) dX9_fallsBy_57 rfl rfl (fun f7 hp8 => ?_)
    replace h := h f7 hp8
    refine g_aload_n C rfl dX9_fallsBy_60 rfl ?_
    refine g_iconst C ki_3 dX9_fallsBy_61 rfl ?_
    refine g_callSD C tw_1017 tw_1018 tw_10 tw_1019 hy_X9_above (by decide) (by omega) rfl (Nat.le_of_ble_eq_true rfl) (ct_X9_above V_l1 V_l2 V_m1   f7 (3 : Int32) ) dX9_fallsBy_62 rfl rfl ?_
    refine g_iload_n C rfl dX9_fallsBy_65 rfl ?_
    have hs9 := h.1
    replace h := h.2
    have hs10 := h.1
    replace h := h.2
    refine g_callVI C tw_1190 tw_1192 tp_53 tw_10 tw_1193 hy_X9_fallsBy (by decide) hde rfl (Nat.le_of_ble_eq_true rfl) rfl rfl (hr_X9_fallsBy f7 (Val_X9_above f7 (3 : Int32)) a2 hs9 hs10) dX9_fallsBy_66 rfl rfl (fun r11 f12 hp13 => ?_)
    replace h := h r11 f12 hp13
    refine g_ineg C dX9_fallsBy_69 rfl ?_
    exact g_iret C dX9_fallsBy_70 h
  by_cases hk1_2 : a1 = (6 : Int32)
  · replace h := h.2.2.1 hk1_2
    refine g_lookup (q := 71) (off := (70)) C dX9_fallsBy_1 (by decide +kernel) (sw_lo hk1_2 (by decide +kernel)) (by decide) ?_
    refine g_aload_n C rfl dX9_fallsBy_71 rfl ?_
    refine g_bipush C kb_70 dX9_fallsBy_72 rfl ?_
    have hs14 := h.1
    replace h := h.2
    refine g_callVV C tw_1182 tw_1184 tp_51 tw_10 tw_1185 hy_X9_ran (by decide) (by omega) rfl (Nat.le_of_ble_eq_true rfl) rfl rfl (ct_X9_ran V_l1 V_l2 V_m1 V_m2   f (70 : Int32) hs14) dX9_fallsBy_74 rfl rfl (fun f15 hp16 => ?_)
    replace h := h f15 hp16
    refine g_aload_n C rfl dX9_fallsBy_77 rfl ?_
    refine g_bipush C kb_6 dX9_fallsBy_78 rfl ?_
    refine g_callSD C tw_1017 tw_1018 tw_10 tw_1019 hy_X9_above (by decide) (by omega) rfl (Nat.le_of_ble_eq_true rfl) (ct_X9_above V_l1 V_l2 V_m1   f15 (6 : Int32) ) dX9_fallsBy_80 rfl rfl ?_
    refine g_iload_n C rfl dX9_fallsBy_83 rfl ?_
    have hs17 := h.1
    replace h := h.2
    have hs18 := h.1
    replace h := h.2
    refine g_callVI C tw_1190 tw_1192 tp_53 tw_10 tw_1193 hy_X9_fallsBy (by decide) hde rfl (Nat.le_of_ble_eq_true rfl) rfl rfl (hr_X9_fallsBy f15 (Val_X9_above f15 (6 : Int32)) a2 hs17 hs18) dX9_fallsBy_84 rfl rfl (fun r19 f20 hp21 => ?_)
    replace h := h r19 f20 hp21
    refine g_aload_n C rfl dX9_fallsBy_87 rfl ?_
    refine fg_X9_271I (k := 0) (x := (f20 0 21)) C rfl rfl rfl dX9_fallsBy_88 rfl ?_
    refine g_ixor C dX9_fallsBy_91 rfl ?_
    exact g_iret C dX9_fallsBy_92 h
  replace h := h.2.2.2 ⟨hk1_0, hk1_1, hk1_2⟩
  refine g_lookup (q := 93) (off := (92)) C dX9_fallsBy_1 (by decide +kernel) (sw_ld _ [(0 : Int32), (3 : Int32), (6 : Int32)] (by decide +kernel) (fun k9 hk9 => by simp only [List.mem_cons, List.not_mem_nil, or_false] at hk9; rcases hk9 with rfl | rfl | rfl <;> assumption)) (by decide) ?_
  refine g_aload_n C rfl dX9_fallsBy_93 rfl ?_
  refine g_iload_n C rfl dX9_fallsBy_94 rfl ?_
  refine g_callSD C tw_1017 tw_1018 tw_10 tw_1019 hy_X9_above (by decide) (by omega) rfl (Nat.le_of_ble_eq_true rfl) (ct_X9_above V_l1 V_l2 V_m1   f a1 ) dX9_fallsBy_95 rfl rfl ?_
  refine g_iload_n C rfl dX9_fallsBy_98 rfl ?_
  have hs22 := h.1
  replace h := h.2
  have hs23 := h.1
  replace h := h.2
  refine g_callVI C tw_1190 tw_1192 tp_53 tw_10 tw_1193 hy_X9_fallsBy (by decide) hde rfl (Nat.le_of_ble_eq_true rfl) rfl rfl (hr_X9_fallsBy f (Val_X9_above f a1) a2 hs22 hs23) dX9_fallsBy_99 rfl rfl (fun r24 f25 hp26 => ?_)
  replace h := h r24 f25 hp26
  exact g_iret C dX9_fallsBy_102 h
set_option maxRecDepth 100000 in
theorem ctN_v2 (V_l1 : VC_l1) (V_l2 : VC_l2) (V_m1 : VC_m1) (V_m2 : VC_m2) {l : Launch} {E : Ev} : ∀ N : Nat, (∀ (f : Fn) (a1 : Int32) (a2 : Int32), Pre_X9_fallsBy f a1 a2 → mu_X9_fallsBy f a1 a2 < N → CT l E layM yX9_fallsBy cX9_fallsBy 3 (some .int) (3 + N) [.ref (E.2.1 0), .int a1, .int a2] f (pI (Post_X9_fallsBy f a1 a2))) ∧ True := by
  intro N
  induction N with
  | zero => exact ⟨fun f a1 a2 _ h => absurd h (Nat.not_lt_zero _), trivial⟩
  | succ N ih =>
    obtain ⟨i_X9_fallsBy, -⟩ := ih
    refine ⟨?_, trivial⟩
    · intro f a1 a2 hpre hmu
      refine CT.of (by decide +kernel) (Nat.le_of_ble_eq_true rfl) (fun Z hl9 hE9 hp9 C => ?_)
      subst hl9
      subst hE9
      exact wk_X9_fallsBy V_l1 V_l2 V_m1 V_m2 (m0 := mu_X9_fallsBy f a1 a2) (dd := 3 + (N + 1)) (de := 3 + N) (Nat.le_refl _) (by omega) (fun f9 a19 a29 h1 h2 => i_X9_fallsBy f9 a19 a29 h1 (by omega)) C f a1 a2 (by rw [hp9]; exact (V_m2.2.2.2.2.2.2.2.2.1 f a1 a2 hpre).2)
theorem ct_X9_fallsBy (V_l1 : VC_l1) (V_l2 : VC_l2) (V_m1 : VC_m1) (V_m2 : VC_m2) {l : Launch} {E : Ev} (f : Fn) (a1 : Int32) (a2 : Int32) (hpre : Pre_X9_fallsBy f a1 a2) : CT l E layM yX9_fallsBy cX9_fallsBy 3 (some .int) 7 [.ref (E.2.1 0), .int a1, .int a2] f (pI (Post_X9_fallsBy f a1 a2)) := (ctN_v2 V_l1 V_l2 V_m1 V_m2 4).1 f a1 a2 hpre (V_m2.2.2.2.2.2.2.2.2.1 f a1 a2 hpre).1
set_option maxHeartbeats 4000000 in
set_option maxRecDepth 100000 in
theorem wk_X9_fliesBy (V_l1 : VC_l1) (V_l2 : VC_l2) (V_m1 : VC_m1) (V_m2 : VC_m2) {Z : Zt} {m0 dd de : Nat} (hde : de + 1 ≤ dd) (hd1 : 12 ≤ dd) (hr_X9_fliesBy : ∀ (f : Fn) (b1 : Int32) (b2 : Int32), Pre_X9_fliesBy f b1 b2 → mu_X9_fliesBy f b1 b2 < m0 → CT (zl Z) (zE Z) layM yX9_fliesBy cX9_fliesBy 4 (some .int) de [.ref (zad Z 0), .int b1, .int b2] f (pI (Post_X9_fliesBy f b1 b2))) (C : CX Z layM RX9 cX9_fliesBy 4 (some .int) dd)     (f : Fn) (a1 : Int32) (a2 : Int32) (h : wp_X9_fliesBy m0  f a1 a2 (zp Z)) : GG Z f [(0, .ref (zad Z 0)), (1, .int a1), (2, .int a2)] 0 [] := by
  refine g_iload_n C rfl dX9_fliesBy_0 rfl ?_
  by_cases hk1_0 : a1 = (0 : Int32)
  · replace h := h.1 hk1_0
    refine g_lookup (q := 36) (off := (35)) C dX9_fliesBy_1 (by decide +kernel) (sw_lo hk1_0 (by decide +kernel)) (by decide) ?_
    refine g_aload_n C rfl dX9_fliesBy_36 rfl ?_
    refine g_bipush C kb_11 dX9_fliesBy_37 rfl ?_
    have hs2 := h.1
    replace h := h.2
    refine g_callVV C tw_1182 tw_1184 tp_51 tw_10 tw_1185 hy_X9_ran (by decide) (by omega) rfl (Nat.le_of_ble_eq_true rfl) rfl rfl (ct_X9_ran V_l1 V_l2 V_m1 V_m2   f (11 : Int32) hs2) dX9_fliesBy_39 rfl rfl (fun f3 hp4 => ?_)
    replace h := h f3 hp4
    refine g_aload_n C rfl dX9_fliesBy_42 rfl ?_
    refine g_aload_n C rfl dX9_fliesBy_43 rfl ?_
    have hs5 := h.1
    replace h := h.2
    refine g_callVD C tw_1174 tw_1176 tp_49 tw_10 tw_1177 hy_X9_own (by decide) (by omega) rfl (Nat.le_of_ble_eq_true rfl) rfl rfl (ct_X9_own V_l1 V_l2 V_m1 V_m2   f3 hs5) dX9_fliesBy_44 rfl rfl ?_
    refine g_iload_n C rfl dX9_fliesBy_47 rfl ?_
    have hs6 := h.1
    replace h := h.2
    refine g_callVI C tw_1178 tw_1180 tp_50 tw_10 tw_1181 hy_X9_swingsBy (by decide) (by omega) rfl (Nat.le_of_ble_eq_true rfl) rfl rfl (ct_X9_swingsBy V_l1 V_l2 V_m1 V_m2   f3 (Val_X9_own f3) a2 hs6) dX9_fliesBy_48 rfl rfl (fun r7 f8 hp9 => ?_)
    replace h := h r7 f8 hp9
    refine g_iconst C ki_2 dX9_fliesBy_51 rfl ?_
    refine g_imul C dX9_fliesBy_52 rfl ?_
    exact g_iret C dX9_fliesBy_53 h
  by_cases hk1_1 : a1 = (2 : Int32)
  · replace h := h.2.1 hk1_1
    refine g_lookup (q := 54) (off := (53)) C dX9_fliesBy_1 (by decide +kernel) (sw_lo hk1_1 (by decide +kernel)) (by decide) ?_
    refine g_aload_n C rfl dX9_fliesBy_54 rfl ?_
    refine g_bipush C kb_30 dX9_fliesBy_55 rfl ?_
    have hs10 := h.1
    replace h := h.2
    refine g_callVV C tw_1182 tw_1184 tp_51 tw_10 tw_1185 hy_X9_ran (by decide) (by omega) rfl (Nat.le_of_ble_eq_true rfl) rfl rfl (ct_X9_ran V_l1 V_l2 V_m1 V_m2   f (30 : Int32) hs10) dX9_fliesBy_57 rfl rfl (fun f11 hp12 => ?_)
    replace h := h f11 hp12
    refine g_aload_n C rfl dX9_fliesBy_60 rfl ?_
    refine g_iconst C ki_2 dX9_fliesBy_61 rfl ?_
    refine g_callSD C tw_1017 tw_1018 tw_10 tw_1019 hy_X9_above (by decide) (by omega) rfl (Nat.le_of_ble_eq_true rfl) (ct_X9_above V_l1 V_l2 V_m1   f11 (2 : Int32) ) dX9_fliesBy_62 rfl rfl ?_
    refine g_iload_n C rfl dX9_fliesBy_65 rfl ?_
    have hs13 := h.1
    replace h := h.2
    have hs14 := h.1
    replace h := h.2
    refine g_callVI C tw_1186 tw_1188 tp_52 tw_10 tw_1189 hy_X9_fliesBy (by decide) hde rfl (Nat.le_of_ble_eq_true rfl) rfl rfl (hr_X9_fliesBy f11 (Val_X9_above f11 (2 : Int32)) a2 hs13 hs14) dX9_fliesBy_66 rfl rfl (fun r15 f16 hp17 => ?_)
    replace h := h r15 f16 hp17
    refine g_istore_n (lv' := [(3, .int r15), (0, .ref (zad Z 0)), (1, .int a1), (2, .int a2)]) C dX9_fliesBy_69 (by decide) rfl rfl ?_
    refine g_iload_n C rfl dX9_fliesBy_70 rfl ?_
    refine g_aload_n C rfl dX9_fliesBy_71 rfl ?_
    refine g_aload_n C rfl dX9_fliesBy_72 rfl ?_
    have hs18 := h.1
    replace h := h.2
    refine g_callVD C tw_1174 tw_1176 tp_49 tw_10 tw_1177 hy_X9_own (by decide) (by omega) rfl (Nat.le_of_ble_eq_true rfl) rfl rfl (ct_X9_own V_l1 V_l2 V_m1 V_m2   f16 hs18) dX9_fliesBy_73 rfl rfl ?_
    refine g_iconst C ki_1 dX9_fliesBy_76 rfl ?_
    have hs19 := h.1
    replace h := h.2
    refine g_callVI C tw_1190 tw_1192 tp_53 tw_10 tw_1193 hy_X9_fallsBy (by decide) (by omega) rfl (Nat.le_of_ble_eq_true rfl) rfl rfl (ct_X9_fallsBy V_l1 V_l2 V_m1 V_m2   f16 (Val_X9_own f16) (1 : Int32) hs19) dX9_fliesBy_77 rfl rfl (fun r20 f21 hp22 => ?_)
    replace h := h r20 f21 hp22
    refine g_isub C dX9_fliesBy_80 rfl ?_
    exact g_iret C dX9_fliesBy_81 h
  by_cases hk1_2 : a1 = (5 : Int32)
  · replace h := h.2.2.1 hk1_2
    refine g_lookup (q := 82) (off := (81)) C dX9_fliesBy_1 (by decide +kernel) (sw_lo hk1_2 (by decide +kernel)) (by decide) ?_
    refine g_aload_n C rfl dX9_fliesBy_82 rfl ?_
    refine g_bipush C kb_60 dX9_fliesBy_83 rfl ?_
    have hs23 := h.1
    replace h := h.2
    refine g_callVV C tw_1182 tw_1184 tp_51 tw_10 tw_1185 hy_X9_ran (by decide) (by omega) rfl (Nat.le_of_ble_eq_true rfl) rfl rfl (ct_X9_ran V_l1 V_l2 V_m1 V_m2   f (60 : Int32) hs23) dX9_fliesBy_85 rfl rfl (fun f24 hp25 => ?_)
    replace h := h f24 hp25
    refine g_aload_n C rfl dX9_fliesBy_88 rfl ?_
    refine g_iconst C ki_5 dX9_fliesBy_89 rfl ?_
    refine g_callSD C tw_1017 tw_1018 tw_10 tw_1019 hy_X9_above (by decide) (by omega) rfl (Nat.le_of_ble_eq_true rfl) (ct_X9_above V_l1 V_l2 V_m1   f24 (5 : Int32) ) dX9_fliesBy_90 rfl rfl ?_
    refine g_iload_n C rfl dX9_fliesBy_93 rfl ?_
    refine g_iconst C ki_1 dX9_fliesBy_94 rfl ?_
    refine g_iadd C dX9_fliesBy_95 rfl ?_
    have hs26 := h.1
    replace h := h.2
    have hs27 := h.1
    replace h := h.2
    refine g_callVI C tw_1186 tw_1188 tp_52 tw_10 tw_1189 hy_X9_fliesBy (by decide) hde rfl (Nat.le_of_ble_eq_true rfl) rfl rfl (hr_X9_fliesBy f24 (Val_X9_above f24 (5 : Int32)) (a2 + (1 : Int32)) hs26 hs27) dX9_fliesBy_96 rfl rfl (fun r28 f29 hp30 => ?_)
    replace h := h r28 f29 hp30
    exact g_iret C dX9_fliesBy_99 h
  replace h := h.2.2.2 ⟨hk1_0, hk1_1, hk1_2⟩
  refine g_lookup (q := 100) (off := (99)) C dX9_fliesBy_1 (by decide +kernel) (sw_ld _ [(0 : Int32), (2 : Int32), (5 : Int32)] (by decide +kernel) (fun k9 hk9 => by simp only [List.mem_cons, List.not_mem_nil, or_false] at hk9; rcases hk9 with rfl | rfl | rfl <;> assumption)) (by decide) ?_
  refine g_aload_n C rfl dX9_fliesBy_100 rfl ?_
  refine g_iload_n C rfl dX9_fliesBy_101 rfl ?_
  refine g_callSD C tw_1017 tw_1018 tw_10 tw_1019 hy_X9_above (by decide) (by omega) rfl (Nat.le_of_ble_eq_true rfl) (ct_X9_above V_l1 V_l2 V_m1   f a1 ) dX9_fliesBy_102 rfl rfl ?_
  refine g_iload_n C rfl dX9_fliesBy_105 rfl ?_
  have hs31 := h.1
  replace h := h.2
  have hs32 := h.1
  replace h := h.2
  refine g_callVI C tw_1186 tw_1188 tp_52 tw_10 tw_1189 hy_X9_fliesBy (by decide) hde rfl (Nat.le_of_ble_eq_true rfl) rfl rfl (hr_X9_fliesBy f (Val_X9_above f a1) a2 hs31 hs32) dX9_fliesBy_106 rfl rfl (fun r33 f34 hp35 => ?_)
  replace h := h r33 f34 hp35
  exact g_iret C dX9_fliesBy_109 h
set_option maxRecDepth 100000 in
theorem ctN_v1 (V_l1 : VC_l1) (V_l2 : VC_l2) (V_m1 : VC_m1) (V_m2 : VC_m2) {l : Launch} {E : Ev} : ∀ N : Nat, (∀ (f : Fn) (a1 : Int32) (a2 : Int32), Pre_X9_fliesBy f a1 a2 → mu_X9_fliesBy f a1 a2 < N → CT l E layM yX9_fliesBy cX9_fliesBy 4 (some .int) (12 + N) [.ref (E.2.1 0), .int a1, .int a2] f (pI (Post_X9_fliesBy f a1 a2))) ∧ True := by
  intro N
  induction N with
  | zero => exact ⟨fun f a1 a2 _ h => absurd h (Nat.not_lt_zero _), trivial⟩
  | succ N ih =>
    obtain ⟨i_X9_fliesBy, -⟩ := ih
    refine ⟨?_, trivial⟩
    · intro f a1 a2 hpre hmu
      refine CT.of (by decide +kernel) (Nat.le_of_ble_eq_true rfl) (fun Z hl9 hE9 hp9 C => ?_)
      subst hl9
      subst hE9
      exact wk_X9_fliesBy V_l1 V_l2 V_m1 V_m2 (m0 := mu_X9_fliesBy f a1 a2) (dd := 12 + (N + 1)) (de := 12 + N) (Nat.le_refl _) (by omega) (fun f9 a19 a29 h1 h2 => i_X9_fliesBy f9 a19 a29 h1 (by omega)) C f a1 a2 (by rw [hp9]; exact (V_m2.2.2.2.2.2.2.2.2.2.1 f a1 a2 hpre).2)
theorem ct_X9_fliesBy (V_l1 : VC_l1) (V_l2 : VC_l2) (V_m1 : VC_m1) (V_m2 : VC_m2) {l : Launch} {E : Ev} (f : Fn) (a1 : Int32) (a2 : Int32) (hpre : Pre_X9_fliesBy f a1 a2) : CT l E layM yX9_fliesBy cX9_fliesBy 4 (some .int) 16 [.ref (E.2.1 0), .int a1, .int a2] f (pI (Post_X9_fliesBy f a1 a2)) := (ctN_v1 V_l1 V_l2 V_m1 V_m2 4).1 f a1 a2 hpre (V_m2.2.2.2.2.2.2.2.2.2.1 f a1 a2 hpre).1
set_option maxHeartbeats 4000000 in
set_option maxRecDepth 100000 in
theorem wk_X9_tellsBy (V_l1 : VC_l1) (V_l2 : VC_l2) (V_m1 : VC_m1) (V_m2 : VC_m2) {Z : Zt} {m0 dd de : Nat} (hde : de + 1 ≤ dd) (hd1 : 20 ≤ dd) (hr_X9_tellsBy : ∀ (f : Fn) (b1 : Int32) (b2 : Int32), Pre_X9_tellsBy f b1 b2 → mu_X9_tellsBy f b1 b2 < m0 → CT (zl Z) (zE Z) layM yX9_tellsBy cX9_tellsBy 4 (some .int) de [.ref (zad Z 0), .int b1, .int b2] f (pI (Post_X9_tellsBy f b1 b2))) (C : CX Z layM RX9 cX9_tellsBy 4 (some .int) dd)     (f : Fn) (a1 : Int32) (a2 : Int32) (h : wp_X9_tellsBy m0  f a1 a2 (zp Z)) : GG Z f [(0, .ref (zad Z 0)), (1, .int a1), (2, .int a2)] 0 [] := by
  refine g_iload_n C rfl dX9_tellsBy_0 rfl ?_
  by_cases hk1_0 : a1 = (0 : Int32)
  · replace h := h.1 hk1_0
    refine g_lookup (q := 36) (off := (35)) C dX9_tellsBy_1 (by decide +kernel) (sw_lo hk1_0 (by decide +kernel)) (by decide) ?_
    refine g_aload_n C rfl dX9_tellsBy_36 rfl ?_
    refine g_bipush C kb_13 dX9_tellsBy_37 rfl ?_
    have hs2 := h.1
    replace h := h.2
    refine g_callVV C tw_1182 tw_1184 tp_51 tw_10 tw_1185 hy_X9_ran (by decide) (by omega) rfl (Nat.le_of_ble_eq_true rfl) rfl rfl (ct_X9_ran V_l1 V_l2 V_m1 V_m2   f (13 : Int32) hs2) dX9_tellsBy_39 rfl rfl (fun f3 hp4 => ?_)
    replace h := h f3 hp4
    refine g_aload_n C rfl dX9_tellsBy_42 rfl ?_
    refine g_aload_n C rfl dX9_tellsBy_43 rfl ?_
    have hs5 := h.1
    replace h := h.2
    refine g_callVD C tw_1174 tw_1176 tp_49 tw_10 tw_1177 hy_X9_own (by decide) (by omega) rfl (Nat.le_of_ble_eq_true rfl) rfl rfl (ct_X9_own V_l1 V_l2 V_m1 V_m2   f3 hs5) dX9_tellsBy_44 rfl rfl ?_
    refine g_iload_n C rfl dX9_tellsBy_47 rfl ?_
    have hs6 := h.1
    replace h := h.2
    refine g_callVI C tw_1186 tw_1188 tp_52 tw_10 tw_1189 hy_X9_fliesBy (by decide) (by omega) rfl (Nat.le_of_ble_eq_true rfl) rfl rfl (ct_X9_fliesBy V_l1 V_l2 V_m1 V_m2   f3 (Val_X9_own f3) a2 hs6) dX9_tellsBy_48 rfl rfl (fun r7 f8 hp9 => ?_)
    replace h := h r7 f8 hp9
    refine g_istore_n (lv' := [(3, .int r7), (0, .ref (zad Z 0)), (1, .int a1), (2, .int a2)]) C dX9_tellsBy_51 (by decide) rfl rfl ?_
    refine g_iload_n C rfl dX9_tellsBy_52 rfl ?_
    refine g_aload_n C rfl dX9_tellsBy_53 rfl ?_
    refine g_aload_n C rfl dX9_tellsBy_54 rfl ?_
    have hs10 := h.1
    replace h := h.2
    refine g_callVD C tw_1174 tw_1176 tp_49 tw_10 tw_1177 hy_X9_own (by decide) (by omega) rfl (Nat.le_of_ble_eq_true rfl) rfl rfl (ct_X9_own V_l1 V_l2 V_m1 V_m2   f8 hs10) dX9_tellsBy_55 rfl rfl ?_
    refine g_iload_n C rfl dX9_tellsBy_58 rfl ?_
    have hs11 := h.1
    replace h := h.2
    refine g_callVI C tw_1190 tw_1192 tp_53 tw_10 tw_1193 hy_X9_fallsBy (by decide) (by omega) rfl (Nat.le_of_ble_eq_true rfl) rfl rfl (ct_X9_fallsBy V_l1 V_l2 V_m1 V_m2   f8 (Val_X9_own f8) a2 hs11) dX9_tellsBy_59 rfl rfl (fun r12 f13 hp14 => ?_)
    replace h := h r12 f13 hp14
    refine g_ixor C dX9_tellsBy_62 rfl ?_
    exact g_iret C dX9_tellsBy_63 h
  by_cases hk1_1 : a1 = (4 : Int32)
  · replace h := h.2.1 hk1_1
    refine g_lookup (q := 64) (off := (63)) C dX9_tellsBy_1 (by decide +kernel) (sw_lo hk1_1 (by decide +kernel)) (by decide) ?_
    refine g_aload_n C rfl dX9_tellsBy_64 rfl ?_
    refine g_bipush C kb_50 dX9_tellsBy_65 rfl ?_
    have hs15 := h.1
    replace h := h.2
    refine g_callVV C tw_1182 tw_1184 tp_51 tw_10 tw_1185 hy_X9_ran (by decide) (by omega) rfl (Nat.le_of_ble_eq_true rfl) rfl rfl (ct_X9_ran V_l1 V_l2 V_m1 V_m2   f (50 : Int32) hs15) dX9_tellsBy_67 rfl rfl (fun f16 hp17 => ?_)
    replace h := h f16 hp17
    refine g_aload_n C rfl dX9_tellsBy_70 rfl ?_
    refine g_iconst C ki_4 dX9_tellsBy_71 rfl ?_
    refine g_callSD C tw_1017 tw_1018 tw_10 tw_1019 hy_X9_above (by decide) (by omega) rfl (Nat.le_of_ble_eq_true rfl) (ct_X9_above V_l1 V_l2 V_m1   f16 (4 : Int32) ) dX9_tellsBy_72 rfl rfl ?_
    refine g_iload_n C rfl dX9_tellsBy_75 rfl ?_
    have hs18 := h.1
    replace h := h.2
    have hs19 := h.1
    replace h := h.2
    refine g_callVI C tw_1194 tw_1196 tp_54 tw_10 tw_1197 hy_X9_tellsBy (by decide) hde rfl (Nat.le_of_ble_eq_true rfl) rfl rfl (hr_X9_tellsBy f16 (Val_X9_above f16 (4 : Int32)) a2 hs18 hs19) dX9_tellsBy_76 rfl rfl (fun r20 f21 hp22 => ?_)
    replace h := h r20 f21 hp22
    refine g_istore_n (lv' := [(3, .int r20), (0, .ref (zad Z 0)), (1, .int a1), (2, .int a2)]) C dX9_tellsBy_79 (by decide) rfl rfl ?_
    refine g_iload_n C rfl dX9_tellsBy_80 rfl ?_
    refine g_aload_n C rfl dX9_tellsBy_81 rfl ?_
    refine g_aload_n C rfl dX9_tellsBy_82 rfl ?_
    have hs23 := h.1
    replace h := h.2
    refine g_callVD C tw_1174 tw_1176 tp_49 tw_10 tw_1177 hy_X9_own (by decide) (by omega) rfl (Nat.le_of_ble_eq_true rfl) rfl rfl (ct_X9_own V_l1 V_l2 V_m1 V_m2   f21 hs23) dX9_tellsBy_83 rfl rfl ?_
    refine g_iconst C ki_2 dX9_tellsBy_86 rfl ?_
    have hs24 := h.1
    replace h := h.2
    refine g_callVI C tw_1178 tw_1180 tp_50 tw_10 tw_1181 hy_X9_swingsBy (by decide) (by omega) rfl (Nat.le_of_ble_eq_true rfl) rfl rfl (ct_X9_swingsBy V_l1 V_l2 V_m1 V_m2   f21 (Val_X9_own f21) (2 : Int32) hs24) dX9_tellsBy_87 rfl rfl (fun r25 f26 hp27 => ?_)
    replace h := h r25 f26 hp27
    refine g_isub C dX9_tellsBy_90 rfl ?_
    exact g_iret C dX9_tellsBy_91 h
  by_cases hk1_2 : a1 = (6 : Int32)
  · replace h := h.2.2.1 hk1_2
    refine g_lookup (q := 92) (off := (91)) C dX9_tellsBy_1 (by decide +kernel) (sw_lo hk1_2 (by decide +kernel)) (by decide) ?_
    refine g_aload_n C rfl dX9_tellsBy_92 rfl ?_
    refine g_bipush C kb_71 dX9_tellsBy_93 rfl ?_
    have hs28 := h.1
    replace h := h.2
    refine g_callVV C tw_1182 tw_1184 tp_51 tw_10 tw_1185 hy_X9_ran (by decide) (by omega) rfl (Nat.le_of_ble_eq_true rfl) rfl rfl (ct_X9_ran V_l1 V_l2 V_m1 V_m2   f (71 : Int32) hs28) dX9_tellsBy_95 rfl rfl (fun f29 hp30 => ?_)
    replace h := h f29 hp30
    refine g_aload_n C rfl dX9_tellsBy_98 rfl ?_
    refine g_aload_n C rfl dX9_tellsBy_99 rfl ?_
    have hs31 := h.1
    replace h := h.2
    refine g_callVD C tw_1174 tw_1176 tp_49 tw_10 tw_1177 hy_X9_own (by decide) (by omega) rfl (Nat.le_of_ble_eq_true rfl) rfl rfl (ct_X9_own V_l1 V_l2 V_m1 V_m2   f29 hs31) dX9_tellsBy_100 rfl rfl ?_
    refine g_iload_n C rfl dX9_tellsBy_103 rfl ?_
    have hs32 := h.1
    replace h := h.2
    refine g_callVI C tw_1186 tw_1188 tp_52 tw_10 tw_1189 hy_X9_fliesBy (by decide) (by omega) rfl (Nat.le_of_ble_eq_true rfl) rfl rfl (ct_X9_fliesBy V_l1 V_l2 V_m1 V_m2   f29 (Val_X9_own f29) a2 hs32) dX9_tellsBy_104 rfl rfl (fun r33 f34 hp35 => ?_)
    replace h := h r33 f34 hp35
    refine g_istore_n (lv' := [(3, .int r33), (0, .ref (zad Z 0)), (1, .int a1), (2, .int a2)]) C dX9_tellsBy_107 (by decide) rfl rfl ?_
    refine g_iload_n C rfl dX9_tellsBy_108 rfl ?_
    refine g_aload_n C rfl dX9_tellsBy_109 rfl ?_
    refine g_bipush C kb_6 dX9_tellsBy_110 rfl ?_
    refine g_callSD C tw_1017 tw_1018 tw_10 tw_1019 hy_X9_above (by decide) (by omega) rfl (Nat.le_of_ble_eq_true rfl) (ct_X9_above V_l1 V_l2 V_m1   f34 (6 : Int32) ) dX9_tellsBy_112 rfl rfl ?_
    refine g_iload_n C rfl dX9_tellsBy_115 rfl ?_
    have hs36 := h.1
    replace h := h.2
    have hs37 := h.1
    replace h := h.2
    refine g_callVI C tw_1194 tw_1196 tp_54 tw_10 tw_1197 hy_X9_tellsBy (by decide) hde rfl (Nat.le_of_ble_eq_true rfl) rfl rfl (hr_X9_tellsBy f34 (Val_X9_above f34 (6 : Int32)) a2 hs36 hs37) dX9_tellsBy_116 rfl rfl (fun r38 f39 hp40 => ?_)
    replace h := h r38 f39 hp40
    refine g_isub C dX9_tellsBy_119 rfl ?_
    exact g_iret C dX9_tellsBy_120 h
  replace h := h.2.2.2 ⟨hk1_0, hk1_1, hk1_2⟩
  refine g_lookup (q := 121) (off := (120)) C dX9_tellsBy_1 (by decide +kernel) (sw_ld _ [(0 : Int32), (4 : Int32), (6 : Int32)] (by decide +kernel) (fun k9 hk9 => by simp only [List.mem_cons, List.not_mem_nil, or_false] at hk9; rcases hk9 with rfl | rfl | rfl <;> assumption)) (by decide) ?_
  refine g_aload_n C rfl dX9_tellsBy_121 rfl ?_
  refine g_iload_n C rfl dX9_tellsBy_122 rfl ?_
  refine g_callSD C tw_1017 tw_1018 tw_10 tw_1019 hy_X9_above (by decide) (by omega) rfl (Nat.le_of_ble_eq_true rfl) (ct_X9_above V_l1 V_l2 V_m1   f a1 ) dX9_tellsBy_123 rfl rfl ?_
  refine g_iload_n C rfl dX9_tellsBy_126 rfl ?_
  have hs41 := h.1
  replace h := h.2
  have hs42 := h.1
  replace h := h.2
  refine g_callVI C tw_1194 tw_1196 tp_54 tw_10 tw_1197 hy_X9_tellsBy (by decide) hde rfl (Nat.le_of_ble_eq_true rfl) rfl rfl (hr_X9_tellsBy f (Val_X9_above f a1) a2 hs41 hs42) dX9_tellsBy_127 rfl rfl (fun r43 f44 hp45 => ?_)
  replace h := h r43 f44 hp45
  exact g_iret C dX9_tellsBy_130 h
set_option maxRecDepth 100000 in
theorem ctN_v3 (V_l1 : VC_l1) (V_l2 : VC_l2) (V_m1 : VC_m1) (V_m2 : VC_m2) {l : Launch} {E : Ev} : ∀ N : Nat, (∀ (f : Fn) (a1 : Int32) (a2 : Int32), Pre_X9_tellsBy f a1 a2 → mu_X9_tellsBy f a1 a2 < N → CT l E layM yX9_tellsBy cX9_tellsBy 4 (some .int) (20 + N) [.ref (E.2.1 0), .int a1, .int a2] f (pI (Post_X9_tellsBy f a1 a2))) ∧ True := by
  intro N
  induction N with
  | zero => exact ⟨fun f a1 a2 _ h => absurd h (Nat.not_lt_zero _), trivial⟩
  | succ N ih =>
    obtain ⟨i_X9_tellsBy, -⟩ := ih
    refine ⟨?_, trivial⟩
    · intro f a1 a2 hpre hmu
      refine CT.of (by decide +kernel) (Nat.le_of_ble_eq_true rfl) (fun Z hl9 hE9 hp9 C => ?_)
      subst hl9
      subst hE9
      exact wk_X9_tellsBy V_l1 V_l2 V_m1 V_m2 (m0 := mu_X9_tellsBy f a1 a2) (dd := 20 + (N + 1)) (de := 20 + N) (Nat.le_refl _) (by omega) (fun f9 a19 a29 h1 h2 => i_X9_tellsBy f9 a19 a29 h1 (by omega)) C f a1 a2 (by rw [hp9]; exact (V_m2.2.2.2.2.2.2.2.2.2.2.1 f a1 a2 hpre).2)
theorem ct_X9_tellsBy (V_l1 : VC_l1) (V_l2 : VC_l2) (V_m1 : VC_m1) (V_m2 : VC_m2) {l : Launch} {E : Ev} (f : Fn) (a1 : Int32) (a2 : Int32) (hpre : Pre_X9_tellsBy f a1 a2) : CT l E layM yX9_tellsBy cX9_tellsBy 4 (some .int) 24 [.ref (E.2.1 0), .int a1, .int a2] f (pI (Post_X9_tellsBy f a1 a2)) := (ctN_v3 V_l1 V_l2 V_m1 V_m2 4).1 f a1 a2 hpre (V_m2.2.2.2.2.2.2.2.2.2.2.1 f a1 a2 hpre).1
set_option maxHeartbeats 4000000 in
set_option maxRecDepth 100000 in
theorem wk_X9_voice_L20 (V_l1 : VC_l1) (V_l2 : VC_l2) (V_m1 : VC_m1) (V_m2 : VC_m2) {Z : Zt}  (C : CX Z layM RX9 cX9_voice 5 (some .int) 25)     (f : Fn)  (h : wp_X9_voice_L20   f  (zp Z)) : GG Z f [(0, .ref (zad Z 0))] 20 [] := by
  refine g_aload_n C rfl dX9_voice_20 rfl ?_
  refine g_iconst C ki_1 dX9_voice_21 rfl ?_
  have hs2 := h.1
  replace h := h.2
  refine g_callVI C tw_881 tw_883 tp_15 tw_10 tw_884 hy_X9_finds (by decide) (by decide) rfl (Nat.le_of_ble_eq_true rfl) rfl rfl (ct_X9_finds V_l1 V_l2 V_m1   f (1 : Int32) hs2) dX9_voice_22 rfl rfl (fun r3 f4 hp5 => ?_)
  replace h := h r3 f4 hp5
  exact g_iret C dX9_voice_25 h
set_option maxHeartbeats 4000000 in
set_option maxRecDepth 100000 in
theorem wk_X9_voice (V_l1 : VC_l1) (V_l2 : VC_l2) (V_m1 : VC_m1) (V_m2 : VC_m2) {Z : Zt}  (C : CX Z layM RX9 cX9_voice 5 (some .int) 25)     (f : Fn) (a1 : Int32) (a2 : Int32) (a3 : Int32) (h : wp_X9_voice  f a1 a2 a3 (zp Z)) : GG Z f [(0, .ref (zad Z 0)), (1, .int a1), (2, .int a2), (3, .int a3)] 0 [] := by
  refine g_aload_n C rfl dX9_voice_0 rfl ?_
  refine g_iload_n C rfl dX9_voice_1 rfl ?_
  refine g_callVD C tw_988 tw_990 tp_29 tw_10 tw_991 hy_X9_isFlyer (by decide) (by decide) rfl (Nat.le_of_ble_eq_true rfl) rfl rfl (ct_X9_isFlyer V_l1 V_l2 V_m1   f a1 ) dX9_voice_2 rfl rfl ?_
  refine g_if_eq (tgt := 20) C dX9_voice_5 (by decide) rfl (fun hc1 => ?_) (fun hc1 => ?_)
  · replace h := h.1 hc1
    refine g_lps [0] rfl ?_
    exact wk_X9_voice_L20 V_l1 V_l2 V_m1 V_m2  C    _  h
  · replace h := h.2 hc1
    refine g_iload_n C rfl dX9_voice_8 rfl ?_
    refine g_i2l C dX9_voice_9 rfl ?_
    refine g_lconst C kl_0 dX9_voice_10 rfl ?_
    refine g_ldc2 C tw_1024 dX9_voice_11 rfl ?_
    refine g_callSD C tw_878 tw_879 tw_10 tw_880 hy_X9_in (by decide) (by decide) rfl (Nat.le_of_ble_eq_true rfl) (ct_X9_in V_l1 V_l2 V_m1   f a2.toInt64 (0 : Int64) (3 : Int64) ) dX9_voice_14 rfl rfl ?_
    refine g_if_ne (tgt := 26) C dX9_voice_17 (by decide) rfl (fun hc6 => ?_) (fun hc6 => ?_)
    · replace h := h.1 hc6
      refine g_aload_n C rfl dX9_voice_26 rfl ?_
      refine g_iconst C ki_0 dX9_voice_27 rfl ?_
      refine fp_X9_268 (k := 0) C rfl rfl (Nat.le_of_ble_eq_true rfl) dX9_voice_28 rfl ?_
      refine g_aload_n C rfl dX9_voice_31 rfl ?_
      refine g_iload_n C rfl dX9_voice_32 rfl ?_
      refine fp_X9_271 (k := 0) C rfl rfl (Nat.le_of_ble_eq_true rfl) dX9_voice_33 rfl ?_
      refine g_aload_n C rfl dX9_voice_36 rfl ?_
      have hs7 := h.1
      replace h := h.2
      refine g_callVD C tw_1174 tw_1176 tp_49 tw_10 tw_1177 hy_X9_own (by decide) (by decide) rfl (Nat.le_of_ble_eq_true rfl) rfl rfl (ct_X9_own V_l1 V_l2 V_m1 V_m2   (up2 (up2 f 0 20 (0 : Int32)) 0 21 a1) hs7) dX9_voice_37 rfl rfl ?_
      refine g_istore (lv' := [(4, .int (Val_X9_own (up2 (up2 f 0 20 (0 : Int32)) 0 21 a1))), (0, .ref (zad Z 0)), (1, .int a1), (2, .int a2), (3, .int a3)]) C dX9_voice_40 (by decide) rfl rfl ?_
      refine g_iload_n C rfl dX9_voice_42 rfl ?_
      refine g_if_ne (tgt := 56) C dX9_voice_43 (by decide) rfl (fun hc8 => ?_) (fun hc8 => ?_)
      · replace h := h.1 hc8
        refine g_iload_n C rfl dX9_voice_56 rfl ?_
        refine g_iconst C ki_1 dX9_voice_57 rfl ?_
        refine g_icmp_ne (tgt := 71) C dX9_voice_58 (by decide) rfl (fun hc9 => ?_) (fun hc9 => ?_)
        · replace h := h.1 hc9
          refine g_iload_n C rfl dX9_voice_71 rfl ?_
          refine g_iconst C ki_2 dX9_voice_72 rfl ?_
          refine g_icmp_ne (tgt := 86) C dX9_voice_73 (by decide) rfl (fun hc10 => ?_) (fun hc10 => ?_)
          · replace h := h.1 hc10
            refine g_aload_n C rfl dX9_voice_86 rfl ?_
            refine g_iload C rfl dX9_voice_87 rfl ?_
            refine g_iload_n C rfl dX9_voice_89 rfl ?_
            have hs11 := h.1
            replace h := h.2
            refine g_callVI C tw_1194 tw_1196 tp_54 tw_10 tw_1197 hy_X9_tellsBy (by decide) (by decide) rfl (Nat.le_of_ble_eq_true rfl) rfl rfl (ct_X9_tellsBy V_l1 V_l2 V_m1 V_m2   (up2 (up2 f 0 20 (0 : Int32)) 0 21 a1) (Val_X9_own (up2 (up2 f 0 20 (0 : Int32)) 0 21 a1)) a3 hs11) dX9_voice_90 rfl rfl (fun r12 f13 hp14 => ?_)
            replace h := h r12 f13 hp14
            exact g_iret C dX9_voice_93 h
          · replace h := h.2 hc10
            refine g_aload_n C rfl dX9_voice_76 rfl ?_
            refine g_iload C rfl dX9_voice_77 rfl ?_
            refine g_iload_n C rfl dX9_voice_79 rfl ?_
            have hs15 := h.1
            replace h := h.2
            refine g_callVI C tw_1190 tw_1192 tp_53 tw_10 tw_1193 hy_X9_fallsBy (by decide) (by decide) rfl (Nat.le_of_ble_eq_true rfl) rfl rfl (ct_X9_fallsBy V_l1 V_l2 V_m1 V_m2   (up2 (up2 f 0 20 (0 : Int32)) 0 21 a1) (Val_X9_own (up2 (up2 f 0 20 (0 : Int32)) 0 21 a1)) a3 hs15) dX9_voice_80 rfl rfl (fun r16 f17 hp18 => ?_)
            replace h := h r16 f17 hp18
            refine g_goto (q := 93) C dX9_voice_83 (by decide) ?_
            exact g_iret C dX9_voice_93 h
        · replace h := h.2 hc9
          refine g_aload_n C rfl dX9_voice_61 rfl ?_
          refine g_iload C rfl dX9_voice_62 rfl ?_
          refine g_iload_n C rfl dX9_voice_64 rfl ?_
          have hs19 := h.1
          replace h := h.2
          refine g_callVI C tw_1186 tw_1188 tp_52 tw_10 tw_1189 hy_X9_fliesBy (by decide) (by decide) rfl (Nat.le_of_ble_eq_true rfl) rfl rfl (ct_X9_fliesBy V_l1 V_l2 V_m1 V_m2   (up2 (up2 f 0 20 (0 : Int32)) 0 21 a1) (Val_X9_own (up2 (up2 f 0 20 (0 : Int32)) 0 21 a1)) a3 hs19) dX9_voice_65 rfl rfl (fun r20 f21 hp22 => ?_)
          replace h := h r20 f21 hp22
          refine g_goto (q := 93) C dX9_voice_68 (by decide) ?_
          exact g_iret C dX9_voice_93 h
      · replace h := h.2 hc8
        refine g_aload_n C rfl dX9_voice_46 rfl ?_
        refine g_iload C rfl dX9_voice_47 rfl ?_
        refine g_iload_n C rfl dX9_voice_49 rfl ?_
        have hs23 := h.1
        replace h := h.2
        refine g_callVI C tw_1178 tw_1180 tp_50 tw_10 tw_1181 hy_X9_swingsBy (by decide) (by decide) rfl (Nat.le_of_ble_eq_true rfl) rfl rfl (ct_X9_swingsBy V_l1 V_l2 V_m1 V_m2   (up2 (up2 f 0 20 (0 : Int32)) 0 21 a1) (Val_X9_own (up2 (up2 f 0 20 (0 : Int32)) 0 21 a1)) a3 hs23) dX9_voice_50 rfl rfl (fun r24 f25 hp26 => ?_)
        replace h := h r24 f25 hp26
        refine g_goto (q := 93) C dX9_voice_53 (by decide) ?_
        exact g_iret C dX9_voice_93 h
    · replace h := h.2 hc6
      refine g_lps [0] rfl ?_
      exact wk_X9_voice_L20 V_l1 V_l2 V_m1 V_m2  C    _  h
set_option maxRecDepth 100000 in
theorem ct_X9_voice (V_l1 : VC_l1) (V_l2 : VC_l2) (V_m1 : VC_m1) (V_m2 : VC_m2) {l : Launch} {E : Ev}   (f : Fn) (a1 : Int32) (a2 : Int32) (a3 : Int32) (hpre : Pre_X9_voice f a1 a2 a3) : CT l E layM yX9_voice cX9_voice 5 (some .int) 25 [.ref (E.2.1 0), .int a1, .int a2, .int a3] f (pI (Post_X9_voice f a1 a2 a3)) := by
  refine CT.of (by decide +kernel) (Nat.le_of_ble_eq_true rfl) (fun Z hl9 hE9 hp9 C => ?_)
  subst hl9
  subst hE9
  exact wk_X9_voice V_l1 V_l2 V_m1 V_m2 C   f a1 a2 a3 (by rw [hp9]; exact V_m2.2.2.2.2.2.2.2.2.2.2.2.1  f a1 a2 a3  hpre)
set_option maxHeartbeats 4000000 in
set_option maxRecDepth 100000 in
theorem wk_X9_trace (V_l1 : VC_l1) (V_l2 : VC_l2) (V_m1 : VC_m1) (V_m2 : VC_m2) {Z : Zt}  (C : CX Z layM RX9 cX9_trace 2 (some .int) 1)     (f : Fn) (a1 : Int32) (h : wp_X9_trace  f a1 (zp Z)) : GG Z f [(0, .ref (zad Z 0)), (1, .int a1)] 0 [] := by
  refine g_iload_n C rfl dX9_trace_0 rfl ?_
  refine g_i2l C dX9_trace_1 rfl ?_
  refine g_lconst C kl_0 dX9_trace_2 rfl ?_
  refine g_aload_n C rfl dX9_trace_3 rfl ?_
  refine fg_X9_268I (k := 0) (x := (f 0 20)) C rfl rfl rfl dX9_trace_4 rfl ?_
  refine g_iconst C ki_1 dX9_trace_7 rfl ?_
  refine g_isub C dX9_trace_8 rfl ?_
  refine g_i2l C dX9_trace_9 rfl ?_
  refine g_callSD C tw_878 tw_879 tw_10 tw_880 hy_X9_in (by decide) (by decide) rfl (Nat.le_of_ble_eq_true rfl) (ct_X9_in V_l1 V_l2 V_m1   f a1.toInt64 (0 : Int64) ((f 0 20) - (1 : Int32)).toInt64 ) dX9_trace_10 rfl rfl ?_
  refine g_if_eq (tgt := 25) C dX9_trace_13 (by decide) rfl (fun hc1 => ?_) (fun hc1 => ?_)
  · replace h := h.1 hc1
    refine g_aload_n C rfl dX9_trace_25 rfl ?_
    refine g_iconst C ki_2 dX9_trace_26 rfl ?_
    have hs2 := h.1
    replace h := h.2
    refine g_callVI C tw_881 tw_883 tp_15 tw_10 tw_884 hy_X9_finds (by decide) (by decide) rfl (Nat.le_of_ble_eq_true rfl) rfl rfl (ct_X9_finds V_l1 V_l2 V_m1   f (2 : Int32) hs2) dX9_trace_27 rfl rfl (fun r3 f4 hp5 => ?_)
    replace h := h r3 f4 hp5
    exact g_iret C dX9_trace_30 h
  · replace h := h.2 hc1
    refine g_aload_n C rfl dX9_trace_16 rfl ?_
    refine fg_X9_29R (k := 0) (p := 6) C rfl rfl dX9_trace_17 rfl ?_
    refine g_iload_n C rfl dX9_trace_20 rfl ?_
    have hs6 := h.1
    replace h := h.2
    refine g_ialdx (k := 6) (j := a1.toNatClampNeg) (x := (f 6 a1.toNatClampNeg)) C rfl hs6 rfl rfl dX9_trace_21 rfl ?_
    refine g_goto (q := 30) C dX9_trace_22 (by decide) ?_
    exact g_iret C dX9_trace_30 h
set_option maxRecDepth 100000 in
theorem ct_X9_trace (V_l1 : VC_l1) (V_l2 : VC_l2) (V_m1 : VC_m1) (V_m2 : VC_m2) {l : Launch} {E : Ev}   (f : Fn) (a1 : Int32) (hpre : Pre_X9_trace f a1) : CT l E layM yX9_trace cX9_trace 2 (some .int) 1 [.ref (E.2.1 0), .int a1] f (pI (Post_X9_trace f a1)) := by
  refine CT.of (by decide +kernel) (Nat.le_of_ble_eq_true rfl) (fun Z hl9 hE9 hp9 C => ?_)
  subst hl9
  subst hE9
  exact wk_X9_trace V_l1 V_l2 V_m1 V_m2 C   f a1 (by rw [hp9]; exact V_m2.2.2.2.2.2.2.2.2.2.2.2.2.1  f a1  hpre)
set_option maxHeartbeats 4000000 in
set_option maxRecDepth 100000 in
theorem wk_X9_sheet_L29 (V_l1 : VC_l1) (V_l2 : VC_l2) (V_m1 : VC_m1) (V_m2 : VC_m2) {Z : Zt}  (C : CX Z layM RX9 cX9_sheet 5 (some .int) 2)     (f : Fn)  (h : wp_X9_sheet_L29   f  (zp Z)) : GG Z f [(0, .ref (zad Z 0))] 29 [] := by
  refine g_aload_n C rfl dX9_sheet_29 rfl ?_
  refine g_iconst C ki_1 dX9_sheet_30 rfl ?_
  have hs2 := h.1
  replace h := h.2
  refine g_callVI C tw_881 tw_883 tp_15 tw_10 tw_884 hy_X9_finds (by decide) (by decide) rfl (Nat.le_of_ble_eq_true rfl) rfl rfl (ct_X9_finds V_l1 V_l2 V_m1   f (1 : Int32) hs2) dX9_sheet_31 rfl rfl (fun r3 f4 hp5 => ?_)
  replace h := h r3 f4 hp5
  exact g_iret C dX9_sheet_34 h
set_option maxHeartbeats 4000000 in
set_option maxRecDepth 100000 in
theorem wkb_X9_sheet_L90 (V_l1 : VC_l1) (V_l2 : VC_l2) (V_m1 : VC_m1) (V_m2 : VC_m2) {Z : Zt}  (C : CX Z layM RX9 cX9_sheet 5 (some .int) 2)   {K90 : Fn → Int32 → Int32 → Prop} (hK90 : ∀ (f : Fn) (x1 : Int32) (x4 : Int32), K90 f x1 x4 → GG Z f [(0, .ref (zad Z 0)), (1, .int x1), (4, .int x4)] 90 []) (f : Fn) (x1 : Int32) (x4 : Int32) (h : wpb_X9_sheet_L90   K90 f x1 x4 (zp Z)) : GG Z f [(0, .ref (zad Z 0)), (1, .int x1), (4, .int x4)] 90 [] := by
  refine g_iload C rfl dX9_sheet_90 rfl ?_
  refine g_bipush C kb_40 dX9_sheet_92 rfl ?_
  refine g_icmp_ge (tgt := 116) C dX9_sheet_94 (by decide) rfl (fun hc12 => ?_) (fun hc12 => ?_)
  · replace h := h.1 hc12
    refine g_iconst C ki_1 dX9_sheet_116 rfl ?_
    exact g_iret C dX9_sheet_117 h
  · replace h := h.2 hc12
    refine g_aload_n C rfl dX9_sheet_97 rfl ?_
    refine fg_X9_38R (k := 0) (p := 9) C rfl rfl dX9_sheet_98 rfl ?_
    refine g_bipush C kb_40 dX9_sheet_101 rfl ?_
    refine g_iload_n C rfl dX9_sheet_103 rfl ?_
    refine g_imul C dX9_sheet_104 rfl ?_
    refine g_iload C rfl dX9_sheet_105 rfl ?_
    refine g_iadd C dX9_sheet_107 rfl ?_
    refine g_iconst C ki_0 dX9_sheet_108 rfl ?_
    have hs13 := h.1
    replace h := h.2
    refine g_iastx (k := 9) (j := (((40 : Int32) * x1) + x4).toNatClampNeg) C rfl hs13 rfl dX9_sheet_109 rfl ?_
    refine g_iinc (lv' := [(4, .int (x4 + (1 : Int32))), (0, .ref (zad Z 0)), (1, .int x1)]) C dX9_sheet_110 rfl (inc_1 _) (by decide) rfl rfl ?_
    refine g_goto (q := 90) C dX9_sheet_113 (by decide) ?_
    refine g_lps [0, 1, 4] rfl ?_
    exact hK90 _ _ _ h
set_option maxHeartbeats 4000000 in
set_option maxRecDepth 100000 in
theorem wk_X9_sheet_L90 (V_l1 : VC_l1) (V_l2 : VC_l2) (V_m1 : VC_m1) (V_m2 : VC_m2) {Z : Zt}  (C : CX Z layM RX9 cX9_sheet 5 (some .int) 2)     (f : Fn) (x1 : Int32) (x4 : Int32) (h : wp_X9_sheet_L90   f x1 x4 (zp Z)) : GG Z f [(0, .ref (zad Z 0)), (1, .int x1), (4, .int x4)] 90 [] := by
  obtain ⟨I, μ, h0, hs⟩ := h
  suffices H : ∀ (N : Nat) (f : Fn) (x1 : Int32) (x4 : Int32), μ f x1 x4 < N → I f x1 x4 → GG Z f [(0, .ref (zad Z 0)), (1, .int x1), (4, .int x4)] 90 [] from H _ f x1 x4 (Nat.lt_succ_self _) h0
  clear h0
  intro N
  induction N with
  | zero => intro f x1 x4 hm; exact absurd hm (Nat.not_lt_zero _)
  | succ N ih =>
    intro f x1 x4 hm hi
    exact wkb_X9_sheet_L90 V_l1 V_l2 V_m1 V_m2  C    (fun f9 x19 x49 hk => ih f9 x19 x49 (Nat.lt_of_lt_of_le hk.2 (Nat.le_of_lt_succ hm)) hk.1) f x1 x4 (hs f x1 x4 hi)
set_option maxHeartbeats 4000000 in
set_option maxRecDepth 100000 in
theorem wk_X9_sheet_L86 (V_l1 : VC_l1) (V_l2 : VC_l2) (V_m1 : VC_m1) (V_m2 : VC_m2) {Z : Zt}  (C : CX Z layM RX9 cX9_sheet 5 (some .int) 2)     (f : Fn) (x1 : Int32) (s0 : Int32) (s1 : Int32) (h : wp_X9_sheet_L86   f x1 s0 s1 (zp Z)) : GG Z f [(0, .ref (zad Z 0)), (1, .int x1)] 86 [.int s0, .int s1, .ref (zad Z 8)] := by
  have hs11 := h.1
  replace h := h.2
  refine g_iastx (k := 8) (j := s1.toNatClampNeg) C rfl hs11 rfl dX9_sheet_86 rfl ?_
  refine g_iconst C ki_0 dX9_sheet_87 rfl ?_
  refine g_istore (lv' := [(4, .int (0 : Int32)), (0, .ref (zad Z 0)), (1, .int x1)]) C dX9_sheet_88 (by decide) rfl rfl ?_
  refine g_lps [0, 1, 4] rfl ?_
  exact wk_X9_sheet_L90 V_l1 V_l2 V_m1 V_m2  C    _ _ _ h
set_option maxHeartbeats 4000000 in
set_option maxRecDepth 100000 in
theorem wk_X9_sheet_L65 (V_l1 : VC_l1) (V_l2 : VC_l2) (V_m1 : VC_m1) (V_m2 : VC_m2) {Z : Zt}  (C : CX Z layM RX9 cX9_sheet 5 (some .int) 2)     (f : Fn) (x1 : Int32) (x2 : Int32) (x3 : Int32) (h : wp_X9_sheet_L65   f x1 x2 x3 (zp Z)) : GG Z f [(0, .ref (zad Z 0)), (1, .int x1), (2, .int x2), (3, .int x3)] 65 [] := by
  refine g_aload_n C rfl dX9_sheet_65 rfl ?_
  refine fg_X9_32R (k := 0) (p := 7) C rfl rfl dX9_sheet_66 rfl ?_
  refine g_iload_n C rfl dX9_sheet_69 rfl ?_
  refine g_iload_n C rfl dX9_sheet_70 rfl ?_
  have hs9 := h.1
  replace h := h.2
  refine g_iastx (k := 7) (j := x1.toNatClampNeg) C rfl hs9 rfl dX9_sheet_71 rfl ?_
  refine g_aload_n C rfl dX9_sheet_72 rfl ?_
  refine fg_X9_35R (k := 0) (p := 8) C rfl rfl dX9_sheet_73 rfl ?_
  refine g_iload_n C rfl dX9_sheet_76 rfl ?_
  refine g_iload_n C rfl dX9_sheet_77 rfl ?_
  refine g_if_ne (tgt := 85) C dX9_sheet_78 (by decide) rfl (fun hc10 => ?_) (fun hc10 => ?_)
  · replace h := h.1 hc10
    refine g_iload_n C rfl dX9_sheet_85 rfl ?_
    refine g_lps [0, 1] rfl ?_
    exact wk_X9_sheet_L86 V_l1 V_l2 V_m1 V_m2  C    _ _ _ _ h
  · replace h := h.2 hc10
    refine g_iconst C ki_0 dX9_sheet_81 rfl ?_
    refine g_goto (q := 86) C dX9_sheet_82 (by decide) ?_
    refine g_lps [0, 1] rfl ?_
    exact wk_X9_sheet_L86 V_l1 V_l2 V_m1 V_m2  C    _ _ _ _ h
set_option maxHeartbeats 4000000 in
set_option maxRecDepth 100000 in
theorem wk_X9_sheet_L49 (V_l1 : VC_l1) (V_l2 : VC_l2) (V_m1 : VC_m1) (V_m2 : VC_m2) {Z : Zt}  (C : CX Z layM RX9 cX9_sheet 5 (some .int) 2)     (f : Fn) (x1 : Int32) (x2 : Int32) (x3 : Int32) (h : wp_X9_sheet_L49   f x1 x2 x3 (zp Z)) : GG Z f [(0, .ref (zad Z 0)), (1, .int x1), (2, .int x2), (3, .int x3)] 49 [] := by
  refine g_iload_n C rfl dX9_sheet_49 rfl ?_
  refine g_if_eq (tgt := 65) C dX9_sheet_50 (by decide) rfl (fun hc8 => ?_) (fun hc8 => ?_)
  · replace h := h.1 hc8
    exact wk_X9_sheet_L65 V_l1 V_l2 V_m1 V_m2  C    _ _ _ _ h
  · replace h := h.2 hc8
    refine g_iload_n C rfl dX9_sheet_53 rfl ?_
    refine g_bipush C kb_40 dX9_sheet_54 rfl ?_
    refine g_icmp_le (tgt := 65) C dX9_sheet_56 (by decide) rfl (fun hc14 => ?_) (fun hc14 => ?_)
    · replace h := h.1 hc14
      exact wk_X9_sheet_L65 V_l1 V_l2 V_m1 V_m2  C    _ _ _ _ h
    · replace h := h.2 hc14
      refine g_aload_n C rfl dX9_sheet_59 rfl ?_
      refine g_iconst C ki_1 dX9_sheet_60 rfl ?_
      have hs15 := h.1
      replace h := h.2
      refine g_callVI C tw_881 tw_883 tp_15 tw_10 tw_884 hy_X9_finds (by decide) (by decide) rfl (Nat.le_of_ble_eq_true rfl) rfl rfl (ct_X9_finds V_l1 V_l2 V_m1   f (1 : Int32) hs15) dX9_sheet_61 rfl rfl (fun r16 f17 hp18 => ?_)
      replace h := h r16 f17 hp18
      exact g_iret C dX9_sheet_64 h
set_option maxHeartbeats 4000000 in
set_option maxRecDepth 100000 in
theorem wk_X9_sheet_L35 (V_l1 : VC_l1) (V_l2 : VC_l2) (V_m1 : VC_m1) (V_m2 : VC_m2) {Z : Zt}  (C : CX Z layM RX9 cX9_sheet 5 (some .int) 2)     (f : Fn) (x1 : Int32) (x2 : Int32) (x3 : Int32) (h : wp_X9_sheet_L35   f x1 x2 x3 (zp Z)) : GG Z f [(0, .ref (zad Z 0)), (1, .int x1), (2, .int x2), (3, .int x3)] 35 [] := by
  refine g_iload_n C rfl dX9_sheet_35 rfl ?_
  refine g_if_eq (tgt := 49) C dX9_sheet_36 (by decide) rfl (fun hc7 => ?_) (fun hc7 => ?_)
  · replace h := h.1 hc7
    exact wk_X9_sheet_L49 V_l1 V_l2 V_m1 V_m2  C    _ _ _ _ h
  · replace h := h.2 hc7
    refine g_iload_n C rfl dX9_sheet_39 rfl ?_
    refine g_if_ge (tgt := 49) C dX9_sheet_40 (by decide) rfl (fun hc19 => ?_) (fun hc19 => ?_)
    · replace h := h.1 hc19
      exact wk_X9_sheet_L49 V_l1 V_l2 V_m1 V_m2  C    _ _ _ _ h
    · replace h := h.2 hc19
      refine g_aload_n C rfl dX9_sheet_43 rfl ?_
      refine g_iconst C ki_3 dX9_sheet_44 rfl ?_
      have hs20 := h.1
      replace h := h.2
      refine g_callVI C tw_881 tw_883 tp_15 tw_10 tw_884 hy_X9_finds (by decide) (by decide) rfl (Nat.le_of_ble_eq_true rfl) rfl rfl (ct_X9_finds V_l1 V_l2 V_m1   f (3 : Int32) hs20) dX9_sheet_45 rfl rfl (fun r21 f22 hp23 => ?_)
      replace h := h r21 f22 hp23
      exact g_iret C dX9_sheet_48 h
set_option maxHeartbeats 4000000 in
set_option maxRecDepth 100000 in
theorem wk_X9_sheet (V_l1 : VC_l1) (V_l2 : VC_l2) (V_m1 : VC_m1) (V_m2 : VC_m2) {Z : Zt}  (C : CX Z layM RX9 cX9_sheet 5 (some .int) 2)     (f : Fn) (a1 : Int32) (a2 : Int32) (a3 : Int32) (h : wp_X9_sheet  f a1 a2 a3 (zp Z)) : GG Z f [(0, .ref (zad Z 0)), (1, .int a1), (2, .int a2), (3, .int a3)] 0 [] := by
  refine g_iload_n C rfl dX9_sheet_0 rfl ?_
  refine g_callSD C tw_1155 tw_1156 tw_10 tw_1157 hy_X9_isSheet (by decide) (by decide) rfl (Nat.le_of_ble_eq_true rfl) (ct_X9_isSheet V_l1 V_l2 V_m1 V_m2   f a1 ) dX9_sheet_1 rfl rfl ?_
  refine g_if_eq (tgt := 29) C dX9_sheet_4 (by decide) rfl (fun hc1 => ?_) (fun hc1 => ?_)
  · replace h := h.1 hc1
    refine g_lps [0] rfl ?_
    exact wk_X9_sheet_L29 V_l1 V_l2 V_m1 V_m2  C    _  h
  · replace h := h.2 hc1
    refine g_iload_n C rfl dX9_sheet_7 rfl ?_
    refine g_if_eq (tgt := 35) C dX9_sheet_8 (by decide) rfl (fun hc6 => ?_) (fun hc6 => ?_)
    · replace h := h.1 hc6
      exact wk_X9_sheet_L35 V_l1 V_l2 V_m1 V_m2  C    _ _ _ _ h
    · replace h := h.2 hc6
      refine g_iload_n C rfl dX9_sheet_11 rfl ?_
      refine g_bipush C kb_8 dX9_sheet_12 rfl ?_
      refine g_icmp_eq (tgt := 35) C dX9_sheet_14 (by decide) rfl (fun hc24 => ?_) (fun hc24 => ?_)
      · replace h := h.1 hc24
        exact wk_X9_sheet_L35 V_l1 V_l2 V_m1 V_m2  C    _ _ _ _ h
      · replace h := h.2 hc24
        refine g_iload_n C rfl dX9_sheet_17 rfl ?_
        refine g_bipush C kb_16 dX9_sheet_18 rfl ?_
        refine g_icmp_eq (tgt := 35) C dX9_sheet_20 (by decide) rfl (fun hc25 => ?_) (fun hc25 => ?_)
        · replace h := h.1 hc25
          exact wk_X9_sheet_L35 V_l1 V_l2 V_m1 V_m2  C    _ _ _ _ h
        · replace h := h.2 hc25
          refine g_iload_n C rfl dX9_sheet_23 rfl ?_
          refine g_bipush C kb_32 dX9_sheet_24 rfl ?_
          refine g_icmp_eq (tgt := 35) C dX9_sheet_26 (by decide) rfl (fun hc26 => ?_) (fun hc26 => ?_)
          · replace h := h.1 hc26
            exact wk_X9_sheet_L35 V_l1 V_l2 V_m1 V_m2  C    _ _ _ _ h
          · replace h := h.2 hc26
            refine g_lps [0] rfl ?_
            exact wk_X9_sheet_L29 V_l1 V_l2 V_m1 V_m2  C    _  h
set_option maxRecDepth 100000 in
theorem ct_X9_sheet (V_l1 : VC_l1) (V_l2 : VC_l2) (V_m1 : VC_m1) (V_m2 : VC_m2) {l : Launch} {E : Ev}   (f : Fn) (a1 : Int32) (a2 : Int32) (a3 : Int32) (hpre : Pre_X9_sheet f a1 a2 a3) : CT l E layM yX9_sheet cX9_sheet 5 (some .int) 2 [.ref (E.2.1 0), .int a1, .int a2, .int a3] f (pI (Post_X9_sheet f a1 a2 a3)) := by
  refine CT.of (by decide +kernel) (Nat.le_of_ble_eq_true rfl) (fun Z hl9 hE9 hp9 C => ?_)
  subst hl9
  subst hE9
  exact wk_X9_sheet V_l1 V_l2 V_m1 V_m2 C   f a1 a2 a3 (by rw [hp9]; exact V_m2.2.2.2.2.2.2.2.2.2.2.2.2.2.1  f a1 a2 a3  hpre)
set_option maxHeartbeats 4000000 in
set_option maxRecDepth 100000 in
theorem wk_X9_put_L95 (V_l1 : VC_l1) (V_l2 : VC_l2) (V_m1 : VC_m1) (V_m2 : VC_m2) {Z : Zt}  (C : CX Z layM RX9 cX9_put 4 (some .int) 2)     (f : Fn) (s0 : Int32) (s1 : Int32) (h : wp_X9_put_L95   f s0 s1 (zp Z)) : GG Z f [] 95 [.int s0, .int s1, .ref (zad Z 9)] := by
  have hs10 := h.1
  replace h := h.2
  refine g_iastx (k := 9) (j := s1.toNatClampNeg) C rfl hs10 rfl dX9_put_95 rfl ?_
  refine g_iconst C ki_1 dX9_put_96 rfl ?_
  exact g_iret C dX9_put_97 h
set_option maxHeartbeats 4000000 in
set_option maxRecDepth 100000 in
theorem wk_X9_put (V_l1 : VC_l1) (V_l2 : VC_l2) (V_m1 : VC_m1) (V_m2 : VC_m2) {Z : Zt}  (C : CX Z layM RX9 cX9_put 4 (some .int) 2)     (f : Fn) (a1 : Int32) (a2 : Int32) (a3 : Int32) (h : wp_X9_put  f a1 a2 a3 (zp Z)) : GG Z f [(0, .ref (zad Z 0)), (1, .int a1), (2, .int a2), (3, .int a3)] 0 [] := by
  refine g_iload_n C rfl dX9_put_0 rfl ?_
  refine g_callSD C tw_1155 tw_1156 tw_10 tw_1157 hy_X9_isSheet (by decide) (by decide) rfl (Nat.le_of_ble_eq_true rfl) (ct_X9_isSheet V_l1 V_l2 V_m1 V_m2   f a1 ) dX9_put_1 rfl rfl ?_
  refine g_if_ne (tgt := 13) C dX9_put_4 (by decide) rfl (fun hc1 => ?_) (fun hc1 => ?_)
  · replace h := h.1 hc1
    refine g_aload_n C rfl dX9_put_13 rfl ?_
    refine fg_X9_32R (k := 0) (p := 7) C rfl rfl dX9_put_14 rfl ?_
    refine g_iload_n C rfl dX9_put_17 rfl ?_
    have hs2 := h.1
    replace h := h.2
    refine g_ialdx (k := 7) (j := a1.toNatClampNeg) (x := (f 7 a1.toNatClampNeg)) C rfl hs2 rfl rfl dX9_put_18 rfl ?_
    refine g_if_ne (tgt := 28) C dX9_put_19 (by decide) rfl (fun hc3 => ?_) (fun hc3 => ?_)
    · replace h := h.1 hc3
      refine g_iload_n C rfl dX9_put_28 rfl ?_
      refine g_i2l C dX9_put_29 rfl ?_
      refine g_lconst C kl_0 dX9_put_30 rfl ?_
      refine g_aload_n C rfl dX9_put_31 rfl ?_
      refine fg_X9_35R (k := 0) (p := 8) C rfl rfl dX9_put_32 rfl ?_
      refine g_iload_n C rfl dX9_put_35 rfl ?_
      have hs4 := h.1
      replace h := h.2
      refine g_ialdx (k := 8) (j := a1.toNatClampNeg) (x := (f 8 a1.toNatClampNeg)) C rfl hs4 rfl rfl dX9_put_36 rfl ?_
      refine g_iconst C ki_1 dX9_put_37 rfl ?_
      refine g_isub C dX9_put_38 rfl ?_
      refine g_i2l C dX9_put_39 rfl ?_
      refine g_callSD C tw_878 tw_879 tw_10 tw_880 hy_X9_in (by decide) (by decide) rfl (Nat.le_of_ble_eq_true rfl) (ct_X9_in V_l1 V_l2 V_m1   f a2.toInt64 (0 : Int64) ((f 8 a1.toNatClampNeg) - (1 : Int32)).toInt64 ) dX9_put_40 rfl rfl ?_
      refine g_if_ne (tgt := 52) C dX9_put_43 (by decide) rfl (fun hc5 => ?_) (fun hc5 => ?_)
      · replace h := h.1 hc5
        refine g_aload_n C rfl dX9_put_52 rfl ?_
        refine fg_X9_38R (k := 0) (p := 9) C rfl rfl dX9_put_53 rfl ?_
        refine g_bipush C kb_40 dX9_put_56 rfl ?_
        refine g_iload_n C rfl dX9_put_58 rfl ?_
        refine g_imul C dX9_put_59 rfl ?_
        refine g_iload_n C rfl dX9_put_60 rfl ?_
        refine g_iadd C dX9_put_61 rfl ?_
        refine g_aload_n C rfl dX9_put_62 rfl ?_
        refine fg_X9_32R (k := 0) (p := 7) C rfl rfl dX9_put_63 rfl ?_
        refine g_iload_n C rfl dX9_put_66 rfl ?_
        have hs6 := h.1
        replace h := h.2
        refine g_ialdx (k := 7) (j := a1.toNatClampNeg) (x := (f 7 a1.toNatClampNeg)) C rfl hs6 rfl rfl dX9_put_67 rfl ?_
        refine g_bipush C kb_8 dX9_put_68 rfl ?_
        refine g_icmp_ne (tgt := 78) C dX9_put_70 (by decide) rfl (fun hc7 => ?_) (fun hc7 => ?_)
        · replace h := h.1 hc7
          refine g_aload_n C rfl dX9_put_78 rfl ?_
          refine fg_X9_32R (k := 0) (p := 7) C rfl rfl dX9_put_79 rfl ?_
          refine g_iload_n C rfl dX9_put_82 rfl ?_
          have hs8 := h.1
          replace h := h.2
          refine g_ialdx (k := 7) (j := a1.toNatClampNeg) (x := (f 7 a1.toNatClampNeg)) C rfl hs8 rfl rfl dX9_put_83 rfl ?_
          refine g_bipush C kb_16 dX9_put_84 rfl ?_
          refine g_icmp_ne (tgt := 94) C dX9_put_86 (by decide) rfl (fun hc9 => ?_) (fun hc9 => ?_)
          · replace h := h.1 hc9
            refine g_iload_n C rfl dX9_put_94 rfl ?_
            refine g_lps [] rfl ?_
            exact wk_X9_put_L95 V_l1 V_l2 V_m1 V_m2  C    _ _ _ h
          · replace h := h.2 hc9
            refine g_iload_n C rfl dX9_put_89 rfl ?_
            refine g_i2s C dX9_put_90 rfl ?_
            refine g_goto (q := 95) C dX9_put_91 (by decide) ?_
            refine g_lps [] rfl ?_
            exact wk_X9_put_L95 V_l1 V_l2 V_m1 V_m2  C    _ _ _ h
        · replace h := h.2 hc7
          refine g_iload_n C rfl dX9_put_73 rfl ?_
          refine g_i2b C dX9_put_74 rfl ?_
          refine g_goto (q := 95) C dX9_put_75 (by decide) ?_
          refine g_lps [] rfl ?_
          exact wk_X9_put_L95 V_l1 V_l2 V_m1 V_m2  C    _ _ _ h
      · replace h := h.2 hc5
        refine g_aload_n C rfl dX9_put_46 rfl ?_
        refine g_iconst C ki_1 dX9_put_47 rfl ?_
        have hs11 := h.1
        replace h := h.2
        refine g_callVI C tw_881 tw_883 tp_15 tw_10 tw_884 hy_X9_finds (by decide) (by decide) rfl (Nat.le_of_ble_eq_true rfl) rfl rfl (ct_X9_finds V_l1 V_l2 V_m1   f (1 : Int32) hs11) dX9_put_48 rfl rfl (fun r12 f13 hp14 => ?_)
        replace h := h r12 f13 hp14
        exact g_iret C dX9_put_51 h
    · replace h := h.2 hc3
      refine g_aload_n C rfl dX9_put_22 rfl ?_
      refine g_iconst C ki_2 dX9_put_23 rfl ?_
      have hs15 := h.1
      replace h := h.2
      refine g_callVI C tw_881 tw_883 tp_15 tw_10 tw_884 hy_X9_finds (by decide) (by decide) rfl (Nat.le_of_ble_eq_true rfl) rfl rfl (ct_X9_finds V_l1 V_l2 V_m1   f (2 : Int32) hs15) dX9_put_24 rfl rfl (fun r16 f17 hp18 => ?_)
      replace h := h r16 f17 hp18
      exact g_iret C dX9_put_27 h
  · replace h := h.2 hc1
    refine g_aload_n C rfl dX9_put_7 rfl ?_
    refine g_iconst C ki_1 dX9_put_8 rfl ?_
    have hs19 := h.1
    replace h := h.2
    refine g_callVI C tw_881 tw_883 tp_15 tw_10 tw_884 hy_X9_finds (by decide) (by decide) rfl (Nat.le_of_ble_eq_true rfl) rfl rfl (ct_X9_finds V_l1 V_l2 V_m1   f (1 : Int32) hs19) dX9_put_9 rfl rfl (fun r20 f21 hp22 => ?_)
    replace h := h r20 f21 hp22
    exact g_iret C dX9_put_12 h
set_option maxRecDepth 100000 in
theorem ct_X9_put (V_l1 : VC_l1) (V_l2 : VC_l2) (V_m1 : VC_m1) (V_m2 : VC_m2) {l : Launch} {E : Ev}   (f : Fn) (a1 : Int32) (a2 : Int32) (a3 : Int32) (hpre : Pre_X9_put f a1 a2 a3) : CT l E layM yX9_put cX9_put 4 (some .int) 2 [.ref (E.2.1 0), .int a1, .int a2, .int a3] f (pI (Post_X9_put f a1 a2 a3)) := by
  refine CT.of (by decide +kernel) (Nat.le_of_ble_eq_true rfl) (fun Z hl9 hE9 hp9 C => ?_)
  subst hl9
  subst hE9
  exact wk_X9_put V_l1 V_l2 V_m1 V_m2 C   f a1 a2 a3 (by rw [hp9]; exact V_m2.2.2.2.2.2.2.2.2.2.2.2.2.2.2.1  f a1 a2 a3  hpre)
set_option maxHeartbeats 4000000 in
set_option maxRecDepth 100000 in
theorem wk_X9_move_L14 (V_l1 : VC_l1) (V_l2 : VC_l2) (V_m1 : VC_m1) (V_m2 : VC_m2) {Z : Zt}  (C : CX Z layM RX9 cX9_move 7 (some .int) 2)     (f : Fn)  (h : wp_X9_move_L14   f  (zp Z)) : GG Z f [(0, .ref (zad Z 0))] 14 [] := by
  refine g_aload_n C rfl dX9_move_14 rfl ?_
  refine g_iconst C ki_1 dX9_move_15 rfl ?_
  have hs2 := h.1
  replace h := h.2
  refine g_callVI C tw_881 tw_883 tp_15 tw_10 tw_884 hy_X9_finds (by decide) (by decide) rfl (Nat.le_of_ble_eq_true rfl) rfl rfl (ct_X9_finds V_l1 V_l2 V_m1   f (1 : Int32) hs2) dX9_move_16 rfl rfl (fun r3 f4 hp5 => ?_)
  replace h := h r3 f4 hp5
  exact g_iret C dX9_move_19 h
set_option maxHeartbeats 4000000 in
set_option maxRecDepth 100000 in
theorem wk_X9_move_L38 (V_l1 : VC_l1) (V_l2 : VC_l2) (V_m1 : VC_m1) (V_m2 : VC_m2) {Z : Zt}  (C : CX Z layM RX9 cX9_move 7 (some .int) 2)     (f : Fn)  (h : wp_X9_move_L38   f  (zp Z)) : GG Z f [(0, .ref (zad Z 0))] 38 [] := by
  refine g_aload_n C rfl dX9_move_38 rfl ?_
  refine g_iconst C ki_2 dX9_move_39 rfl ?_
  have hs9 := h.1
  replace h := h.2
  refine g_callVI C tw_881 tw_883 tp_15 tw_10 tw_884 hy_X9_finds (by decide) (by decide) rfl (Nat.le_of_ble_eq_true rfl) rfl rfl (ct_X9_finds V_l1 V_l2 V_m1   f (2 : Int32) hs9) dX9_move_40 rfl rfl (fun r10 f11 hp12 => ?_)
  replace h := h r10 f11 hp12
  exact g_iret C dX9_move_43 h
set_option maxHeartbeats 4000000 in
set_option maxRecDepth 100000 in
theorem wk_X9_move_L106 (V_l1 : VC_l1) (V_l2 : VC_l2) (V_m1 : VC_m1) (V_m2 : VC_m2) {Z : Zt}  (C : CX Z layM RX9 cX9_move 7 (some .int) 2)     (f : Fn)  (h : wp_X9_move_L106   f  (zp Z)) : GG Z f [(0, .ref (zad Z 0))] 106 [] := by
  refine g_aload_n C rfl dX9_move_106 rfl ?_
  refine g_iconst C ki_1 dX9_move_107 rfl ?_
  have hs19 := h.1
  replace h := h.2
  refine g_callVI C tw_881 tw_883 tp_15 tw_10 tw_884 hy_X9_finds (by decide) (by decide) rfl (Nat.le_of_ble_eq_true rfl) rfl rfl (ct_X9_finds V_l1 V_l2 V_m1   f (1 : Int32) hs19) dX9_move_108 rfl rfl (fun r20 f21 hp22 => ?_)
  replace h := h r20 f21 hp22
  exact g_iret C dX9_move_111 h
set_option maxHeartbeats 4000000 in
set_option maxRecDepth 100000 in
theorem wkb_X9_move_L152 (V_l1 : VC_l1) (V_l2 : VC_l2) (V_m1 : VC_m1) (V_m2 : VC_m2) {Z : Zt}  (C : CX Z layM RX9 cX9_move 7 (some .int) 2)   {K152 : Fn → Int32 → Int32 → Int32 → Int32 → Prop} (hK152 : ∀ (f : Fn) (x3 : Int32) (x4 : Int32) (x5 : Int32) (x6 : Int32), K152 f x3 x4 x5 x6 → GG Z f [(0, .ref (zad Z 0)), (3, .int x3), (4, .int x4), (5, .int x5), (6, .int x6)] 152 []) (f : Fn) (x3 : Int32) (x4 : Int32) (x5 : Int32) (x6 : Int32) (h : wpb_X9_move_L152   K152 f x3 x4 x5 x6 (zp Z)) : GG Z f [(0, .ref (zad Z 0)), (3, .int x3), (4, .int x4), (5, .int x5), (6, .int x6)] 152 [] := by
  refine g_iload C rfl dX9_move_152 rfl ?_
  refine g_iload C rfl dX9_move_154 rfl ?_
  refine g_icmp_ge (tgt := 187) C dX9_move_156 (by decide) rfl (fun hc30 => ?_) (fun hc30 => ?_)
  · replace h := h.1 hc30
    refine g_iload C rfl dX9_move_187 rfl ?_
    exact g_iret C dX9_move_189 h
  · replace h := h.2 hc30
    refine g_aload_n C rfl dX9_move_159 rfl ?_
    refine fg_X9_38R (k := 0) (p := 9) C rfl rfl dX9_move_160 rfl ?_
    refine g_bipush C kb_40 dX9_move_163 rfl ?_
    refine g_iload_n C rfl dX9_move_165 rfl ?_
    refine g_imul C dX9_move_166 rfl ?_
    refine g_iload C rfl dX9_move_167 rfl ?_
    refine g_iadd C dX9_move_169 rfl ?_
    refine g_iload C rfl dX9_move_170 rfl ?_
    refine g_iadd C dX9_move_172 rfl ?_
    refine g_aload_n C rfl dX9_move_173 rfl ?_
    refine fg_X9_41R (k := 0) (p := 10) C rfl rfl dX9_move_174 rfl ?_
    refine g_iload C rfl dX9_move_177 rfl ?_
    have hs31 := h.1
    replace h := h.2
    refine g_ialdx (k := 10) (j := x6.toNatClampNeg) (x := (f 10 x6.toNatClampNeg)) C rfl hs31 rfl rfl dX9_move_179 rfl ?_
    have hs32 := h.1
    replace h := h.2
    refine g_iastx (k := 9) (j := ((((40 : Int32) * x3) + x4) + x6).toNatClampNeg) C rfl hs32 rfl dX9_move_180 rfl ?_
    refine g_iinc (lv' := [(6, .int (x6 + (1 : Int32))), (0, .ref (zad Z 0)), (3, .int x3), (4, .int x4), (5, .int x5)]) C dX9_move_181 rfl (inc_1 _) (by decide) rfl rfl ?_
    refine g_goto (q := 152) C dX9_move_184 (by decide) ?_
    refine g_lps [0, 3, 4, 5, 6] rfl ?_
    exact hK152 _ _ _ _ _ h
set_option maxHeartbeats 4000000 in
set_option maxRecDepth 100000 in
theorem wk_X9_move_L152 (V_l1 : VC_l1) (V_l2 : VC_l2) (V_m1 : VC_m1) (V_m2 : VC_m2) {Z : Zt}  (C : CX Z layM RX9 cX9_move 7 (some .int) 2)     (f : Fn) (x3 : Int32) (x4 : Int32) (x5 : Int32) (x6 : Int32) (h : wp_X9_move_L152   f x3 x4 x5 x6 (zp Z)) : GG Z f [(0, .ref (zad Z 0)), (3, .int x3), (4, .int x4), (5, .int x5), (6, .int x6)] 152 [] := by
  obtain ⟨I, μ, h0, hs⟩ := h
  suffices H : ∀ (N : Nat) (f : Fn) (x3 : Int32) (x4 : Int32) (x5 : Int32) (x6 : Int32), μ f x3 x4 x5 x6 < N → I f x3 x4 x5 x6 → GG Z f [(0, .ref (zad Z 0)), (3, .int x3), (4, .int x4), (5, .int x5), (6, .int x6)] 152 [] from H _ f x3 x4 x5 x6 (Nat.lt_succ_self _) h0
  clear h0
  intro N
  induction N with
  | zero => intro f x3 x4 x5 x6 hm; exact absurd hm (Nat.not_lt_zero _)
  | succ N ih =>
    intro f x3 x4 x5 x6 hm hi
    exact wkb_X9_move_L152 V_l1 V_l2 V_m1 V_m2  C    (fun f9 x39 x49 x59 x69 hk => ih f9 x39 x49 x59 x69 (Nat.lt_of_lt_of_le hk.2 (Nat.le_of_lt_succ hm)) hk.1) f x3 x4 x5 x6 (hs f x3 x4 x5 x6 hi)
set_option maxHeartbeats 4000000 in
set_option maxRecDepth 100000 in
theorem wkb_X9_move_L115 (V_l1 : VC_l1) (V_l2 : VC_l2) (V_m1 : VC_m1) (V_m2 : VC_m2) {Z : Zt}  (C : CX Z layM RX9 cX9_move 7 (some .int) 2)   {K115 : Fn → Int32 → Int32 → Int32 → Int32 → Int32 → Int32 → Prop} (hK115 : ∀ (f : Fn) (x1 : Int32) (x2 : Int32) (x3 : Int32) (x4 : Int32) (x5 : Int32) (x6 : Int32), K115 f x1 x2 x3 x4 x5 x6 → GG Z f [(0, .ref (zad Z 0)), (1, .int x1), (2, .int x2), (3, .int x3), (4, .int x4), (5, .int x5), (6, .int x6)] 115 []) (f : Fn) (x1 : Int32) (x2 : Int32) (x3 : Int32) (x4 : Int32) (x5 : Int32) (x6 : Int32) (h : wpb_X9_move_L115   K115 f x1 x2 x3 x4 x5 x6 (zp Z)) : GG Z f [(0, .ref (zad Z 0)), (1, .int x1), (2, .int x2), (3, .int x3), (4, .int x4), (5, .int x5), (6, .int x6)] 115 [] := by
  refine g_iload C rfl dX9_move_115 rfl ?_
  refine g_iload C rfl dX9_move_117 rfl ?_
  refine g_icmp_ge (tgt := 149) C dX9_move_119 (by decide) rfl (fun hc29 => ?_) (fun hc29 => ?_)
  · replace h := h.1 hc29
    refine g_iconst C ki_0 dX9_move_149 rfl ?_
    refine g_istore (lv' := [(6, .int (0 : Int32)), (0, .ref (zad Z 0)), (1, .int x1), (2, .int x2), (3, .int x3), (4, .int x4), (5, .int x5)]) C dX9_move_150 (by decide) rfl rfl ?_
    refine g_lps [0, 3, 4, 5, 6] rfl ?_
    exact wk_X9_move_L152 V_l1 V_l2 V_m1 V_m2  C    _ _ _ _ _ h
  · replace h := h.2 hc29
    refine g_aload_n C rfl dX9_move_122 rfl ?_
    refine fg_X9_41R (k := 0) (p := 10) C rfl rfl dX9_move_123 rfl ?_
    refine g_iload C rfl dX9_move_126 rfl ?_
    refine g_aload_n C rfl dX9_move_128 rfl ?_
    refine fg_X9_38R (k := 0) (p := 9) C rfl rfl dX9_move_129 rfl ?_
    refine g_bipush C kb_40 dX9_move_132 rfl ?_
    refine g_iload_n C rfl dX9_move_134 rfl ?_
    refine g_imul C dX9_move_135 rfl ?_
    refine g_iload_n C rfl dX9_move_136 rfl ?_
    refine g_iadd C dX9_move_137 rfl ?_
    refine g_iload C rfl dX9_move_138 rfl ?_
    refine g_iadd C dX9_move_140 rfl ?_
    have hs33 := h.1
    replace h := h.2
    refine g_ialdx (k := 9) (j := ((((40 : Int32) * x1) + x2) + x6).toNatClampNeg) (x := (f 9 ((((40 : Int32) * x1) + x2) + x6).toNatClampNeg)) C rfl hs33 rfl rfl dX9_move_141 rfl ?_
    have hs34 := h.1
    replace h := h.2
    refine g_iastx (k := 10) (j := x6.toNatClampNeg) C rfl hs34 rfl dX9_move_142 rfl ?_
    refine g_iinc (lv' := [(6, .int (x6 + (1 : Int32))), (0, .ref (zad Z 0)), (1, .int x1), (2, .int x2), (3, .int x3), (4, .int x4), (5, .int x5)]) C dX9_move_143 rfl (inc_1 _) (by decide) rfl rfl ?_
    refine g_goto (q := 115) C dX9_move_146 (by decide) ?_
    refine g_lps [0, 1, 2, 3, 4, 5, 6] rfl ?_
    exact hK115 _ _ _ _ _ _ _ h
set_option maxHeartbeats 4000000 in
set_option maxRecDepth 100000 in
theorem wk_X9_move_L115 (V_l1 : VC_l1) (V_l2 : VC_l2) (V_m1 : VC_m1) (V_m2 : VC_m2) {Z : Zt}  (C : CX Z layM RX9 cX9_move 7 (some .int) 2)     (f : Fn) (x1 : Int32) (x2 : Int32) (x3 : Int32) (x4 : Int32) (x5 : Int32) (x6 : Int32) (h : wp_X9_move_L115   f x1 x2 x3 x4 x5 x6 (zp Z)) : GG Z f [(0, .ref (zad Z 0)), (1, .int x1), (2, .int x2), (3, .int x3), (4, .int x4), (5, .int x5), (6, .int x6)] 115 [] := by
  obtain ⟨I, μ, h0, hs⟩ := h
  suffices H : ∀ (N : Nat) (f : Fn) (x1 : Int32) (x2 : Int32) (x3 : Int32) (x4 : Int32) (x5 : Int32) (x6 : Int32), μ f x1 x2 x3 x4 x5 x6 < N → I f x1 x2 x3 x4 x5 x6 → GG Z f [(0, .ref (zad Z 0)), (1, .int x1), (2, .int x2), (3, .int x3), (4, .int x4), (5, .int x5), (6, .int x6)] 115 [] from H _ f x1 x2 x3 x4 x5 x6 (Nat.lt_succ_self _) h0
  clear h0
  intro N
  induction N with
  | zero => intro f x1 x2 x3 x4 x5 x6 hm; exact absurd hm (Nat.not_lt_zero _)
  | succ N ih =>
    intro f x1 x2 x3 x4 x5 x6 hm hi
    exact wkb_X9_move_L115 V_l1 V_l2 V_m1 V_m2  C    (fun f9 x19 x29 x39 x49 x59 x69 hk => ih f9 x19 x29 x39 x49 x59 x69 (Nat.lt_of_lt_of_le hk.2 (Nat.le_of_lt_succ hm)) hk.1) f x1 x2 x3 x4 x5 x6 (hs f x1 x2 x3 x4 x5 x6 hi)
set_option maxHeartbeats 4000000 in
set_option maxRecDepth 100000 in
theorem wk_X9_move (V_l1 : VC_l1) (V_l2 : VC_l2) (V_m1 : VC_m1) (V_m2 : VC_m2) {Z : Zt}  (C : CX Z layM RX9 cX9_move 7 (some .int) 2)     (f : Fn) (a1 : Int32) (a2 : Int32) (a3 : Int32) (a4 : Int32) (a5 : Int32) (h : wp_X9_move  f a1 a2 a3 a4 a5 (zp Z)) : GG Z f [(0, .ref (zad Z 0)), (1, .int a1), (2, .int a2), (3, .int a3), (4, .int a4), (5, .int a5)] 0 [] := by
  refine g_iload_n C rfl dX9_move_0 rfl ?_
  refine g_callSD C tw_1155 tw_1156 tw_10 tw_1157 hy_X9_isSheet (by decide) (by decide) rfl (Nat.le_of_ble_eq_true rfl) (ct_X9_isSheet V_l1 V_l2 V_m1 V_m2   f a1 ) dX9_move_1 rfl rfl ?_
  refine g_if_eq (tgt := 14) C dX9_move_4 (by decide) rfl (fun hc1 => ?_) (fun hc1 => ?_)
  · replace h := h.1 hc1
    refine g_lps [0] rfl ?_
    exact wk_X9_move_L14 V_l1 V_l2 V_m1 V_m2  C    _  h
  · replace h := h.2 hc1
    refine g_iload_n C rfl dX9_move_7 rfl ?_
    refine g_callSD C tw_1155 tw_1156 tw_10 tw_1157 hy_X9_isSheet (by decide) (by decide) rfl (Nat.le_of_ble_eq_true rfl) (ct_X9_isSheet V_l1 V_l2 V_m1 V_m2   f a3 ) dX9_move_8 rfl rfl ?_
    refine g_if_ne (tgt := 20) C dX9_move_11 (by decide) rfl (fun hc6 => ?_) (fun hc6 => ?_)
    · replace h := h.1 hc6
      refine g_aload_n C rfl dX9_move_20 rfl ?_
      refine fg_X9_32R (k := 0) (p := 7) C rfl rfl dX9_move_21 rfl ?_
      refine g_iload_n C rfl dX9_move_24 rfl ?_
      have hs7 := h.1
      replace h := h.2
      refine g_ialdx (k := 7) (j := a1.toNatClampNeg) (x := (f 7 a1.toNatClampNeg)) C rfl hs7 rfl rfl dX9_move_25 rfl ?_
      refine g_if_eq (tgt := 38) C dX9_move_26 (by decide) rfl (fun hc8 => ?_) (fun hc8 => ?_)
      · replace h := h.1 hc8
        refine g_lps [0] rfl ?_
        exact wk_X9_move_L38 V_l1 V_l2 V_m1 V_m2  C    _  h
      · replace h := h.2 hc8
        refine g_aload_n C rfl dX9_move_29 rfl ?_
        refine fg_X9_32R (k := 0) (p := 7) C rfl rfl dX9_move_30 rfl ?_
        refine g_iload_n C rfl dX9_move_33 rfl ?_
        have hs13 := h.1
        replace h := h.2
        refine g_ialdx (k := 7) (j := a3.toNatClampNeg) (x := (f 7 a3.toNatClampNeg)) C rfl hs13 rfl rfl dX9_move_34 rfl ?_
        refine g_if_ne (tgt := 44) C dX9_move_35 (by decide) rfl (fun hc14 => ?_) (fun hc14 => ?_)
        · replace h := h.1 hc14
          refine g_aload_n C rfl dX9_move_44 rfl ?_
          refine fg_X9_32R (k := 0) (p := 7) C rfl rfl dX9_move_45 rfl ?_
          refine g_iload_n C rfl dX9_move_48 rfl ?_
          have hs15 := h.1
          replace h := h.2
          refine g_ialdx (k := 7) (j := a1.toNatClampNeg) (x := (f 7 a1.toNatClampNeg)) C rfl hs15 rfl rfl dX9_move_49 rfl ?_
          refine g_aload_n C rfl dX9_move_50 rfl ?_
          refine fg_X9_32R (k := 0) (p := 7) C rfl rfl dX9_move_51 rfl ?_
          refine g_iload_n C rfl dX9_move_54 rfl ?_
          have hs16 := h.1
          replace h := h.2
          refine g_ialdx (k := 7) (j := a3.toNatClampNeg) (x := (f 7 a3.toNatClampNeg)) C rfl hs16 rfl rfl dX9_move_55 rfl ?_
          refine g_icmp_eq (tgt := 65) C dX9_move_56 (by decide) rfl (fun hc17 => ?_) (fun hc17 => ?_)
          · replace h := h.1 hc17
            refine g_iload C rfl dX9_move_65 rfl ?_
            refine g_if_lt (tgt := 106) C dX9_move_67 (by decide) rfl (fun hc18 => ?_) (fun hc18 => ?_)
            · replace h := h.1 hc18
              refine g_lps [0] rfl ?_
              exact wk_X9_move_L106 V_l1 V_l2 V_m1 V_m2  C    _  h
            · replace h := h.2 hc18
              refine g_iload_n C rfl dX9_move_70 rfl ?_
              refine g_if_lt (tgt := 106) C dX9_move_71 (by decide) rfl (fun hc23 => ?_) (fun hc23 => ?_)
              · replace h := h.1 hc23
                refine g_lps [0] rfl ?_
                exact wk_X9_move_L106 V_l1 V_l2 V_m1 V_m2  C    _  h
              · replace h := h.2 hc23
                refine g_iload C rfl dX9_move_74 rfl ?_
                refine g_if_lt (tgt := 106) C dX9_move_76 (by decide) rfl (fun hc24 => ?_) (fun hc24 => ?_)
                · replace h := h.1 hc24
                  refine g_lps [0] rfl ?_
                  exact wk_X9_move_L106 V_l1 V_l2 V_m1 V_m2  C    _  h
                · replace h := h.2 hc24
                  refine g_iload C rfl dX9_move_79 rfl ?_
                  refine g_aload_n C rfl dX9_move_81 rfl ?_
                  refine fg_X9_35R (k := 0) (p := 8) C rfl rfl dX9_move_82 rfl ?_
                  refine g_iload_n C rfl dX9_move_85 rfl ?_
                  have hs25 := h.1
                  replace h := h.2
                  refine g_ialdx (k := 8) (j := a1.toNatClampNeg) (x := (f 8 a1.toNatClampNeg)) C rfl hs25 rfl rfl dX9_move_86 rfl ?_
                  refine g_iload_n C rfl dX9_move_87 rfl ?_
                  refine g_isub C dX9_move_88 rfl ?_
                  refine g_icmp_gt (tgt := 106) C dX9_move_89 (by decide) rfl (fun hc26 => ?_) (fun hc26 => ?_)
                  · replace h := h.1 hc26
                    refine g_lps [0] rfl ?_
                    exact wk_X9_move_L106 V_l1 V_l2 V_m1 V_m2  C    _  h
                  · replace h := h.2 hc26
                    refine g_iload C rfl dX9_move_92 rfl ?_
                    refine g_aload_n C rfl dX9_move_94 rfl ?_
                    refine fg_X9_35R (k := 0) (p := 8) C rfl rfl dX9_move_95 rfl ?_
                    refine g_iload_n C rfl dX9_move_98 rfl ?_
                    have hs27 := h.1
                    replace h := h.2
                    refine g_ialdx (k := 8) (j := a3.toNatClampNeg) (x := (f 8 a3.toNatClampNeg)) C rfl hs27 rfl rfl dX9_move_99 rfl ?_
                    refine g_iload C rfl dX9_move_100 rfl ?_
                    refine g_isub C dX9_move_102 rfl ?_
                    refine g_icmp_le (tgt := 112) C dX9_move_103 (by decide) rfl (fun hc28 => ?_) (fun hc28 => ?_)
                    · replace h := h.1 hc28
                      refine g_iconst C ki_0 dX9_move_112 rfl ?_
                      refine g_istore (lv' := [(6, .int (0 : Int32)), (0, .ref (zad Z 0)), (1, .int a1), (2, .int a2), (3, .int a3), (4, .int a4), (5, .int a5)]) C dX9_move_113 (by decide) rfl rfl ?_
                      refine g_lps [0, 1, 2, 3, 4, 5, 6] rfl ?_
                      exact wk_X9_move_L115 V_l1 V_l2 V_m1 V_m2  C    _ _ _ _ _ _ _ h
                    · replace h := h.2 hc28
                      refine g_lps [0] rfl ?_
                      exact wk_X9_move_L106 V_l1 V_l2 V_m1 V_m2  C    _  h
          · replace h := h.2 hc17
            refine g_aload_n C rfl dX9_move_59 rfl ?_
            refine g_iconst C ki_5 dX9_move_60 rfl ?_
            have hs35 := h.1
            replace h := h.2
            refine g_callVI C tw_881 tw_883 tp_15 tw_10 tw_884 hy_X9_finds (by decide) (by decide) rfl (Nat.le_of_ble_eq_true rfl) rfl rfl (ct_X9_finds V_l1 V_l2 V_m1   f (5 : Int32) hs35) dX9_move_61 rfl rfl (fun r36 f37 hp38 => ?_)
            replace h := h r36 f37 hp38
            exact g_iret C dX9_move_64 h
        · replace h := h.2 hc14
          refine g_lps [0] rfl ?_
          exact wk_X9_move_L38 V_l1 V_l2 V_m1 V_m2  C    _  h
    · replace h := h.2 hc6
      refine g_lps [0] rfl ?_
      exact wk_X9_move_L14 V_l1 V_l2 V_m1 V_m2  C    _  h
set_option maxRecDepth 100000 in
theorem ct_X9_move (V_l1 : VC_l1) (V_l2 : VC_l2) (V_m1 : VC_m1) (V_m2 : VC_m2) {l : Launch} {E : Ev}   (f : Fn) (a1 : Int32) (a2 : Int32) (a3 : Int32) (a4 : Int32) (a5 : Int32) (hpre : Pre_X9_move f a1 a2 a3 a4 a5) : CT l E layM yX9_move cX9_move 7 (some .int) 2 [.ref (E.2.1 0), .int a1, .int a2, .int a3, .int a4, .int a5] f (pI (Post_X9_move f a1 a2 a3 a4 a5)) := by
  refine CT.of (by decide +kernel) (Nat.le_of_ble_eq_true rfl) (fun Z hl9 hE9 hp9 C => ?_)
  subst hl9
  subst hE9
  exact wk_X9_move V_l1 V_l2 V_m1 V_m2 C   f a1 a2 a3 a4 a5 (by rw [hp9]; exact V_m2.2.2.2.2.2.2.2.2.2.2.2.2.2.2.2.1  f a1 a2 a3 a4 a5  hpre)
set_option maxHeartbeats 4000000 in
set_option maxRecDepth 100000 in
theorem wkb_X9_turns_L30 (V_l1 : VC_l1) (V_l2 : VC_l2) (V_m1 : VC_m1) (V_m2 : VC_m2) {Z : Zt}  (C : CX Z layM RX9 cX9_turns 3 (some .int) 2)   {K30 : Fn → Int32 → Int32 → Prop} (hK30 : ∀ (f : Fn) (x1 : Int32) (x2 : Int32), K30 f x1 x2 → GG Z f [(0, .ref (zad Z 0)), (1, .int x1), (2, .int x2)] 30 []) (f : Fn) (x1 : Int32) (x2 : Int32) (h : wpb_X9_turns_L30   K30 f x1 x2 (zp Z)) : GG Z f [(0, .ref (zad Z 0)), (1, .int x1), (2, .int x2)] 30 [] := by
  refine g_iload_n C rfl dX9_turns_30 rfl ?_
  refine g_aload_n C rfl dX9_turns_31 rfl ?_
  refine fg_X9_35R (k := 0) (p := 8) C rfl rfl dX9_turns_32 rfl ?_
  refine g_iload_n C rfl dX9_turns_35 rfl ?_
  have hs4 := h.1
  replace h := h.2
  refine g_ialdx (k := 8) (j := x1.toNatClampNeg) (x := (f 8 x1.toNatClampNeg)) C rfl hs4 rfl rfl dX9_turns_36 rfl ?_
  refine g_icmp_ge (tgt := 95) C dX9_turns_37 (by decide) rfl (fun hc5 => ?_) (fun hc5 => ?_)
  · replace h := h.1 hc5
    refine g_iload_n C rfl dX9_turns_95 rfl ?_
    exact g_iret C dX9_turns_96 h
  · replace h := h.2 hc5
    refine g_iload_n C rfl dX9_turns_40 rfl ?_
    refine g_aload_n C rfl dX9_turns_41 rfl ?_
    refine fg_X9_7R (k := 0) (p := 1) C rfl rfl dX9_turns_42 rfl ?_
    refine g_iconst C ki_0 dX9_turns_45 rfl ?_
    refine g_ialdx (k := 1) (j := 0) (x := (f 1 0)) C rfl vi_0_264 kc_0 rfl dX9_turns_46 rfl ?_
    refine g_icmp_ge (tgt := 95) C dX9_turns_47 (by decide) rfl (fun hc6 => ?_) (fun hc6 => ?_)
    · replace h := h.1 hc6
      refine g_iload_n C rfl dX9_turns_95 rfl ?_
      exact g_iret C dX9_turns_96 h
    · replace h := h.2 hc6
      refine g_aload_n C rfl dX9_turns_50 rfl ?_
      refine fg_X9_38R (k := 0) (p := 9) C rfl rfl dX9_turns_51 rfl ?_
      refine g_bipush C kb_40 dX9_turns_54 rfl ?_
      refine g_iload_n C rfl dX9_turns_56 rfl ?_
      refine g_imul C dX9_turns_57 rfl ?_
      refine g_iload_n C rfl dX9_turns_58 rfl ?_
      refine g_iadd C dX9_turns_59 rfl ?_
      have hs7 := h.1
      replace h := h.2
      refine g_ialdx (k := 9) (j := (((40 : Int32) * x1) + x2).toNatClampNeg) (x := (f 9 (((40 : Int32) * x1) + x2).toNatClampNeg)) C rfl hs7 rfl rfl dX9_turns_60 rfl ?_
      refine g_i2l C dX9_turns_61 rfl ?_
      refine g_lconst C kl_1 dX9_turns_62 rfl ?_
      refine g_ldc2 C tw_1024 dX9_turns_63 rfl ?_
      refine g_callSD C tw_878 tw_879 tw_10 tw_880 hy_X9_in (by decide) (by decide) rfl (Nat.le_of_ble_eq_true rfl) (ct_X9_in V_l1 V_l2 V_m1   f (f 9 (((40 : Int32) * x1) + x2).toNatClampNeg).toInt64 (1 : Int64) (3 : Int64) ) dX9_turns_66 rfl rfl ?_
      refine g_if_eq (tgt := 95) C dX9_turns_69 (by decide) rfl (fun hc8 => ?_) (fun hc8 => ?_)
      · replace h := h.1 hc8
        refine g_iload_n C rfl dX9_turns_95 rfl ?_
        exact g_iret C dX9_turns_96 h
      · replace h := h.2 hc8
        refine g_aload_n C rfl dX9_turns_72 rfl ?_
        refine g_iload_n C rfl dX9_turns_73 rfl ?_
        refine g_iconst C ki_2 dX9_turns_74 rfl ?_
        refine g_aload_n C rfl dX9_turns_75 rfl ?_
        refine fg_X9_38R (k := 0) (p := 9) C rfl rfl dX9_turns_76 rfl ?_
        refine g_bipush C kb_40 dX9_turns_79 rfl ?_
        refine g_iload_n C rfl dX9_turns_81 rfl ?_
        refine g_imul C dX9_turns_82 rfl ?_
        refine g_iload_n C rfl dX9_turns_83 rfl ?_
        refine g_iadd C dX9_turns_84 rfl ?_
        have hs9 := h.1
        replace h := h.2
        refine g_ialdx (k := 9) (j := (((40 : Int32) * x1) + x2).toNatClampNeg) (x := (f 9 (((40 : Int32) * x1) + x2).toNatClampNeg)) C rfl hs9 rfl rfl dX9_turns_85 rfl ?_
        have hs10 := h.1
        replace h := h.2
        refine g_callVV C tw_980 tw_982 tp_28 tw_10 tw_983 hy_X9_sets (by decide) (by decide) rfl (Nat.le_of_ble_eq_true rfl) rfl rfl (ct_X9_sets V_l1 V_l2 V_m1   f x2 (2 : Int32) (f 9 (((40 : Int32) * x1) + x2).toNatClampNeg) hs10) dX9_turns_86 rfl rfl (fun f11 hp12 => ?_)
        replace h := h f11 hp12
        refine g_iinc (lv' := [(2, .int (x2 + (1 : Int32))), (0, .ref (zad Z 0)), (1, .int x1)]) C dX9_turns_89 rfl (inc_1 _) (by decide) rfl rfl ?_
        refine g_goto (q := 30) C dX9_turns_92 (by decide) ?_
        refine g_lps [0, 1, 2] rfl ?_
        exact hK30 _ _ _ h
set_option maxHeartbeats 4000000 in
set_option maxRecDepth 100000 in
theorem wk_X9_turns_L30 (V_l1 : VC_l1) (V_l2 : VC_l2) (V_m1 : VC_m1) (V_m2 : VC_m2) {Z : Zt}  (C : CX Z layM RX9 cX9_turns 3 (some .int) 2)     (f : Fn) (x1 : Int32) (x2 : Int32) (h : wp_X9_turns_L30   f x1 x2 (zp Z)) : GG Z f [(0, .ref (zad Z 0)), (1, .int x1), (2, .int x2)] 30 [] := by
  obtain ⟨I, μ, h0, hs⟩ := h
  suffices H : ∀ (N : Nat) (f : Fn) (x1 : Int32) (x2 : Int32), μ f x1 x2 < N → I f x1 x2 → GG Z f [(0, .ref (zad Z 0)), (1, .int x1), (2, .int x2)] 30 [] from H _ f x1 x2 (Nat.lt_succ_self _) h0
  clear h0
  intro N
  induction N with
  | zero => intro f x1 x2 hm; exact absurd hm (Nat.not_lt_zero _)
  | succ N ih =>
    intro f x1 x2 hm hi
    exact wkb_X9_turns_L30 V_l1 V_l2 V_m1 V_m2  C    (fun f9 x19 x29 hk => ih f9 x19 x29 (Nat.lt_of_lt_of_le hk.2 (Nat.le_of_lt_succ hm)) hk.1) f x1 x2 (hs f x1 x2 hi)
set_option maxHeartbeats 4000000 in
set_option maxRecDepth 100000 in
theorem wk_X9_turns (V_l1 : VC_l1) (V_l2 : VC_l2) (V_m1 : VC_m1) (V_m2 : VC_m2) {Z : Zt}  (C : CX Z layM RX9 cX9_turns 3 (some .int) 2)     (f : Fn) (a1 : Int32) (h : wp_X9_turns  f a1 (zp Z)) : GG Z f [(0, .ref (zad Z 0)), (1, .int a1)] 0 [] := by
  refine g_iload_n C rfl dX9_turns_0 rfl ?_
  refine g_callSD C tw_1155 tw_1156 tw_10 tw_1157 hy_X9_isSheet (by decide) (by decide) rfl (Nat.le_of_ble_eq_true rfl) (ct_X9_isSheet V_l1 V_l2 V_m1 V_m2   f a1 ) dX9_turns_1 rfl rfl ?_
  refine g_if_ne (tgt := 13) C dX9_turns_4 (by decide) rfl (fun hc1 => ?_) (fun hc1 => ?_)
  · replace h := h.1 hc1
    refine g_aload_n C rfl dX9_turns_13 rfl ?_
    refine fg_X9_32R (k := 0) (p := 7) C rfl rfl dX9_turns_14 rfl ?_
    refine g_iload_n C rfl dX9_turns_17 rfl ?_
    have hs2 := h.1
    replace h := h.2
    refine g_ialdx (k := 7) (j := a1.toNatClampNeg) (x := (f 7 a1.toNatClampNeg)) C rfl hs2 rfl rfl dX9_turns_18 rfl ?_
    refine g_if_ne (tgt := 28) C dX9_turns_19 (by decide) rfl (fun hc3 => ?_) (fun hc3 => ?_)
    · replace h := h.1 hc3
      refine g_iconst C ki_0 dX9_turns_28 rfl ?_
      refine g_istore_n (lv' := [(2, .int (0 : Int32)), (0, .ref (zad Z 0)), (1, .int a1)]) C dX9_turns_29 (by decide) rfl rfl ?_
      refine g_lps [0, 1, 2] rfl ?_
      exact wk_X9_turns_L30 V_l1 V_l2 V_m1 V_m2  C    _ _ _ h
    · replace h := h.2 hc3
      refine g_aload_n C rfl dX9_turns_22 rfl ?_
      refine g_iconst C ki_2 dX9_turns_23 rfl ?_
      have hs13 := h.1
      replace h := h.2
      refine g_callVI C tw_881 tw_883 tp_15 tw_10 tw_884 hy_X9_finds (by decide) (by decide) rfl (Nat.le_of_ble_eq_true rfl) rfl rfl (ct_X9_finds V_l1 V_l2 V_m1   f (2 : Int32) hs13) dX9_turns_24 rfl rfl (fun r14 f15 hp16 => ?_)
      replace h := h r14 f15 hp16
      exact g_iret C dX9_turns_27 h
  · replace h := h.2 hc1
    refine g_aload_n C rfl dX9_turns_7 rfl ?_
    refine g_iconst C ki_1 dX9_turns_8 rfl ?_
    have hs17 := h.1
    replace h := h.2
    refine g_callVI C tw_881 tw_883 tp_15 tw_10 tw_884 hy_X9_finds (by decide) (by decide) rfl (Nat.le_of_ble_eq_true rfl) rfl rfl (ct_X9_finds V_l1 V_l2 V_m1   f (1 : Int32) hs17) dX9_turns_9 rfl rfl (fun r18 f19 hp20 => ?_)
    replace h := h r18 f19 hp20
    exact g_iret C dX9_turns_12 h
set_option maxRecDepth 100000 in
theorem ct_X9_turns (V_l1 : VC_l1) (V_l2 : VC_l2) (V_m1 : VC_m1) (V_m2 : VC_m2) {l : Launch} {E : Ev}   (f : Fn) (a1 : Int32) (hpre : Pre_X9_turns f a1) : CT l E layM yX9_turns cX9_turns 3 (some .int) 2 [.ref (E.2.1 0), .int a1] f (pI (Post_X9_turns f a1)) := by
  refine CT.of (by decide +kernel) (Nat.le_of_ble_eq_true rfl) (fun Z hl9 hE9 hp9 C => ?_)
  subst hl9
  subst hE9
  exact wk_X9_turns V_l1 V_l2 V_m1 V_m2 C   f a1 (by rw [hp9]; exact V_m2.2.2.2.2.2.2.2.2.2.2.2.2.2.2.2.2.1  f a1  hpre)
set_option maxHeartbeats 4000000 in
set_option maxRecDepth 100000 in
theorem wk_X9_judge_L76 (V_l1 : VC_l1) (V_l2 : VC_l2) (V_m1 : VC_m1) (V_m2 : VC_m2) {Z : Zt}  (C : CX Z layM RX9 cX9_judge 3 (some .int) 2)     (f : Fn) (x1 : Int32) (x2 : Int32) (h : wp_X9_judge_L76   f x1 x2 (zp Z)) : GG Z f [(0, .ref (zad Z 0)), (1, .int x1), (2, .int x2)] 76 [] := by
  refine g_iload_n C rfl dX9_judge_76 rfl ?_
  refine g_aload_n C rfl dX9_judge_77 rfl ?_
  refine fg_X9_35R (k := 0) (p := 8) C rfl rfl dX9_judge_78 rfl ?_
  refine g_iload_n C rfl dX9_judge_81 rfl ?_
  have hs6 := h.1
  replace h := h.2
  refine g_ialdx (k := 8) (j := x1.toNatClampNeg) (x := (f 8 x1.toNatClampNeg)) C rfl hs6 rfl rfl dX9_judge_82 rfl ?_
  refine g_icmp_ne (tgt := 100) C dX9_judge_83 (by decide) rfl (fun hc7 => ?_) (fun hc7 => ?_)
  · replace h := h.1 hc7
    refine g_iload_n C rfl dX9_judge_100 rfl ?_
    exact g_iret C dX9_judge_101 h
  · replace h := h.2 hc7
    refine g_iload_n C rfl dX9_judge_86 rfl ?_
    refine g_aload_n C rfl dX9_judge_87 rfl ?_
    refine fg_X9_7R (k := 0) (p := 1) C rfl rfl dX9_judge_88 rfl ?_
    refine g_iconst C ki_0 dX9_judge_91 rfl ?_
    refine g_ialdx (k := 1) (j := 0) (x := (f 1 0)) C rfl vi_0_264 kc_0 rfl dX9_judge_92 rfl ?_
    refine g_icmp_ne (tgt := 100) C dX9_judge_93 (by decide) rfl (fun hc8 => ?_) (fun hc8 => ?_)
    · replace h := h.1 hc8
      refine g_iload_n C rfl dX9_judge_100 rfl ?_
      exact g_iret C dX9_judge_101 h
    · replace h := h.2 hc8
      refine g_iconst C ki_m1 dX9_judge_96 rfl ?_
      refine g_goto (q := 101) C dX9_judge_97 (by decide) ?_
      exact g_iret C dX9_judge_101 h
set_option maxHeartbeats 4000000 in
set_option maxRecDepth 100000 in
theorem wkb_X9_judge_L30 (V_l1 : VC_l1) (V_l2 : VC_l2) (V_m1 : VC_m1) (V_m2 : VC_m2) {Z : Zt}  (C : CX Z layM RX9 cX9_judge 3 (some .int) 2)   {K30 : Fn → Int32 → Int32 → Prop} (hK30 : ∀ (f : Fn) (x1 : Int32) (x2 : Int32), K30 f x1 x2 → GG Z f [(0, .ref (zad Z 0)), (1, .int x1), (2, .int x2)] 30 []) (f : Fn) (x1 : Int32) (x2 : Int32) (h : wpb_X9_judge_L30   K30 f x1 x2 (zp Z)) : GG Z f [(0, .ref (zad Z 0)), (1, .int x1), (2, .int x2)] 30 [] := by
  refine g_iload_n C rfl dX9_judge_30 rfl ?_
  refine g_aload_n C rfl dX9_judge_31 rfl ?_
  refine fg_X9_35R (k := 0) (p := 8) C rfl rfl dX9_judge_32 rfl ?_
  refine g_iload_n C rfl dX9_judge_35 rfl ?_
  have hs4 := h.1
  replace h := h.2
  refine g_ialdx (k := 8) (j := x1.toNatClampNeg) (x := (f 8 x1.toNatClampNeg)) C rfl hs4 rfl rfl dX9_judge_36 rfl ?_
  refine g_icmp_ge (tgt := 76) C dX9_judge_37 (by decide) rfl (fun hc5 => ?_) (fun hc5 => ?_)
  · replace h := h.1 hc5
    exact wk_X9_judge_L76 V_l1 V_l2 V_m1 V_m2  C    _ _ _ h
  · replace h := h.2 hc5
    refine g_iload_n C rfl dX9_judge_40 rfl ?_
    refine g_aload_n C rfl dX9_judge_41 rfl ?_
    refine fg_X9_7R (k := 0) (p := 1) C rfl rfl dX9_judge_42 rfl ?_
    refine g_iconst C ki_0 dX9_judge_45 rfl ?_
    refine g_ialdx (k := 1) (j := 0) (x := (f 1 0)) C rfl vi_0_264 kc_0 rfl dX9_judge_46 rfl ?_
    refine g_icmp_ge (tgt := 76) C dX9_judge_47 (by decide) rfl (fun hc9 => ?_) (fun hc9 => ?_)
    · replace h := h.1 hc9
      exact wk_X9_judge_L76 V_l1 V_l2 V_m1 V_m2  C    _ _ _ h
    · replace h := h.2 hc9
      refine g_aload_n C rfl dX9_judge_50 rfl ?_
      refine fg_X9_38R (k := 0) (p := 9) C rfl rfl dX9_judge_51 rfl ?_
      refine g_bipush C kb_40 dX9_judge_54 rfl ?_
      refine g_iload_n C rfl dX9_judge_56 rfl ?_
      refine g_imul C dX9_judge_57 rfl ?_
      refine g_iload_n C rfl dX9_judge_58 rfl ?_
      refine g_iadd C dX9_judge_59 rfl ?_
      have hs10 := h.1
      replace h := h.2
      refine g_ialdx (k := 9) (j := (((40 : Int32) * x1) + x2).toNatClampNeg) (x := (f 9 (((40 : Int32) * x1) + x2).toNatClampNeg)) C rfl hs10 rfl rfl dX9_judge_60 rfl ?_
      refine g_aload_n C rfl dX9_judge_61 rfl ?_
      refine g_iload_n C rfl dX9_judge_62 rfl ?_
      refine g_iconst C ki_3 dX9_judge_63 rfl ?_
      have hs11 := h.1
      replace h := h.2
      refine g_callVD C tw_997 tw_999 tp_31 tw_10 tw_1000 hy_X9_of (by decide) (by decide) rfl (Nat.le_of_ble_eq_true rfl) rfl rfl (ct_X9_of V_l1 V_l2 V_m1   f x2 (3 : Int32) hs11) dX9_judge_64 rfl rfl ?_
      refine g_icmp_ne (tgt := 76) C dX9_judge_67 (by decide) rfl (fun hc12 => ?_) (fun hc12 => ?_)
      · replace h := h.1 hc12
        exact wk_X9_judge_L76 V_l1 V_l2 V_m1 V_m2  C    _ _ _ h
      · replace h := h.2 hc12
        refine g_iinc (lv' := [(2, .int (x2 + (1 : Int32))), (0, .ref (zad Z 0)), (1, .int x1)]) C dX9_judge_70 rfl (inc_1 _) (by decide) rfl rfl ?_
        refine g_goto (q := 30) C dX9_judge_73 (by decide) ?_
        refine g_lps [0, 1, 2] rfl ?_
        exact hK30 _ _ _ h
set_option maxHeartbeats 4000000 in
set_option maxRecDepth 100000 in
theorem wk_X9_judge_L30 (V_l1 : VC_l1) (V_l2 : VC_l2) (V_m1 : VC_m1) (V_m2 : VC_m2) {Z : Zt}  (C : CX Z layM RX9 cX9_judge 3 (some .int) 2)     (f : Fn) (x1 : Int32) (x2 : Int32) (h : wp_X9_judge_L30   f x1 x2 (zp Z)) : GG Z f [(0, .ref (zad Z 0)), (1, .int x1), (2, .int x2)] 30 [] := by
  obtain ⟨I, μ, h0, hs⟩ := h
  suffices H : ∀ (N : Nat) (f : Fn) (x1 : Int32) (x2 : Int32), μ f x1 x2 < N → I f x1 x2 → GG Z f [(0, .ref (zad Z 0)), (1, .int x1), (2, .int x2)] 30 [] from H _ f x1 x2 (Nat.lt_succ_self _) h0
  clear h0
  intro N
  induction N with
  | zero => intro f x1 x2 hm; exact absurd hm (Nat.not_lt_zero _)
  | succ N ih =>
    intro f x1 x2 hm hi
    exact wkb_X9_judge_L30 V_l1 V_l2 V_m1 V_m2  C    (fun f9 x19 x29 hk => ih f9 x19 x29 (Nat.lt_of_lt_of_le hk.2 (Nat.le_of_lt_succ hm)) hk.1) f x1 x2 (hs f x1 x2 hi)
set_option maxHeartbeats 4000000 in
set_option maxRecDepth 100000 in
theorem wk_X9_judge (V_l1 : VC_l1) (V_l2 : VC_l2) (V_m1 : VC_m1) (V_m2 : VC_m2) {Z : Zt}  (C : CX Z layM RX9 cX9_judge 3 (some .int) 2)     (f : Fn) (a1 : Int32) (h : wp_X9_judge  f a1 (zp Z)) : GG Z f [(0, .ref (zad Z 0)), (1, .int a1)] 0 [] := by
  refine g_iload_n C rfl dX9_judge_0 rfl ?_
  refine g_callSD C tw_1155 tw_1156 tw_10 tw_1157 hy_X9_isSheet (by decide) (by decide) rfl (Nat.le_of_ble_eq_true rfl) (ct_X9_isSheet V_l1 V_l2 V_m1 V_m2   f a1 ) dX9_judge_1 rfl rfl ?_
  refine g_if_ne (tgt := 13) C dX9_judge_4 (by decide) rfl (fun hc1 => ?_) (fun hc1 => ?_)
  · replace h := h.1 hc1
    refine g_aload_n C rfl dX9_judge_13 rfl ?_
    refine fg_X9_32R (k := 0) (p := 7) C rfl rfl dX9_judge_14 rfl ?_
    refine g_iload_n C rfl dX9_judge_17 rfl ?_
    have hs2 := h.1
    replace h := h.2
    refine g_ialdx (k := 7) (j := a1.toNatClampNeg) (x := (f 7 a1.toNatClampNeg)) C rfl hs2 rfl rfl dX9_judge_18 rfl ?_
    refine g_if_ne (tgt := 28) C dX9_judge_19 (by decide) rfl (fun hc3 => ?_) (fun hc3 => ?_)
    · replace h := h.1 hc3
      refine g_iconst C ki_0 dX9_judge_28 rfl ?_
      refine g_istore_n (lv' := [(2, .int (0 : Int32)), (0, .ref (zad Z 0)), (1, .int a1)]) C dX9_judge_29 (by decide) rfl rfl ?_
      refine g_lps [0, 1, 2] rfl ?_
      exact wk_X9_judge_L30 V_l1 V_l2 V_m1 V_m2  C    _ _ _ h
    · replace h := h.2 hc3
      refine g_aload_n C rfl dX9_judge_22 rfl ?_
      refine g_iconst C ki_2 dX9_judge_23 rfl ?_
      have hs13 := h.1
      replace h := h.2
      refine g_callVI C tw_881 tw_883 tp_15 tw_10 tw_884 hy_X9_finds (by decide) (by decide) rfl (Nat.le_of_ble_eq_true rfl) rfl rfl (ct_X9_finds V_l1 V_l2 V_m1   f (2 : Int32) hs13) dX9_judge_24 rfl rfl (fun r14 f15 hp16 => ?_)
      replace h := h r14 f15 hp16
      exact g_iret C dX9_judge_27 h
  · replace h := h.2 hc1
    refine g_aload_n C rfl dX9_judge_7 rfl ?_
    refine g_iconst C ki_1 dX9_judge_8 rfl ?_
    have hs17 := h.1
    replace h := h.2
    refine g_callVI C tw_881 tw_883 tp_15 tw_10 tw_884 hy_X9_finds (by decide) (by decide) rfl (Nat.le_of_ble_eq_true rfl) rfl rfl (ct_X9_finds V_l1 V_l2 V_m1   f (1 : Int32) hs17) dX9_judge_9 rfl rfl (fun r18 f19 hp20 => ?_)
    replace h := h r18 f19 hp20
    exact g_iret C dX9_judge_12 h
set_option maxRecDepth 100000 in
theorem ct_X9_judge (V_l1 : VC_l1) (V_l2 : VC_l2) (V_m1 : VC_m1) (V_m2 : VC_m2) {l : Launch} {E : Ev}   (f : Fn) (a1 : Int32) (hpre : Pre_X9_judge f a1) : CT l E layM yX9_judge cX9_judge 3 (some .int) 2 [.ref (E.2.1 0), .int a1] f (pI (Post_X9_judge f a1)) := by
  refine CT.of (by decide +kernel) (Nat.le_of_ble_eq_true rfl) (fun Z hl9 hE9 hp9 C => ?_)
  subst hl9
  subst hE9
  exact wk_X9_judge V_l1 V_l2 V_m1 V_m2 C   f a1 (by rw [hp9]; exact V_m2.2.2.2.2.2.2.2.2.2.2.2.2.2.2.2.2.2.1  f a1  hpre)
set_option maxHeartbeats 4000000 in
set_option maxRecDepth 100000 in
theorem wkb_X9_image_L2 (V_l1 : VC_l1) (V_l2 : VC_l2) (V_m1 : VC_m1) (V_m2 : VC_m2) {Z : Zt}  (C : CX Z layM RX9 cX9_image 2 (some .int) 0)   {K2 : Fn → Int32 → Prop} (hK2 : ∀ (f : Fn) (x1 : Int32), K2 f x1 → GG Z f [(0, .ref (zad Z 0)), (1, .int x1)] 2 []) (f : Fn) (x1 : Int32) (h : wpb_X9_image_L2   K2 f x1 (zp Z)) : GG Z f [(0, .ref (zad Z 0)), (1, .int x1)] 2 [] := by
  refine g_iload_n C rfl dX9_image_2 rfl ?_
  refine g_sipush C ks_264 dX9_image_3 rfl ?_
  refine g_icmp_ge (tgt := 27) C dX9_image_6 (by decide) rfl (fun hc1 => ?_) (fun hc1 => ?_)
  · replace h := h.1 hc1
    refine g_aload_n C rfl dX9_image_27 rfl ?_
    refine g_dup C rfl dX9_image_28 rfl ?_
    refine fg_X9_293I (k := 0) (x := (f 0 2)) C rfl rfl rfl dX9_image_29 rfl ?_
    refine g_iconst C ki_1 dX9_image_32 rfl ?_
    refine g_iadd C dX9_image_33 rfl ?_
    refine fp_X9_293 (k := 0) C rfl rfl (Nat.le_of_ble_eq_true rfl) dX9_image_34 rfl ?_
    refine g_aload_n C rfl dX9_image_37 rfl ?_
    refine fg_X9_293I (k := 0) (x := ((f 0 2) + (1 : Int32))) C rfl rfl (by simp [up2, upd]) dX9_image_38 rfl ?_
    exact g_iret C dX9_image_41 h
  · replace h := h.2 hc1
    refine g_aload_n C rfl dX9_image_9 rfl ?_
    refine fg_X9_13R (k := 0) (p := 2) C rfl rfl dX9_image_10 rfl ?_
    refine g_iload_n C rfl dX9_image_13 rfl ?_
    refine g_aload_n C rfl dX9_image_14 rfl ?_
    refine fg_X9_7R (k := 0) (p := 1) C rfl rfl dX9_image_15 rfl ?_
    refine g_iload_n C rfl dX9_image_18 rfl ?_
    have hs2 := h.1
    replace h := h.2
    refine g_ialdx (k := 1) (j := x1.toNatClampNeg) (x := (f 1 x1.toNatClampNeg)) C rfl hs2 rfl rfl dX9_image_19 rfl ?_
    have hs3 := h.1
    replace h := h.2
    refine g_iastx (k := 2) (j := x1.toNatClampNeg) C rfl hs3 rfl dX9_image_20 rfl ?_
    refine g_iinc (lv' := [(1, .int (x1 + (1 : Int32))), (0, .ref (zad Z 0))]) C dX9_image_21 rfl (inc_1 _) (by decide) rfl rfl ?_
    refine g_goto (q := 2) C dX9_image_24 (by decide) ?_
    refine g_lps [0, 1] rfl ?_
    exact hK2 _ _ h
set_option maxHeartbeats 4000000 in
set_option maxRecDepth 100000 in
theorem wk_X9_image_L2 (V_l1 : VC_l1) (V_l2 : VC_l2) (V_m1 : VC_m1) (V_m2 : VC_m2) {Z : Zt}  (C : CX Z layM RX9 cX9_image 2 (some .int) 0)     (f : Fn) (x1 : Int32) (h : wp_X9_image_L2   f x1 (zp Z)) : GG Z f [(0, .ref (zad Z 0)), (1, .int x1)] 2 [] := by
  obtain ⟨I, μ, h0, hs⟩ := h
  suffices H : ∀ (N : Nat) (f : Fn) (x1 : Int32), μ f x1 < N → I f x1 → GG Z f [(0, .ref (zad Z 0)), (1, .int x1)] 2 [] from H _ f x1 (Nat.lt_succ_self _) h0
  clear h0
  intro N
  induction N with
  | zero => intro f x1 hm; exact absurd hm (Nat.not_lt_zero _)
  | succ N ih =>
    intro f x1 hm hi
    exact wkb_X9_image_L2 V_l1 V_l2 V_m1 V_m2  C    (fun f9 x19 hk => ih f9 x19 (Nat.lt_of_lt_of_le hk.2 (Nat.le_of_lt_succ hm)) hk.1) f x1 (hs f x1 hi)
set_option maxHeartbeats 4000000 in
set_option maxRecDepth 100000 in
theorem wk_X9_image (V_l1 : VC_l1) (V_l2 : VC_l2) (V_m1 : VC_m1) (V_m2 : VC_m2) {Z : Zt}  (C : CX Z layM RX9 cX9_image 2 (some .int) 0)     (f : Fn)  (h : wp_X9_image  f  (zp Z)) : GG Z f [(0, .ref (zad Z 0))] 0 [] := by
  refine g_iconst C ki_0 dX9_image_0 rfl ?_
  refine g_istore_n (lv' := [(1, .int (0 : Int32)), (0, .ref (zad Z 0))]) C dX9_image_1 (by decide) rfl rfl ?_
  refine g_lps [0, 1] rfl ?_
  exact wk_X9_image_L2 V_l1 V_l2 V_m1 V_m2  C    _ _ h
set_option maxRecDepth 100000 in
theorem ct_X9_image (V_l1 : VC_l1) (V_l2 : VC_l2) (V_m1 : VC_m1) (V_m2 : VC_m2) {l : Launch} {E : Ev}   (f : Fn)  (hpre : Pre_X9_image f) : CT l E layM yX9_image cX9_image 2 (some .int) 0 [.ref (E.2.1 0)] f (pI (Post_X9_image f)) := by
  refine CT.of (by decide +kernel) (Nat.le_of_ble_eq_true rfl) (fun Z hl9 hE9 hp9 C => ?_)
  subst hl9
  subst hE9
  exact wk_X9_image V_l1 V_l2 V_m1 V_m2 C   f  (by rw [hp9]; exact V_m2.2.2.2.2.2.2.2.2.2.2.2.2.2.2.2.2.2.2.1  f   hpre)
set_option maxHeartbeats 4000000 in
set_option maxRecDepth 100000 in
theorem wkb_X9_restore_L15 (V_l1 : VC_l1) (V_l2 : VC_l2) (V_m1 : VC_m1) (V_m2 : VC_m2) {Z : Zt}  (C : CX Z layM RX9 cX9_restore 2 (some .int) 1)   {K15 : Fn → Int32 → Prop} (hK15 : ∀ (f : Fn) (x1 : Int32), K15 f x1 → GG Z f [(0, .ref (zad Z 0)), (1, .int x1)] 15 []) (f : Fn) (x1 : Int32) (h : wpb_X9_restore_L15   K15 f x1 (zp Z)) : GG Z f [(0, .ref (zad Z 0)), (1, .int x1)] 15 [] := by
  refine g_iload_n C rfl dX9_restore_15 rfl ?_
  refine g_sipush C ks_264 dX9_restore_16 rfl ?_
  refine g_icmp_ge (tgt := 40) C dX9_restore_19 (by decide) rfl (fun hc2 => ?_) (fun hc2 => ?_)
  · replace h := h.1 hc2
    refine g_aload_n C rfl dX9_restore_40 rfl ?_
    refine fg_X9_7R (k := 0) (p := 1) C rfl rfl dX9_restore_41 rfl ?_
    refine g_iconst C ki_1 dX9_restore_44 rfl ?_
    refine g_ialdx (k := 1) (j := 1) (x := (f 1 1)) C rfl vi_1_264 kc_1 rfl dX9_restore_45 rfl ?_
    exact g_iret C dX9_restore_46 h
  · replace h := h.2 hc2
    refine g_aload_n C rfl dX9_restore_22 rfl ?_
    refine fg_X9_7R (k := 0) (p := 1) C rfl rfl dX9_restore_23 rfl ?_
    refine g_iload_n C rfl dX9_restore_26 rfl ?_
    refine g_aload_n C rfl dX9_restore_27 rfl ?_
    refine fg_X9_13R (k := 0) (p := 2) C rfl rfl dX9_restore_28 rfl ?_
    refine g_iload_n C rfl dX9_restore_31 rfl ?_
    have hs3 := h.1
    replace h := h.2
    refine g_ialdx (k := 2) (j := x1.toNatClampNeg) (x := (f 2 x1.toNatClampNeg)) C rfl hs3 rfl rfl dX9_restore_32 rfl ?_
    have hs4 := h.1
    replace h := h.2
    refine g_iastx (k := 1) (j := x1.toNatClampNeg) C rfl hs4 rfl dX9_restore_33 rfl ?_
    refine g_iinc (lv' := [(1, .int (x1 + (1 : Int32))), (0, .ref (zad Z 0))]) C dX9_restore_34 rfl (inc_1 _) (by decide) rfl rfl ?_
    refine g_goto (q := 15) C dX9_restore_37 (by decide) ?_
    refine g_lps [0, 1] rfl ?_
    exact hK15 _ _ h
set_option maxHeartbeats 4000000 in
set_option maxRecDepth 100000 in
theorem wk_X9_restore_L15 (V_l1 : VC_l1) (V_l2 : VC_l2) (V_m1 : VC_m1) (V_m2 : VC_m2) {Z : Zt}  (C : CX Z layM RX9 cX9_restore 2 (some .int) 1)     (f : Fn) (x1 : Int32) (h : wp_X9_restore_L15   f x1 (zp Z)) : GG Z f [(0, .ref (zad Z 0)), (1, .int x1)] 15 [] := by
  obtain ⟨I, μ, h0, hs⟩ := h
  suffices H : ∀ (N : Nat) (f : Fn) (x1 : Int32), μ f x1 < N → I f x1 → GG Z f [(0, .ref (zad Z 0)), (1, .int x1)] 15 [] from H _ f x1 (Nat.lt_succ_self _) h0
  clear h0
  intro N
  induction N with
  | zero => intro f x1 hm; exact absurd hm (Nat.not_lt_zero _)
  | succ N ih =>
    intro f x1 hm hi
    exact wkb_X9_restore_L15 V_l1 V_l2 V_m1 V_m2  C    (fun f9 x19 hk => ih f9 x19 (Nat.lt_of_lt_of_le hk.2 (Nat.le_of_lt_succ hm)) hk.1) f x1 (hs f x1 hi)
set_option maxHeartbeats 4000000 in
set_option maxRecDepth 100000 in
theorem wk_X9_restore (V_l1 : VC_l1) (V_l2 : VC_l2) (V_m1 : VC_m1) (V_m2 : VC_m2) {Z : Zt}  (C : CX Z layM RX9 cX9_restore 2 (some .int) 1)     (f : Fn)  (h : wp_X9_restore  f  (zp Z)) : GG Z f [(0, .ref (zad Z 0))] 0 [] := by
  refine g_aload_n C rfl dX9_restore_0 rfl ?_
  refine fg_X9_293I (k := 0) (x := (f 0 2)) C rfl rfl rfl dX9_restore_1 rfl ?_
  refine g_if_ne (tgt := 13) C dX9_restore_4 (by decide) rfl (fun hc1 => ?_) (fun hc1 => ?_)
  · replace h := h.1 hc1
    refine g_iconst C ki_0 dX9_restore_13 rfl ?_
    refine g_istore_n (lv' := [(1, .int (0 : Int32)), (0, .ref (zad Z 0))]) C dX9_restore_14 (by decide) rfl rfl ?_
    refine g_lps [0, 1] rfl ?_
    exact wk_X9_restore_L15 V_l1 V_l2 V_m1 V_m2  C    _ _ h
  · replace h := h.2 hc1
    refine g_aload_n C rfl dX9_restore_7 rfl ?_
    refine g_iconst C ki_2 dX9_restore_8 rfl ?_
    have hs5 := h.1
    replace h := h.2
    refine g_callVI C tw_881 tw_883 tp_15 tw_10 tw_884 hy_X9_finds (by decide) (by decide) rfl (Nat.le_of_ble_eq_true rfl) rfl rfl (ct_X9_finds V_l1 V_l2 V_m1   f (2 : Int32) hs5) dX9_restore_9 rfl rfl (fun r6 f7 hp8 => ?_)
    replace h := h r6 f7 hp8
    exact g_iret C dX9_restore_12 h
set_option maxRecDepth 100000 in
theorem ct_X9_restore (V_l1 : VC_l1) (V_l2 : VC_l2) (V_m1 : VC_m1) (V_m2 : VC_m2) {l : Launch} {E : Ev}   (f : Fn)  (hpre : Pre_X9_restore f) : CT l E layM yX9_restore cX9_restore 2 (some .int) 1 [.ref (E.2.1 0)] f (pI (Post_X9_restore f)) := by
  refine CT.of (by decide +kernel) (Nat.le_of_ble_eq_true rfl) (fun Z hl9 hE9 hp9 C => ?_)
  subst hl9
  subst hE9
  exact wk_X9_restore V_l1 V_l2 V_m1 V_m2 C   f  (by rw [hp9]; exact V_m2.2.2.2.2.2.2.2.2.2.2.2.2.2.2.2.2.2.2.2.1  f   hpre)
set_option maxHeartbeats 4000000 in
set_option maxRecDepth 100000 in
theorem wk_X9_tell (V_l1 : VC_l1) (V_l2 : VC_l2) (V_m1 : VC_m1) (V_m2 : VC_m2) {Z : Zt}  (C : CX Z layM RX9 cX9_tell 2 (some .int) 1)     (f : Fn) (a1 : Int32) (h : wp_X9_tell  f a1 (zp Z)) : GG Z f [(0, .ref (zad Z 0)), (1, .int a1)] 0 [] := by
  refine g_aload_n C rfl dX9_tell_0 rfl ?_
  refine fg_X9_7R (k := 0) (p := 1) C rfl rfl dX9_tell_1 rfl ?_
  refine g_bipush C kb_10 dX9_tell_4 rfl ?_
  refine g_ialdx (k := 1) (j := 10) (x := (f 1 10)) C rfl vi_10_264 kc_10 rfl dX9_tell_6 rfl ?_
  refine g_bipush C kb_20 dX9_tell_7 rfl ?_
  refine g_icmp_ne (tgt := 18) C dX9_tell_9 (by decide) rfl (fun hc1 => ?_) (fun hc1 => ?_)
  · replace h := h.1 hc1
    refine g_aload_n C rfl dX9_tell_18 rfl ?_
    refine fg_X9_7R (k := 0) (p := 1) C rfl rfl dX9_tell_19 rfl ?_
    refine g_bipush C kb_92 dX9_tell_22 rfl ?_
    refine g_aload_n C rfl dX9_tell_24 rfl ?_
    refine fg_X9_7R (k := 0) (p := 1) C rfl rfl dX9_tell_25 rfl ?_
    refine g_bipush C kb_10 dX9_tell_28 rfl ?_
    refine g_ialdx (k := 1) (j := 10) (x := (f 1 10)) C rfl vi_10_264 kc_10 rfl dX9_tell_30 rfl ?_
    refine g_iadd C dX9_tell_31 rfl ?_
    refine g_iload_n C rfl dX9_tell_32 rfl ?_
    have hs2 := h.1
    replace h := h.2
    refine g_iastx (k := 1) (j := ((92 : Int32) + (f 1 10)).toNatClampNeg) C rfl hs2 rfl dX9_tell_33 rfl ?_
    refine g_aload_n C rfl dX9_tell_34 rfl ?_
    refine fg_X9_7R (k := 0) (p := 1) C rfl rfl dX9_tell_35 rfl ?_
    refine g_bipush C kb_10 dX9_tell_38 rfl ?_
    refine g_dup2 C rfl rfl dX9_tell_40 rfl ?_
    refine g_ialdx (k := 1) (j := 10) (x := ((up2 f 1 ((92 : Int32) + (f 1 10)).toNatClampNeg a1) 1 10)) C rfl vi_10_264 kc_10 rfl dX9_tell_41 rfl ?_
    refine g_iconst C ki_1 dX9_tell_42 rfl ?_
    refine g_iadd C dX9_tell_43 rfl ?_
    refine g_iastx (k := 1) (j := 10) C rfl vi_10_264 kc_10 dX9_tell_44 rfl ?_
    refine g_aload_n C rfl dX9_tell_45 rfl ?_
    refine fg_X9_7R (k := 0) (p := 1) C rfl rfl dX9_tell_46 rfl ?_
    refine g_bipush C kb_10 dX9_tell_49 rfl ?_
    refine g_ialdx (k := 1) (j := 10) (x := (((up2 f 1 ((92 : Int32) + (f 1 10)).toNatClampNeg a1) 1 10) + (1 : Int32))) C rfl vi_10_264 kc_10 (by simp [up2, upd]) dX9_tell_51 rfl ?_
    exact g_iret C dX9_tell_52 h
  · replace h := h.2 hc1
    refine g_aload_n C rfl dX9_tell_12 rfl ?_
    refine g_iconst C ki_4 dX9_tell_13 rfl ?_
    have hs3 := h.1
    replace h := h.2
    refine g_callVI C tw_881 tw_883 tp_15 tw_10 tw_884 hy_X9_finds (by decide) (by decide) rfl (Nat.le_of_ble_eq_true rfl) rfl rfl (ct_X9_finds V_l1 V_l2 V_m1   f (4 : Int32) hs3) dX9_tell_14 rfl rfl (fun r4 f5 hp6 => ?_)
    replace h := h r4 f5 hp6
    exact g_iret C dX9_tell_17 h
set_option maxRecDepth 100000 in
theorem ct_X9_tell (V_l1 : VC_l1) (V_l2 : VC_l2) (V_m1 : VC_m1) (V_m2 : VC_m2) {l : Launch} {E : Ev}   (f : Fn) (a1 : Int32) (hpre : Pre_X9_tell f a1) : CT l E layM yX9_tell cX9_tell 2 (some .int) 1 [.ref (E.2.1 0), .int a1] f (pI (Post_X9_tell f a1)) := by
  refine CT.of (by decide +kernel) (Nat.le_of_ble_eq_true rfl) (fun Z hl9 hE9 hp9 C => ?_)
  subst hl9
  subst hE9
  exact wk_X9_tell V_l1 V_l2 V_m1 V_m2 C   f a1 (by rw [hp9]; exact V_m2.2.2.2.2.2.2.2.2.2.2.2.2.2.2.2.2.2.2.2.2.1  f a1  hpre)
set_option maxHeartbeats 4000000 in
set_option maxRecDepth 100000 in
theorem wkb_X9_check_L18 (V_l1 : VC_l1) (V_l2 : VC_l2) (V_m1 : VC_m1) (V_m2 : VC_m2) {Z : Zt}  (C : CX Z layM RX9 cX9_check 3 (some .int) 1)   {K18 : Fn → Int32 → Int32 → Prop} (hK18 : ∀ (f : Fn) (x1 : Int32) (x2 : Int32), K18 f x1 x2 → GG Z f [(0, .ref (zad Z 0)), (1, .int x1), (2, .int x2)] 18 []) (f : Fn) (x1 : Int32) (x2 : Int32) (h : wpb_X9_check_L18   K18 f x1 x2 (zp Z)) : GG Z f [(0, .ref (zad Z 0)), (1, .int x1), (2, .int x2)] 18 [] := by
  refine g_iload_n C rfl dX9_check_18 rfl ?_
  refine g_iload_n C rfl dX9_check_19 rfl ?_
  refine g_icmp_ge (tgt := 58) C dX9_check_20 (by decide) rfl (fun hc1 => ?_) (fun hc1 => ?_)
  · replace h := h.1 hc1
    refine g_iconst C ki_0 dX9_check_58 rfl ?_
    exact g_iret C dX9_check_59 h
  · replace h := h.2 hc1
    refine g_aload_n C rfl dX9_check_23 rfl ?_
    refine fg_X9_7R (k := 0) (p := 1) C rfl rfl dX9_check_24 rfl ?_
    refine g_bipush C kb_92 dX9_check_27 rfl ?_
    refine g_iload_n C rfl dX9_check_29 rfl ?_
    refine g_iadd C dX9_check_30 rfl ?_
    have hs2 := h.1
    replace h := h.2
    refine g_ialdx (k := 1) (j := ((92 : Int32) + x2).toNatClampNeg) (x := (f 1 ((92 : Int32) + x2).toNatClampNeg)) C rfl hs2 rfl rfl dX9_check_31 rfl ?_
    refine g_aload_n C rfl dX9_check_32 rfl ?_
    refine g_iconst C ki_0 dX9_check_33 rfl ?_
    refine g_aload_n C rfl dX9_check_34 rfl ?_
    refine fg_X9_7R (k := 0) (p := 1) C rfl rfl dX9_check_35 rfl ?_
    refine g_iconst C ki_1 dX9_check_38 rfl ?_
    refine g_ialdx (k := 1) (j := 1) (x := (f 1 1)) C rfl vi_1_264 kc_1 rfl dX9_check_39 rfl ?_
    refine g_iload_n C rfl dX9_check_40 rfl ?_
    refine g_iadd C dX9_check_41 rfl ?_
    have hs3 := h.1
    replace h := h.2
    refine g_callVD C tw_963 tw_965 tp_27 tw_10 tw_966 hy_X9_barOf (by decide) (by decide) rfl (Nat.le_of_ble_eq_true rfl) rfl rfl (ct_X9_barOf V_l1 V_l2 V_m1   f (0 : Int32) ((f 1 1) + x2) hs3) dX9_check_42 rfl rfl ?_
    refine g_icmp_eq (tgt := 52) C dX9_check_45 (by decide) rfl (fun hc4 => ?_) (fun hc4 => ?_)
    · replace h := h.1 hc4
      refine g_iinc (lv' := [(2, .int (x2 + (1 : Int32))), (0, .ref (zad Z 0)), (1, .int x1)]) C dX9_check_52 rfl (inc_1 _) (by decide) rfl rfl ?_
      refine g_goto (q := 18) C dX9_check_55 (by decide) ?_
      refine g_lps [0, 1, 2] rfl ?_
      exact hK18 _ _ _ h
    · replace h := h.2 hc4
      refine g_iconst C ki_1 dX9_check_48 rfl ?_
      refine g_iload_n C rfl dX9_check_49 rfl ?_
      refine g_iadd C dX9_check_50 rfl ?_
      exact g_iret C dX9_check_51 h
set_option maxHeartbeats 4000000 in
set_option maxRecDepth 100000 in
theorem wk_X9_check_L18 (V_l1 : VC_l1) (V_l2 : VC_l2) (V_m1 : VC_m1) (V_m2 : VC_m2) {Z : Zt}  (C : CX Z layM RX9 cX9_check 3 (some .int) 1)     (f : Fn) (x1 : Int32) (x2 : Int32) (h : wp_X9_check_L18   f x1 x2 (zp Z)) : GG Z f [(0, .ref (zad Z 0)), (1, .int x1), (2, .int x2)] 18 [] := by
  obtain ⟨I, μ, h0, hs⟩ := h
  suffices H : ∀ (N : Nat) (f : Fn) (x1 : Int32) (x2 : Int32), μ f x1 x2 < N → I f x1 x2 → GG Z f [(0, .ref (zad Z 0)), (1, .int x1), (2, .int x2)] 18 [] from H _ f x1 x2 (Nat.lt_succ_self _) h0
  clear h0
  intro N
  induction N with
  | zero => intro f x1 x2 hm; exact absurd hm (Nat.not_lt_zero _)
  | succ N ih =>
    intro f x1 x2 hm hi
    exact wkb_X9_check_L18 V_l1 V_l2 V_m1 V_m2  C    (fun f9 x19 x29 hk => ih f9 x19 x29 (Nat.lt_of_lt_of_le hk.2 (Nat.le_of_lt_succ hm)) hk.1) f x1 x2 (hs f x1 x2 hi)
set_option maxHeartbeats 4000000 in
set_option maxRecDepth 100000 in
theorem wk_X9_check (V_l1 : VC_l1) (V_l2 : VC_l2) (V_m1 : VC_m1) (V_m2 : VC_m2) {Z : Zt}  (C : CX Z layM RX9 cX9_check 3 (some .int) 1)     (f : Fn)  (h : wp_X9_check  f  (zp Z)) : GG Z f [(0, .ref (zad Z 0))] 0 [] := by
  refine g_aload_n C rfl dX9_check_0 rfl ?_
  refine fg_X9_7R (k := 0) (p := 1) C rfl rfl dX9_check_1 rfl ?_
  refine g_bipush C kb_10 dX9_check_4 rfl ?_
  refine g_ialdx (k := 1) (j := 10) (x := (f 1 10)) C rfl vi_10_264 kc_10 rfl dX9_check_6 rfl ?_
  refine g_istore_n (lv' := [(1, .int (f 1 10)), (0, .ref (zad Z 0))]) C dX9_check_7 (by decide) rfl rfl ?_
  refine g_aload_n C rfl dX9_check_8 rfl ?_
  refine fg_X9_7R (k := 0) (p := 1) C rfl rfl dX9_check_9 rfl ?_
  refine g_bipush C kb_10 dX9_check_12 rfl ?_
  refine g_iconst C ki_0 dX9_check_14 rfl ?_
  refine g_iastx (k := 1) (j := 10) C rfl vi_10_264 kc_10 dX9_check_15 rfl ?_
  refine g_iconst C ki_0 dX9_check_16 rfl ?_
  refine g_istore_n (lv' := [(2, .int (0 : Int32)), (1, .int (f 1 10)), (0, .ref (zad Z 0))]) C dX9_check_17 (by decide) rfl rfl ?_
  refine g_lps [0, 1, 2] rfl ?_
  exact wk_X9_check_L18 V_l1 V_l2 V_m1 V_m2  C    _ _ _ h
set_option maxRecDepth 100000 in
theorem ct_X9_check (V_l1 : VC_l1) (V_l2 : VC_l2) (V_m1 : VC_m1) (V_m2 : VC_m2) {l : Launch} {E : Ev}   (f : Fn)  (hpre : Pre_X9_check f) : CT l E layM yX9_check cX9_check 3 (some .int) 1 [.ref (E.2.1 0)] f (pI (Post_X9_check f)) := by
  refine CT.of (by decide +kernel) (Nat.le_of_ble_eq_true rfl) (fun Z hl9 hE9 hp9 C => ?_)
  subst hl9
  subst hE9
  exact wk_X9_check V_l1 V_l2 V_m1 V_m2 C   f  (by rw [hp9]; exact V_m2.2.2.2.2.2.2.2.2.2.2.2.2.2.2.2.2.2.2.2.2.2.1  f   hpre)
set_option maxHeartbeats 4000000 in
set_option maxRecDepth 100000 in
theorem wk_X9_count (V_l1 : VC_l1) (V_l2 : VC_l2) (V_m1 : VC_m1) (V_m2 : VC_m2) {Z : Zt}  (C : CX Z layM RX9 cX9_count 2 (some .int) 1)     (f : Fn) (a1 : Int32) (h : wp_X9_count  f a1 (zp Z)) : GG Z f [(0, .ref (zad Z 0)), (1, .int a1)] 0 [] := by
  refine g_iload_n C rfl dX9_count_0 rfl ?_
  by_cases hk1_0 : a1 = (0 : Int32)
  · replace h := h.1 hk1_0
    refine g_tableIn (q := 64) (off := (63)) C dX9_count_1 (sw_in1 hk1_0 (by decide +kernel)) (sw_in2 hk1_0 (by decide +kernel)) (sw_ho hk1_0 (by decide +kernel)) (by decide) ?_
    refine g_aload_n C rfl dX9_count_64 rfl ?_
    refine fg_X9_7R (k := 0) (p := 1) C rfl rfl dX9_count_65 rfl ?_
    refine g_iconst C ki_0 dX9_count_68 rfl ?_
    refine g_ialdx (k := 1) (j := 0) (x := (f 1 0)) C rfl vi_0_264 kc_0 rfl dX9_count_69 rfl ?_
    exact g_iret C dX9_count_70 h
  by_cases hk1_1 : a1 = (1 : Int32)
  · replace h := h.2.1 hk1_1
    refine g_tableIn (q := 71) (off := (70)) C dX9_count_1 (sw_in1 hk1_1 (by decide +kernel)) (sw_in2 hk1_1 (by decide +kernel)) (sw_ho hk1_1 (by decide +kernel)) (by decide) ?_
    refine g_aload_n C rfl dX9_count_71 rfl ?_
    refine fg_X9_7R (k := 0) (p := 1) C rfl rfl dX9_count_72 rfl ?_
    refine g_iconst C ki_1 dX9_count_75 rfl ?_
    refine g_ialdx (k := 1) (j := 1) (x := (f 1 1)) C rfl vi_1_264 kc_1 rfl dX9_count_76 rfl ?_
    exact g_iret C dX9_count_77 h
  by_cases hk1_2 : a1 = (2 : Int32)
  · replace h := h.2.2.1 hk1_2
    refine g_tableIn (q := 78) (off := (77)) C dX9_count_1 (sw_in1 hk1_2 (by decide +kernel)) (sw_in2 hk1_2 (by decide +kernel)) (sw_ho hk1_2 (by decide +kernel)) (by decide) ?_
    refine g_aload_n C rfl dX9_count_78 rfl ?_
    refine fg_X9_7R (k := 0) (p := 1) C rfl rfl dX9_count_79 rfl ?_
    refine g_iconst C ki_2 dX9_count_82 rfl ?_
    refine g_ialdx (k := 1) (j := 2) (x := (f 1 2)) C rfl vi_2_264 kc_2 rfl dX9_count_83 rfl ?_
    exact g_iret C dX9_count_84 h
  by_cases hk1_3 : a1 = (3 : Int32)
  · replace h := h.2.2.2.1 hk1_3
    refine g_tableIn (q := 85) (off := (84)) C dX9_count_1 (sw_in1 hk1_3 (by decide +kernel)) (sw_in2 hk1_3 (by decide +kernel)) (sw_ho hk1_3 (by decide +kernel)) (by decide) ?_
    refine g_aload_n C rfl dX9_count_85 rfl ?_
    refine fg_X9_7R (k := 0) (p := 1) C rfl rfl dX9_count_86 rfl ?_
    refine g_iconst C ki_3 dX9_count_89 rfl ?_
    refine g_ialdx (k := 1) (j := 3) (x := (f 1 3)) C rfl vi_3_264 kc_3 rfl dX9_count_90 rfl ?_
    exact g_iret C dX9_count_91 h
  by_cases hk1_4 : a1 = (4 : Int32)
  · replace h := h.2.2.2.2.1 hk1_4
    refine g_tableIn (q := 92) (off := (91)) C dX9_count_1 (sw_in1 hk1_4 (by decide +kernel)) (sw_in2 hk1_4 (by decide +kernel)) (sw_ho hk1_4 (by decide +kernel)) (by decide) ?_
    refine g_aload_n C rfl dX9_count_92 rfl ?_
    refine fg_X9_7R (k := 0) (p := 1) C rfl rfl dX9_count_93 rfl ?_
    refine g_iconst C ki_4 dX9_count_96 rfl ?_
    refine g_ialdx (k := 1) (j := 4) (x := (f 1 4)) C rfl vi_4_264 kc_4 rfl dX9_count_97 rfl ?_
    exact g_iret C dX9_count_98 h
  by_cases hk1_5 : a1 = (5 : Int32)
  · replace h := h.2.2.2.2.2.1 hk1_5
    refine g_tableIn (q := 99) (off := (98)) C dX9_count_1 (sw_in1 hk1_5 (by decide +kernel)) (sw_in2 hk1_5 (by decide +kernel)) (sw_ho hk1_5 (by decide +kernel)) (by decide) ?_
    refine g_aload_n C rfl dX9_count_99 rfl ?_
    refine fg_X9_7R (k := 0) (p := 1) C rfl rfl dX9_count_100 rfl ?_
    refine g_iconst C ki_5 dX9_count_103 rfl ?_
    refine g_ialdx (k := 1) (j := 5) (x := (f 1 5)) C rfl vi_5_264 kc_5 rfl dX9_count_104 rfl ?_
    exact g_iret C dX9_count_105 h
  by_cases hk1_6 : a1 = (6 : Int32)
  · replace h := h.2.2.2.2.2.2.1 hk1_6
    refine g_tableIn (q := 106) (off := (105)) C dX9_count_1 (sw_in1 hk1_6 (by decide +kernel)) (sw_in2 hk1_6 (by decide +kernel)) (sw_ho hk1_6 (by decide +kernel)) (by decide) ?_
    refine g_aload_n C rfl dX9_count_106 rfl ?_
    refine fg_X9_7R (k := 0) (p := 1) C rfl rfl dX9_count_107 rfl ?_
    refine g_bipush C kb_6 dX9_count_110 rfl ?_
    refine g_ialdx (k := 1) (j := 6) (x := (f 1 6)) C rfl vi_6_264 kc_6 rfl dX9_count_112 rfl ?_
    exact g_iret C dX9_count_113 h
  by_cases hk1_7 : a1 = (7 : Int32)
  · replace h := h.2.2.2.2.2.2.2.1 hk1_7
    refine g_tableIn (q := 114) (off := (113)) C dX9_count_1 (sw_in1 hk1_7 (by decide +kernel)) (sw_in2 hk1_7 (by decide +kernel)) (sw_ho hk1_7 (by decide +kernel)) (by decide) ?_
    refine g_aload_n C rfl dX9_count_114 rfl ?_
    refine fg_X9_7R (k := 0) (p := 1) C rfl rfl dX9_count_115 rfl ?_
    refine g_bipush C kb_7 dX9_count_118 rfl ?_
    refine g_ialdx (k := 1) (j := 7) (x := (f 1 7)) C rfl vi_7_264 kc_7 rfl dX9_count_120 rfl ?_
    exact g_iret C dX9_count_121 h
  by_cases hk1_8 : a1 = (8 : Int32)
  · replace h := h.2.2.2.2.2.2.2.2.1 hk1_8
    refine g_tableIn (q := 122) (off := (121)) C dX9_count_1 (sw_in1 hk1_8 (by decide +kernel)) (sw_in2 hk1_8 (by decide +kernel)) (sw_ho hk1_8 (by decide +kernel)) (by decide) ?_
    refine g_aload_n C rfl dX9_count_122 rfl ?_
    refine fg_X9_7R (k := 0) (p := 1) C rfl rfl dX9_count_123 rfl ?_
    refine g_bipush C kb_9 dX9_count_126 rfl ?_
    refine g_ialdx (k := 1) (j := 9) (x := (f 1 9)) C rfl vi_9_264 kc_9 rfl dX9_count_128 rfl ?_
    exact g_iret C dX9_count_129 h
  by_cases hk1_9 : a1 = (9 : Int32)
  · replace h := h.2.2.2.2.2.2.2.2.2.1 hk1_9
    refine g_tableIn (q := 130) (off := (129)) C dX9_count_1 (sw_in1 hk1_9 (by decide +kernel)) (sw_in2 hk1_9 (by decide +kernel)) (sw_ho hk1_9 (by decide +kernel)) (by decide) ?_
    refine g_aload_n C rfl dX9_count_130 rfl ?_
    refine fg_X9_7R (k := 0) (p := 1) C rfl rfl dX9_count_131 rfl ?_
    refine g_bipush C kb_10 dX9_count_134 rfl ?_
    refine g_ialdx (k := 1) (j := 10) (x := (f 1 10)) C rfl vi_10_264 kc_10 rfl dX9_count_136 rfl ?_
    exact g_iret C dX9_count_137 h
  by_cases hk1_10 : a1 = (10 : Int32)
  · replace h := h.2.2.2.2.2.2.2.2.2.2.1 hk1_10
    refine g_tableIn (q := 138) (off := (137)) C dX9_count_1 (sw_in1 hk1_10 (by decide +kernel)) (sw_in2 hk1_10 (by decide +kernel)) (sw_ho hk1_10 (by decide +kernel)) (by decide) ?_
    refine g_aload_n C rfl dX9_count_138 rfl ?_
    refine fg_X9_268I (k := 0) (x := (f 0 20)) C rfl rfl rfl dX9_count_139 rfl ?_
    exact g_iret C dX9_count_142 h
  by_cases hk1_11 : a1 = (11 : Int32)
  · replace h := h.2.2.2.2.2.2.2.2.2.2.2.1 hk1_11
    refine g_tableIn (q := 143) (off := (142)) C dX9_count_1 (sw_in1 hk1_11 (by decide +kernel)) (sw_in2 hk1_11 (by decide +kernel)) (sw_ho hk1_11 (by decide +kernel)) (by decide) ?_
    refine g_aload_n C rfl dX9_count_143 rfl ?_
    refine fg_X9_7R (k := 0) (p := 1) C rfl rfl dX9_count_144 rfl ?_
    refine g_bipush C kb_8 dX9_count_147 rfl ?_
    refine g_ialdx (k := 1) (j := 8) (x := (f 1 8)) C rfl vi_8_264 kc_8 rfl dX9_count_149 rfl ?_
    exact g_iret C dX9_count_150 h
  replace h := h.2.2.2.2.2.2.2.2.2.2.2.2 ⟨hk1_0, hk1_1, hk1_2, hk1_3, hk1_4, hk1_5, hk1_6, hk1_7, hk1_8, hk1_9, hk1_10, hk1_11⟩
  refine g_tableOut (q := 151) C dX9_count_1 (sw_out [(0 : Int32), (1 : Int32), (2 : Int32), (3 : Int32), (4 : Int32), (5 : Int32), (6 : Int32), (7 : Int32), (8 : Int32), (9 : Int32), (10 : Int32), (11 : Int32)] 12 (fun k9 hk9 => by simp only [List.mem_cons, List.not_mem_nil, or_false] at hk9; rcases hk9 with rfl | rfl | rfl | rfl | rfl | rfl | rfl | rfl | rfl | rfl | rfl | rfl <;> assumption) (by decide +kernel) (by decide +kernel)) (by decide) ?_
  refine g_aload_n C rfl dX9_count_151 rfl ?_
  refine g_iconst C ki_1 dX9_count_152 rfl ?_
  have hs2 := h.1
  replace h := h.2
  refine g_callVI C tw_881 tw_883 tp_15 tw_10 tw_884 hy_X9_finds (by decide) (by decide) rfl (Nat.le_of_ble_eq_true rfl) rfl rfl (ct_X9_finds V_l1 V_l2 V_m1   f (1 : Int32) hs2) dX9_count_153 rfl rfl (fun r3 f4 hp5 => ?_)
  replace h := h r3 f4 hp5
  exact g_iret C dX9_count_156 h
set_option maxRecDepth 100000 in
theorem ct_X9_count (V_l1 : VC_l1) (V_l2 : VC_l2) (V_m1 : VC_m1) (V_m2 : VC_m2) {l : Launch} {E : Ev}   (f : Fn) (a1 : Int32) (hpre : Pre_X9_count f a1) : CT l E layM yX9_count cX9_count 2 (some .int) 1 [.ref (E.2.1 0), .int a1] f (pI (Post_X9_count f a1)) := by
  refine CT.of (by decide +kernel) (Nat.le_of_ble_eq_true rfl) (fun Z hl9 hE9 hp9 C => ?_)
  subst hl9
  subst hE9
  exact wk_X9_count V_l1 V_l2 V_m1 V_m2 C   f a1 (by rw [hp9]; exact V_m2.2.2.2.2.2.2.2.2.2.2.2.2.2.2.2.2.2.2.2.2.2.2.1  f a1  hpre)
set_option maxHeartbeats 4000000 in
set_option maxRecDepth 100000 in
theorem wk_X9_told (V_l1 : VC_l1) (V_l2 : VC_l2) (V_m1 : VC_m1) (V_m2 : VC_m2) {Z : Zt}  (C : CX Z layM RX9 cX9_told 2 (some .int) 1)     (f : Fn) (a1 : Int32) (h : wp_X9_told  f a1 (zp Z)) : GG Z f [(0, .ref (zad Z 0)), (1, .int a1)] 0 [] := by
  refine g_iload_n C rfl dX9_told_0 rfl ?_
  refine g_i2l C dX9_told_1 rfl ?_
  refine g_lconst C kl_1 dX9_told_2 rfl ?_
  refine g_ldc2 C tw_1246 dX9_told_3 rfl ?_
  refine g_callSD C tw_878 tw_879 tw_10 tw_880 hy_X9_in (by decide) (by decide) rfl (Nat.le_of_ble_eq_true rfl) (ct_X9_in V_l1 V_l2 V_m1   f a1.toInt64 (1 : Int64) (5 : Int64) ) dX9_told_6 rfl rfl ?_
  refine g_if_eq (tgt := 21) C dX9_told_9 (by decide) rfl (fun hc1 => ?_) (fun hc1 => ?_)
  · replace h := h.1 hc1
    refine g_aload_n C rfl dX9_told_21 rfl ?_
    refine g_iconst C ki_1 dX9_told_22 rfl ?_
    have hs2 := h.1
    replace h := h.2
    refine g_callVI C tw_881 tw_883 tp_15 tw_10 tw_884 hy_X9_finds (by decide) (by decide) rfl (Nat.le_of_ble_eq_true rfl) rfl rfl (ct_X9_finds V_l1 V_l2 V_m1   f (1 : Int32) hs2) dX9_told_23 rfl rfl (fun r3 f4 hp5 => ?_)
    replace h := h r3 f4 hp5
    exact g_iret C dX9_told_26 h
  · replace h := h.2 hc1
    refine g_aload_n C rfl dX9_told_12 rfl ?_
    refine fg_X9_16R (k := 0) (p := 3) C rfl rfl dX9_told_13 rfl ?_
    refine g_iload_n C rfl dX9_told_16 rfl ?_
    have hs6 := h.1
    replace h := h.2
    refine g_ialdx (k := 3) (j := a1.toNatClampNeg) (x := (f 3 a1.toNatClampNeg)) C rfl hs6 rfl rfl dX9_told_17 rfl ?_
    refine g_goto (q := 26) C dX9_told_18 (by decide) ?_
    exact g_iret C dX9_told_26 h
set_option maxRecDepth 100000 in
theorem ct_X9_told (V_l1 : VC_l1) (V_l2 : VC_l2) (V_m1 : VC_m1) (V_m2 : VC_m2) {l : Launch} {E : Ev}   (f : Fn) (a1 : Int32) (hpre : Pre_X9_told f a1) : CT l E layM yX9_told cX9_told 2 (some .int) 1 [.ref (E.2.1 0), .int a1] f (pI (Post_X9_told f a1)) := by
  refine CT.of (by decide +kernel) (Nat.le_of_ble_eq_true rfl) (fun Z hl9 hE9 hp9 C => ?_)
  subst hl9
  subst hE9
  exact wk_X9_told V_l1 V_l2 V_m1 V_m2 C   f a1 (by rw [hp9]; exact V_m2.2.2.2.2.2.2.2.2.2.2.2.2.2.2.2.2.2.2.2.2.2.2.2.1  f a1  hpre)
