theorem flyerS {f g : Fn} {a : Int32} {k : Nat} (h : Cpl f g) (hi : InvM g) (e : Val_X7_flyerOf f a = some k) : isF g a ∧ a.toNatClampNeg < 6 ∧ k = 5 + a.toNatClampNeg ∧ a < 6 := by
  have := CplW h; have := InvF0 hi
  grind [Val_X7_flyerOf, tnc]
theorem flyerN {f g : Fn} {a : Int32} (h : Cpl f g) (hi : InvM g) (e : Val_X7_flyerOf f a = none) : ¬ isF g a := by
  have := CplW h; have := InvF0 hi
  grind [Val_X7_flyerOf]
theorem startV {f f1 g : Fn} {a : Int32} {k : Nat} (h : Cpl f g) (hi : InvM g) (e : Val_X7_flyerOf f a = some k) (p : Post_X5_start k f f1) : Cpl f1 g ∧ TV f1 = VM (g 1) a.toNatClampNeg := by
  have q := flyerS h hi e
  unfold Post_X5_start at p
  rw [p, q.2.2.1]
  exact ⟨CplStart h _ _, by rw [TVs _ _ q.2.1, VWV h hi _ q.2.1]⟩
theorem errK {f f1 g : Fn} {r : Int32} (k : Nat) (x : Int32) (hx : nI k = x) (h1 : 1 ≤ k) (h2 : k ≤ 5) (h : Cpl f g) (p : Post_X8_error f x r f1) : r = (er g k).1 ∧ Cpl f1 (er g k).2 := by
  subst hx
  unfold Post_X8_error at p
  obtain ⟨p1, p2⟩ := p
  have b : inP (nI k) 1 5 := ⟨nI_le (a := 1) h1 (by omega), nI_le (b := 5) h2 (by omega)⟩
  rw [if_pos b] at p2
  simp only [ix, nI_clamp (show k < 2 ^ 31 by omega)] at p2
  rw [p1, p2]
  exact ⟨rfl, CplEr h k h1 h2⟩
theorem err1 {f f1 g : Fn} {r : Int32} (h : Cpl f g) (p : Post_X8_error f 1 r f1) : r = (er g 1).1 ∧ Cpl f1 (er g 1).2 := errK 1 1 ni1 (by decide) (by decide) h p
theorem err2 {f f1 g : Fn} {r : Int32} (h : Cpl f g) (p : Post_X8_error f 2 r f1) : r = (er g 2).1 ∧ Cpl f1 (er g 2).2 := errK 2 2 ni2 (by decide) (by decide) h p
theorem err3 {f f1 g : Fn} {r : Int32} (h : Cpl f g) (p : Post_X8_error f 3 r f1) : r = (er g 3).1 ∧ Cpl f1 (er g 3).2 := errK 3 3 ni3 (by decide) (by decide) h p
theorem err4 {f f1 g : Fn} {r : Int32} (h : Cpl f g) (p : Post_X8_error f 4 r f1) : r = (er g 4).1 ∧ Cpl f1 (er g 4).2 := errK 4 4 ni4 (by decide) (by decide) h p
theorem err5 {f f1 g : Fn} {r : Int32} (h : Cpl f g) (p : Post_X8_error f 5 r f1) : r = (er g 5).1 ∧ Cpl f1 (er g 5).2 := errK 5 5 ni5 (by decide) (by decide) h p
theorem orN {f f1 g : Fn} {r : Int32} {o : Option Nat} (ho : ∀ k, o = some k → k < 2147483648) (h : Cpl f g) (p : Post_X8_orNone f (oI o) r f1) : r = (RE_o g o).1 ∧ Cpl f1 (RE_o g o).2 := by
  unfold Post_X8_orNone at p
  cases o with
  | none =>
    rw [if_pos (show oI none < 0 by decide)] at p
    exact err2 h p
  | some k =>
    rw [if_neg (show ¬ oI (some k) < 0 from nI_pos (ho k rfl))] at p
    rw [p.1, p.2]
    exact ⟨rfl, h⟩
theorem fst_lt {p : Nat → Bool} : ∀ {n k : Nat}, fst p n = some k → k < n
  | 0, k, h => by cases h
  | n + 1, k, h => by
    rw [fst] at h
    cases e : fst p n with
    | some q =>
      rw [e] at h
      cases h
      have := fst_lt e
      omega
    | none =>
      rw [e] at h
      by_cases q : p n = true
      · rw [if_pos q] at h; cases h; omega
      · rw [if_neg q] at h; cases h
theorem orNf {f f1 g : Fn} {r : Int32} {p : Nat → Bool} {n : Nat} (h : Cpl f g) (q : Post_X8_orNone f (oI (fst p n)) r f1) (hn : n < 2147483648) : r = (RE_o g (fst p n)).1 ∧ Cpl f1 (RE_o g (fst p n)).2 := orN (fun k e => by have := fst_lt e; omega) h q
theorem sheetS {f : Fn} {a : Int32} {k : Nat} (e : Val_X8_sheetOf f a = some k) : inP a 0 3 ∧ a.toNatClampNeg < 4 ∧ k = 48 + 2 * a.toNatClampNeg := by
  grind [Val_X8_sheetOf, tnc]
theorem sheetN {f : Fn} {a : Int32} (e : Val_X8_sheetOf f a = none) : ¬ inP a 0 3 := by
  grind [Val_X8_sheetOf]
theorem swingS {f : Fn} {a : Int32} {k : Nat} (e : Val_X7_swingOf f a = some k) : inP a 0 1 ∧ (a = 0 ∧ k = 2 ∨ a = 1 ∧ k = 3) := by
  grind [Val_X7_swingOf]
theorem swingN {f : Fn} {a : Int32} (e : Val_X7_swingOf f a = none) : ¬ inP a 0 1 := by
  grind [Val_X7_swingOf]
theorem lawS {f : Fn} {a : Int32} {k : Nat} (e : Val_X7_lawOf f a = some k) : inP a 0 1 ∧ (a = 0 ∧ k = 12 ∨ a = 1 ∧ k = 15) := by
  grind [Val_X7_lawOf]
theorem lawN {f : Fn} {a : Int32} (e : Val_X7_lawOf f a = none) : ¬ inP a 0 1 := by
  grind [Val_X7_lawOf]
theorem eqTt {a b c : Fn} (h : eqT a b) (h2 : eqT b c) : eqT a c := fun x h3 h4 h5 h6 h7 h8 h9 => (h2 x h3 h4 h5 h6 h7 h8 h9).trans (h x h3 h4 h5 h6 h7 h8 h9)
theorem TFrT {a b : Fn} (h : TFr a b) : eqT a b := fun x h3 h4 h5 _ _ _ _ => h.1 x h3 h4 h5
theorem eqTW {f f1 : Fn} (h : eqT f f1) : f1 1 = f 1 ∧ f1 56 = f 56 ∧ f1 44 = f 44 := ⟨h 1 (by decide) (by decide) (by decide) (by decide) (by decide) (by decide) (by decide), h 56 (by decide) (by decide) (by decide) (by decide) (by decide) (by decide) (by decide), h 44 (by decide) (by decide) (by decide) (by decide) (by decide) (by decide) (by decide)⟩
theorem flIs {f : Fn} {a : Int32} {k : Nat} (e : Val_X7_flyerOf f a = some k) : layC[k]? = some (.inl (0, [0, 0, 0, 0])) := by
  have : a.toNatClampNeg < 6 ∧ k = 5 + a.toNatClampNeg := by grind [Val_X7_flyerOf, tnc]
  obtain ⟨h1, h2⟩ := this
  generalize a.toNatClampNeg = n at h1 h2
  subst h2
  match n, h1 with
  | 0, _ => rfl
  | 1, _ => rfl
  | 2, _ => rfl
  | 3, _ => rfl
  | 4, _ => rfl
  | 5, _ => rfl
  | n + 6, h => omega
theorem swIs {f : Fn} {a : Int32} {k : Nat} (e : Val_X7_swingOf f a = some k) : layC[k]? = some (.inl (4, [0, 0, 0])) := by
  rcases (swingS e).2 with ⟨_, h⟩ | ⟨_, h⟩ <;> subst h <;> rfl
theorem lawIs {f : Fn} {a : Int32} {k : Nat} (e : Val_X7_lawOf f a = some k) : layC[k]? = some (.inl (1, [0, 0, 0, k + 1 + 2, k + 2 + 2, 0])) ∧ layC[k + 1]? = some (.inr (.inl 50)) ∧ layC[k + 2]? = some (.inr (.inl 50)) := by
  rcases (lawS e).2 with ⟨_, h⟩ | ⟨_, h⟩ <;> subst h <;> exact ⟨rfl, rfl, rfl⟩
theorem shIs {f : Fn} {a : Int32} {k : Nat} (e : Val_X8_sheetOf f a = some k) : layC[k]? = some (.inl (3, [k + 1 + 2, 0, 0])) ∧ layC[k + 1]? = some (.inr (.inl 40)) := by
  obtain ⟨_, h1, h2⟩ := sheetS e
  generalize a.toNatClampNeg = n at h1 h2
  subst h2
  match n, h1 with
  | 0, _ => exact ⟨rfl, rfl⟩
  | 1, _ => exact ⟨rfl, rfl⟩
  | 2, _ => exact ⟨rfl, rfl⟩
  | 3, _ => exact ⟨rfl, rfl⟩
  | n + 4, h => omega
theorem CplRow {f f1 g g1 : Fn} (h : Cpl f g) (w : WRel f1 1 (g1 1)) (e : ∀ a, ¬ (1 ≤ a ∧ a < 19) → f1 a = f a) (e2 : ∀ a, ¬ a = 1 → g1 a = g a) : Cpl f1 g1 := by
  obtain ⟨p1, p2, p3, p4, p5, p6, p7, p8⟩ := h
  unfold Cpl
  rw [e2 0 (by decide), e2 2 (by decide), e2 3 (by decide), e2 6 (by decide), e2 7 (by decide), e2 8 (by decide), e2 9 (by decide), e 0 (by decide), e 56 (by decide), e 44 (by decide), e 45 (by decide)]
  refine ⟨w, p2.imp id fun q => WRelFr q fun j h1 h2 h3 => e _ (by omega), ?_, p4, p5, p6, p7, fun i hi => ?_⟩
  · unfold WCon
    rw [e 30 (by decide), e 33 (by decide)]; exact p3
  · rw [e _ (by omega), e _ (by omega)]; exact p8 i hi
theorem LawRd {h s d d1 : Nat → Int32} {u : Nat} (hl : LawR h s d u) (hu : u < 2) (e1 : d1 (90 + u) = d (90 + u)) (e2 : ∀ j, 112 ≤ j → d1 j = d j) : LawR h s d1 u := by
  have t : txb d1 u = txb d u := funext fun j => e2 _ (by omega)
  obtain ⟨p1, p2, p3, p4⟩ := hl
  refine ⟨p1, p2, p3, ?_⟩
  rw [e1, t]; exact p4
theorem WRelUp {f : Fn} {d : Nat → Int32} (h : WRel f 1 d) (c b : Nat) (v : Int32) (q : c = 2 ∧ b = 5 ∨ c = 3 ∧ b = 6 ∨ c = 4 ∧ b = 7 ∨ c = 5 ∧ b = 1 ∨ c = 7 ∧ b = 0 ∨ c = 9 ∧ b = 9 ∨ c = 12 ∧ b = 2 ∨ c = 13 ∧ b = 3 ∨ c = 14 ∧ b = 4 ∨ c = 15 ∧ b = 8 ∨ c = 17 ∧ b = 10) : WRel (up2 f 1 c v) 1 (upd d b v) := by
  have r : ∀ a, ¬ a = 1 → up2 f 1 c v a = f a := fun a ha => up2_row _ _ _ _ _ ha
  have b11 : b < 12 := by omega
  have u : ∀ j, 12 ≤ j → upd d b v j = d j := fun j hj => by unfold upd; rw [if_neg (by omega)]
  obtain ⟨p1, p2, p3, p4, p5, p6, p7, p8, p9, p10, p11, p12, p13, p14, p15, p16, p17, p18⟩ := h
  have k : ∀ x y, (x = 2 ∧ y = 5 ∨ x = 3 ∧ y = 6 ∨ x = 4 ∧ y = 7 ∨ x = 5 ∧ y = 1 ∨ x = 7 ∧ y = 0 ∨ x = 9 ∧ y = 9 ∨ x = 12 ∧ y = 2 ∨ x = 13 ∧ y = 3 ∨ x = 14 ∧ y = 4 ∨ x = 15 ∧ y = 8 ∨ x = 17 ∧ y = 10) → f 1 x = d y → up2 f 1 c v 1 x = upd d b v y := fun x y hxy e => by
    rw [up2_ap, if_pos rfl]
    unfold upd
    by_cases hc : x = c
    · rw [if_pos hc, if_pos (by omega)]
    · rw [if_neg hc, if_neg (by omega)]; exact e
  refine ⟨fun j hj => ?_, fun j hj => ?_, k _ _ (by decide) p3, k _ _ (by decide) p4, k _ _ (by decide) p5, k _ _ (by decide) p6, k _ _ (by decide) p7, k _ _ (by decide) p8, k _ _ (by decide) p9, k _ _ (by decide) p10, k _ _ (by decide) p11, k _ _ (by decide) p12, k _ _ (by decide) p13, fun i j hi hj => ?_, fun j hj => ?_, fun j hj => ?_, ?_, ?_⟩
  · rw [r _ (by omega), u _ (by omega)]; exact p1 j hj
  · rw [r _ (by omega), u _ (by omega)]; exact p2 j hj
  · rw [r _ (by omega), u _ (by unfold fl4; omega)]; exact p14 i j hi hj
  · rw [r _ (by omega), u _ (by omega)]; exact p15 j hj
  · rw [r _ (by omega), u _ (by omega)]; exact p16 j hj
  · rw [r _ (by omega), r _ (by omega)]; exact LawRd p17 (by decide) (u _ (by omega)) fun j hj => u _ (by omega)
  · rw [r _ (by omega), r _ (by omega)]; exact LawRd p18 (by decide) (u _ (by omega)) fun j hj => u _ (by omega)
theorem CplUp {f g : Fn} (h : Cpl f g) (c b : Nat) (v : Int32) (q : c = 2 ∧ b = 5 ∨ c = 3 ∧ b = 6 ∨ c = 4 ∧ b = 7 ∨ c = 5 ∧ b = 1 ∨ c = 7 ∧ b = 0 ∨ c = 9 ∧ b = 9 ∨ c = 12 ∧ b = 2 ∨ c = 13 ∧ b = 3 ∨ c = 14 ∧ b = 4 ∨ c = 15 ∧ b = 8 ∨ c = 17 ∧ b = 10) : Cpl (up2 f 1 c v) (up2 g 1 b v) :=
  CplRow h (by rw [up2_same]; exact WRelUp h.1 c b v q) (fun a ha => up2_row _ _ _ _ _ (by omega)) (fun a ha => up2_row _ _ _ _ _ ha)
theorem CplFlU {f g : Fn} (h : Cpl f g) (i j : Nat) (v : Int32) (hi : i < 6) (hj : j < 4) : Cpl (up2 f (5 + i) j v) (up2 g 1 (fl4 i + j) v) := by
  refine CplRow h ?_ (fun a ha => up2_row _ _ _ _ _ (by omega)) (fun a ha => up2_row _ _ _ _ _ ha)
  rw [up2_same]
  have r : ∀ a, ¬ a = 5 + i → up2 f (5 + i) j v a = f a := fun a ha => up2_row _ _ _ _ _ ha
  have u : ∀ q, ¬ q = fl4 i + j → upd (g 1) (fl4 i + j) v q = g 1 q := fun q hq => by unfold upd; rw [if_neg hq]
  have fl : 18 ≤ fl4 i + j ∧ fl4 i + j < 42 := by unfold fl4; omega
  obtain ⟨⟨p1, p2, p3, p4, p5, p6, p7, p8, p9, p10, p11, p12, p13, p14, p15, p16, p17, p18⟩, -⟩ := h
  unfold WRel
  simp only [r 1 (by omega), r (1 + 1) (by omega), r (1 + 2) (by omega), r (1 + 10) (by omega), r (1 + 17) (by omega), r (1 + 11) (by omega), r (1 + 12) (by omega), r (1 + 14) (by omega), r (1 + 15) (by omega), u 5 (by omega), u 6 (by omega), u 7 (by omega), u 1 (by omega), u 0 (by omega), u 9 (by omega), u 2 (by omega), u 3 (by omega), u 4 (by omega), u 8 (by omega), u 10 (by omega)]
  refine ⟨fun q hq => by rw [u _ (by omega)]; exact p1 q hq, fun q hq => by rw [u _ (by omega)]; exact p2 q hq, p3, p4, p5, p6, p7, p8, p9, p10, p11, p12, p13, fun a b ha hb => ?_, fun q hq => by rw [u _ (by omega)]; exact p15 q hq, fun q hq => by rw [u _ (by omega)]; exact p16 q hq, LawRd p17 (by decide) (u _ (by omega)) fun q hq => u _ (by omega), LawRd p18 (by decide) (u _ (by omega)) fun q hq => u _ (by omega)⟩
  by_cases e : a = i ∧ b = j
  · rw [e.1, e.2, up2_ap, if_pos (by omega), if_pos rfl]; simp [upd]
  · rw [u _ (by unfold fl4; omega)]
    rw [up2_ap]
    by_cases e2 : a = i
    · rw [if_pos (by omega), if_neg (by omega)]
      exact p14 a b ha hb
    · rw [if_neg (by omega)]; exact p14 a b ha hb
theorem CplFlV {f g : Fn} {k b j : Nat} {v : Int32} (h : Cpl f g) (hk : 5 ≤ k) (hk2 : k < 11) (hj : j < 4) (hb : b = fl4 (k - 5) + j) : Cpl (up2 f k j v) (up2 g 1 b v) := by
  have := CplFlU h (k - 5) j v (by omega) hj
  rw [show 5 + (k - 5) = k by omega] at this
  rw [hb]; exact this
theorem swVC {f g : Fn} (h : Cpl f g) : swV (f 2) = swV (sw3 (g 1) 0) ∧ swV (f 3) = swV (sw3 (g 1) 1) := by
  obtain ⟨h1, h2, h3, h4, h5, h6⟩ := CplSw h
  constructor <;> funext t <;> simp only [swV, h1, h2, h3, h4, h5, h6] <;> rfl
theorem givesC {f f1 g : Fn} {k : Nat} {a b c r : Int32} (p : Post_X1_gives k f a b c r f1) (h : Cpl f g) (hi : InvM g) (hk : k = 12 ∨ k = 15) : Cpl f1 g ∧ r = lawD (g 1) (if k = 12 then 0 else 1) a b c := by
  obtain ⟨p1, p2⟩ := p
  have t := txI hi.1
  refine ⟨CplFr h fun a h1 h2 _ _ _ => p2 a (by omega), ?_⟩
  obtain ⟨⟨-, -, -, -, -, -, -, -, -, -, -, -, -, -, -, -, l0, l1⟩, -⟩ := h
  rcases hk with e | e <;> subst e
  · rw [p1, if_pos rfl]; exact lawVD l0 t.1 a b c
  · rw [p1, if_neg (by decide)]; exact lawVD l1 t.2 a b c
theorem flyK {f g : Fn} {a : Int32} {k : Nat} (h : Cpl f g) (hi : InvM g) (e : Val_X7_flyerOf f a = some k) : kOK (f k 0) := by
  obtain ⟨q1, q2, q3, q4⟩ := flyerS h hi e
  have w := CplFl h _ q2
  rw [q3, w.1]
  have i0 := InvF0 hi
  have hn : nI a.toNatClampNeg = a := by
    obtain ⟨j, h1, h2⟩ := nI_of (x := a) (by rw [Int32.not_lt]; exact q1.1)
    rw [h2, nI_clamp h1]
  obtain ⟨kk, m, t, q, c1, c2, c3, c4, c5, c6, c7, c8, c9⟩ := dF3 hi.1 a.toNatClampNeg (by rw [hn]; have := q1.2; grind) q2
  rw [show fl4 a.toNatClampNeg = 18 + 4 * a.toNatClampNeg from rfl, c6]
  unfold kOK
  match kk, c1 with
  | 0, _ => exact Or.inl rfl
  | 1, _ => exact Or.inr (Or.inl rfl)
  | 2, _ => exact Or.inr (Or.inr (Or.inl rfl))
  | 3, _ => exact Or.inr (Or.inr (Or.inr (Or.inl rfl)))
  | 4, _ => exact Or.inr (Or.inr (Or.inr (Or.inr (Or.inl rfl))))
  | 5, _ => exact Or.inr (Or.inr (Or.inr (Or.inr (Or.inr (Or.inl rfl)))))
  | 6, _ => exact Or.inr (Or.inr (Or.inr (Or.inr (Or.inr (Or.inr rfl)))))
  | n + 7, h => omega
theorem startP {f f1 g : Fn} {a : Int32} {k : Nat} (h : Cpl f g) (hi : InvM g) (e : Val_X7_flyerOf f a = some k) (p : Post_X5_start k f f1) (n : Int32) : Pre_X5_leastPumps f1 n ∧ Pre_X5_leastSteps f1 n := by
  have q := startV h hi e p
  have v1 : f1 38 1 = g 1 13 := by have := congrArg (fun V => vN V 1) q.2; exact this
  have v2 : f1 39 0 = g 1 15 := by have := congrArg (fun V => vF V 0) q.2; exact this
  obtain ⟨⟨p1, w1, x1, a1, a2, a3, a4, a5, a6, a7, a8⟩, ⟨p2, w2, x2, b1, b2, b3, b4, b5, b6, b7, b8⟩, -⟩ := dF1 hi.1
  refine ⟨⟨w1, a3, a4, ?_⟩, ⟨p2, by omega, b2, ?_⟩⟩
  · rw [v1]; exact a7
  · rw [v2]; exact b6
theorem startPp {f f1 g : Fn} {a n : Int32} {k : Nat} (h : Cpl f g) (hi : InvM g) (e : Val_X7_flyerOf f a = some k) (p : Post_X5_start k f f1) : Pre_X5_leastPumps f1 n := (startP h hi e p n).1
theorem startPs {f f1 g : Fn} {a n : Int32} {k : Nat} (h : Cpl f g) (hi : InvM g) (e : Val_X7_flyerOf f a = some k) (p : Post_X5_start k f f1) : Pre_X5_leastSteps f1 n := (startP h hi e p n).2
theorem swVs {f g : Fn} {s : Nat → Int32} {t : Int32} (h : Cpl f g) (e : s = f 2) : swV s t = swV (sw3 (g 1) 0) t := by rw [e]; exact congrFun (swVC h).1 t
theorem swVt {f g : Fn} {s : Nat → Int32} {t : Int32} (h : Cpl f g) (e : s = f 3) : swV s t = swV (sw3 (g 1) 1) t := by rw [e]; exact congrFun (swVC h).2 t
theorem told2 {f g : Fn} {x : Int32} (h : Cpl f g) (h1 : 1 ≤ x) (h2 : x ≤ 5) : f 56 x.toNatClampNeg = g 3 x.toNatClampNeg := CplErr h _ (tncLe (x := 1) h1) (tncLe (y := 5) h2)
theorem trac2 {f g : Fn} {x : Int32} (h : Cpl f g) (h1 : 0 ≤ x) (h2 : x < g 0 20) (h3 : x < 40) : f 45 x.toNatClampNeg = g 6 x.toNatClampNeg := by
  have hn := nItn h1
  exact CplTr h _ (by rw [hn]; exact h2) (by have := tncLe (show x ≤ 39 by grind); rw [show (39 : Int32).toNatClampNeg = 39 by decide] at this; omega)
theorem CplWait {f g : Fn} (h : Cpl f g) (i : Nat) (v w : Int32) (hi : i < 20) : Cpl (up2 (up2 f 18 i v) 1 17 w) (up2 (up2 g 1 (92 + i) v) 1 10 w) := by
  refine CplUp ?_ 17 10 w (by decide)
  refine CplRow h ?_ (fun a ha => up2_row _ _ _ _ _ (by omega)) (fun a ha => up2_row _ _ _ _ _ ha)
  rw [up2_same]
  have r : ∀ a, ¬ a = 18 → up2 f 18 i v a = f a := fun a ha => up2_row _ _ _ _ _ ha
  have u : ∀ q, ¬ q = 92 + i → upd (g 1) (92 + i) v q = g 1 q := fun q hq => by unfold upd; rw [if_neg hq]
  obtain ⟨⟨p1, p2, p3, p4, p5, p6, p7, p8, p9, p10, p11, p12, p13, p14, p15, p16, p17, p18⟩, -⟩ := h
  unfold WRel
  simp only [r 1 (by omega), r (1 + 1) (by omega), r (1 + 2) (by omega), r (1 + 10) (by omega), r (1 + 11) (by omega), r (1 + 12) (by omega), r (1 + 14) (by omega), r (1 + 15) (by omega), u 5 (by omega), u 6 (by omega), u 7 (by omega), u 1 (by omega), u 0 (by omega), u 9 (by omega), u 2 (by omega), u 3 (by omega), u 4 (by omega), u 8 (by omega), u 10 (by omega)]
  refine ⟨fun q hq => by rw [u _ (by omega)]; exact p1 q hq, fun q hq => by rw [u _ (by omega)]; exact p2 q hq, p3, p4, p5, p6, p7, p8, p9, p10, p11, p12, p13, fun a b ha hb => by rw [r _ (by omega), u _ (by unfold fl4; omega)]; exact p14 a b ha hb, fun q hq => by rw [u _ (by omega)]; exact p15 q hq, fun q hq => ?_, LawRd p17 (by decide) (u _ (by omega)) fun q hq => u _ (by omega), LawRd p18 (by decide) (u _ (by omega)) fun q hq => u _ (by omega)⟩
  by_cases e : q = i
  · rw [e, up2_ap, if_pos rfl, if_pos rfl]; simp [upd]
  · rw [u _ (by omega), up2_ap, if_pos rfl, if_neg e]; exact p16 q hq
