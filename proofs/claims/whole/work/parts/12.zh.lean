theorem falB {g : Fn} (h : dOK (g 1)) (i : Nat) : ∀ n, ∀ x ∈ falL (VMt g i) n, -159 ≤ x ∧ x ≤ 159
  | 0, x, hx => by cases hx
  | n + 1, x, hx => by
    rw [show falL (VMt g i) (n + 1) = if canP (VMt g i) n = true then falL (VMt g i) n else falL (VMt g i) n ++ [vPl (VMt g i) (vT (VMt g i) (vW (VMt g i) 3 + nI n))] from rfl] at hx
    by_cases c : canP (VMt g i) n = true
    · rw [if_pos c] at hx; exact falB h i n x hx
    · rw [if_neg c, List.mem_append] at hx
      rcases hx with hx | hx
      · exact falB h i n x hx
      · rw [List.mem_singleton] at hx
        rw [hx]; exact plB h i _
theorem falN (V : Vw) : ∀ n, (falL V n).length ≤ n
  | 0 => Nat.le_refl _
  | n + 1 => by
    have := falN V n
    rw [show falL V (n + 1) = if canP V n = true then falL V n else falL V n ++ [vPl V (vT V (vW V 3 + nI n))] from rfl]
    by_cases h : canP V n = true
    · rw [if_pos h]; omega
    · rw [if_neg h, List.length_append]; simp; omega
theorem nIb2 {x : Int32} {N : Nat} (h : 0 ≤ x) (h2 : x ≤ nI N) (hN : N < 2147483648) : ∃ k : Nat, k ≤ N ∧ x = nI k := by
  obtain ⟨k, k1, rfl⟩ := nI_of (Int32.not_lt.mpr h)
  rw [nI_leI (by omega) (by omega)] at h2
  exact ⟨k, h2, rfl⟩
/-- a sum of harms, both ways -/
theorem hsB {d : Nat → Int32} {i : Nat} {net : Int32} (q0 : 0 ≤ d (fl4 i + 3)) (q1 : d (fl4 i + 3) ≤ 99) (n0 : -99 ≤ net) (n1 : net ≤ 299) : ∀ xs : List Int32, (∀ x ∈ xs, -159 ≤ x ∧ x ≤ 159) → ∀ s0 : Nat, s0 + 600 * xs.length ≤ 1000000 → ∃ s : Nat, s ≤ s0 + 600 * xs.length ∧ xs.foldl (fun s x => s + hmM d i (absI (x - net))) (nI s0) = nI s ∧ xs.foldl (fun s x => s + (hmM d i (absI (x - net))).toInt64) (lN s0) = lN s
  | [], _, s0, _ => ⟨s0, by omega, rfl, rfl⟩
  | x :: xs, hx, s0, h0 => by
    have bx := hx x (by simp)
    have ab := absB (x := x - net) (by grind) (by grind)
    have hb := harmB (k := d (fl4 i)) q0 q1 ab.1 ab.2 (by decide)
    obtain ⟨k, k1, k2⟩ := nIb2 (N := 599) hb.1 hb.2 (by omega)
    have k2' : hmM d i (absI (x - net)) = nI k := k2
    rw [List.length_cons] at h0 ⊢
    obtain ⟨s, s1, s2, s3⟩ := hsB q0 q1 n0 n1 xs (fun y hy => hx y (by simp [hy])) (s0 + k) (by omega)
    refine ⟨s, by omega, ?_, ?_⟩
    · rw [List.foldl_cons, k2', nI_add]; exact s2
    · rw [List.foldl_cons, k2', nI_l (by omega), lN_add]; exact s3
theorem offTV {f f1 : Fn} {t : Int32} (h : TFr f f1) (h1 : f1 37 7 = vC (TV f) t) (h2 : f1 37 8 = vPl (TV f) t) : Val_X5_off f1 0 = vOff (TV f) t 0 := by
  unfold Val_X5_off
  rw [h1, h2, TF1 h, h.1 39 (by decide) (by decide) (by decide)]
  rfl
theorem asT_c {V : Vw} {x y : Nat → Int32} : ∀ {n : Nat}, (∀ j, j < n → x j = y j) → asT V x n = asT V y n
  | 0, _ => rfl
  | n + 1, h => by rw [asT_s, asT_s, asT_c fun j hj => h j (by omega), h n (by omega)]
theorem shC {f g : Fn} {a : Int32} {k : Nat} (h : Cpl f g) (e : Val_X8_sheetOf f a = some k) : f k 1 = g 7 (ix a) ∧ f k 2 = g 8 (ix a) ∧ (∀ j, j < 40 → f (k + 1) j = shN g (ix a) j) ∧ ix a < 4 ∧ k = 48 + 2 * ix a ∧ inP a 0 3 := by
  obtain ⟨h1, h2, h3⟩ := sheetS e
  have c := CplSh h _ h2
  have e2 : k + 1 = 49 + 2 * a.toNatClampNeg := by omega
  rw [h3]
  exact ⟨c.1, c.2.1, fun j hj => by rw [show 48 + 2 * a.toNatClampNeg + 1 = 49 + 2 * a.toNatClampNeg by omega]; exact c.2.2 j hj, h2, rfl, h1⟩
theorem sh8 {f g : Fn} {a : Int32} {k : Nat} (h : Cpl f g) (hi : InvM g) (e : Val_X8_sheetOf f a = some k) : 0 ≤ f k 2 ∧ f k 2 ≤ 40 ∧ (f k 2).toNatClampNeg = ix (g 8 (ix a)) ∧ (f k 2).toNatClampNeg ≤ 40 := by
  obtain ⟨h1, h2, h3, h4, h5, h6⟩ := shC h e
  have s := shI hi h6.1 h6.2
  have s2 : 0 ≤ g 8 (ix a) ∧ g 8 (ix a) ≤ 40 := ⟨s.2.2.1, s.2.2.2⟩
  rw [h2]
  refine ⟨s2.1, s2.2, rfl, ?_⟩
  have := tncLe s2.2
  rwa [tn40] at this
theorem phsC {f g : Fn} {a : Int32} {k : Nat} {V : Vw} (h : Cpl f g) (hi : InvM g) (e : Val_X8_sheetOf f a = some k) : phsP V (f (k + 1)) (f k 2).toNatClampNeg = phsP V (shN g (ix a)) (ix (g 8 (ix a))) ∧ lagP V (f (k + 1)) (f k 2).toNatClampNeg = lagP V (shN g (ix a)) (ix (g 8 (ix a))) := by
  have s := sh8 h hi e
  have c := shC h e
  rw [s.2.2.1]
  rw [s.2.2.1] at s
  constructor <;> funext q
  · exact asT_c fun j hj => c.2.2.1 j (by omega)
  · exact asT_c fun j hj => c.2.2.1 j (by omega)
theorem remN {a b : Nat} (ha : a < 2147483648) (hb : b < 2147483648) (h0 : 0 < b) : remI (nI a) (nI b) = nI (a % b) := by
  have hl := Nat.mod_lt a h0
  apply Int32.toInt_inj.mp
  rw [remT (nI_lt (a := 0) h0 (by omega)), nI_toInt (by omega), nI_toInt (by omega), nI_toInt (by omega)]
  exact (Int.ofNat_tmod a b).symm
theorem gcdE : ∀ k a b : Nat, b ≤ k → a < 2147483648 → b < 2147483648 → gcdI k (nI a) (nI b) = nI (Nat.gcd a b)
  | 0, a, b, h, _, _ => by
    rw [show b = 0 by omega, Nat.gcd_zero_right]; rfl
  | k + 1, a, b, h, ha, hb => by
    show (if nI b = 0 then nI a else gcdI k (nI b) (remI (nI a) (nI b))) = _
    rcases Nat.eq_zero_or_pos b with e | e
    · rw [e, if_pos (show nI 0 = 0 from rfl), Nat.gcd_zero_right]
    · have hl := Nat.mod_lt a e
      rw [if_neg (nI_ne0 e (by omega)), remN ha hb e, gcdE k b (a % b) (by omega) hb (by omega), Nat.gcd_comm a b, Nat.gcd_rec b a, Nat.gcd_comm]
theorem absN {x : Int32} {w : Nat} (hw : w < 2147483648) (h : x = nI w ∨ x = -(nI w)) : absI x = nI w ∧ x.toInt.natAbs = w := by
  rcases h with h | h <;> subst h
  · unfold absI
    rw [if_pos (Int32.not_lt.mp (nI_pos (by omega))), nI_toInt (by omega)]
    exact ⟨rfl, by omega⟩
  · have e : (-(nI w)).toInt = -(w : Int) := by
      rw [Int32.toInt_neg, nI_toInt (by omega)]; exact Int.bmod_eq_of_le (by omega) (by omega)
    refine ⟨?_, by rw [e]; omega⟩
    unfold absI
    by_cases q : 0 ≤ -(nI w)
    · rw [if_pos q]
      rw [Int32.le_iff_toInt_le, e] at q
      simp at q
      have : w = 0 := by omega
      subst this; decide
    · rw [if_neg q]; grind
theorem partE {f : Fn} {x p : Int32} {w n : Nat} (hw : w < 2147483648) (h : x = nI w ∨ x = -(nI w)) (n0 : 0 < n) (n1 : n ≤ 1000) : Val_X8_partOf f x (nI n) p = frcI x (nI n) p := by
  obtain ⟨a1, a2⟩ := absN hw h
  have gp : 0 < Nat.gcd w n := Nat.gcd_pos_of_pos_right w n0
  have gl : Nat.gcd w n ≤ n := Nat.gcd_le_right w n0
  have e2 : (nI n).toInt.natAbs = n := by rw [nI_toInt (by omega)]; omega
  have m : maxI 1 (nI (Nat.gcd w n)) = nI (Nat.gcd w n) := by
    unfold maxI
    by_cases q : 1 < nI (Nat.gcd w n)
    · rw [if_pos q]
    · rw [if_neg q]
      have : ¬ nI 1 < nI (Nat.gcd w n) := q
      rw [nI_ltI (by decide) (by omega)] at this
      rw [show Nat.gcd w n = 1 by omega]; rfl
  unfold Val_X8_partOf frcI
  rw [a1, a2, e2, show ix (nI n) = n from nI_clamp (by omega), gcdE n w n (Nat.le_refl _) hw (by omega), m]
theorem part9 {f : Fn} {V : Vw} {t p : Int32} : Val_X8_partOf f (casI V t) 9 p = frcI (casI V t) 9 p := by
  obtain ⟨c, c9, ce⟩ := casB V t
  exact partE (n := 9) (w := c) (by omega) (Or.inl ce) (by omega) (by omega)
theorem part81 {f : Fn} {V : Vw} {t x h p : Int32} (hx : inP x 0 99) (hh : inP h 0 99) : Val_X8_partOf f (agnI (casI V t) x h) 81 p = frcI (agnI (casI V t) x h) 81 p := by
  obtain ⟨c, c9, ce⟩ := casB V t
  obtain ⟨x', x99, rfl⟩ := nI_of2 (M := 99) (n := 99) (by decide) (Int32.not_lt.mpr hx.1) hx.2
  obtain ⟨h', h99, rfl⟩ := nI_of2 (M := 99) (n := 99) (by decide) (Int32.not_lt.mpr hh.1) hh.2
  rw [ce]
  obtain ⟨w, w1, w2⟩ := agnL c9 x99 h99
  exact partE (n := 81) (w := w) (by omega) (w2.imp (fun z => z.1) (fun z => z.1)) (by omega) (by omega)
theorem CplShU {f f1 g g1 : Fn} (h : Cpl f g) (e : ∀ a, a < 48 ∨ a = 56 → f1 a = f a) (e2 : ∀ a, ¬ (a = 7 ∨ a = 8 ∨ a = 9) → g1 a = g a) (s : ∀ i, i < 4 → f1 (48 + 2 * i) 1 = g1 7 i ∧ f1 (48 + 2 * i) 2 = g1 8 i ∧ ∀ k, k < 40 → f1 (49 + 2 * i) k = g1 9 (40 * i + k)) : Cpl f1 g1 := by
  obtain ⟨p1, p2, p3, p4, p5, p6, p7, p8⟩ := h
  unfold Cpl
  rw [e2 0 (by decide), e2 1 (by decide), e2 2 (by decide), e2 3 (by decide), e2 6 (by decide), e 0 (by decide), e 56 (by decide), e 44 (by decide), e 45 (by decide)]
  refine ⟨WRelFr p1 fun j h1 h2 h3 => e _ (by omega), p2.imp id fun q => WRelFr q fun j h1 h2 h3 => e _ (by omega), ?_, p4, p5, p6, p7, s⟩
  unfold WCon
  rw [e 30 (by decide), e 33 (by decide)]; exact p3
theorem CplTrc {f f1 g g1 : Fn} (h : Cpl f g) (e : ∀ a, ¬ a = 44 → ¬ a = 45 → ¬ a = 46 → f1 a = f a) (e2 : ∀ a, ¬ (a = 0 ∨ a = 6) → g1 a = g a) (e3 : g1 0 2 = g 0 2) (s1 : f1 44 1 = g1 0 20) (s2 : ∀ j, nI j < g1 0 20 → j < 40 → f1 45 j = g1 6 j) : Cpl f1 g1 := by
  obtain ⟨p1, p2, p3, p4, p5, p6, p7, p8⟩ := h
  unfold Cpl
  rw [e2 1 (by decide), e2 2 (by decide), e2 3 (by decide), e2 7 (by decide), e2 8 (by decide), e2 9 (by decide), e3, e 0 (by decide) (by decide) (by decide), e 56 (by decide) (by decide) (by decide)]
  refine ⟨WRelFr p1 fun j h1 h2 h3 => e _ (by omega) (by omega) (by omega), p2.imp id fun q => WRelFr q fun j h1 h2 h3 => e _ (by omega) (by omega) (by omega), ?_, p4, p5, s1, s2, fun i hi => ?_⟩
  · unfold WCon
    rw [e 30 (by decide) (by decide) (by decide), e 33 (by decide) (by decide) (by decide)]; exact p3
  · rw [e _ (by omega) (by omega) (by omega), e _ (by omega) (by omega) (by omega)]; exact p8 i hi
theorem CplSwU {f g : Fn} (h : Cpl f g) (s w : Nat) (v : Int32) (hs : s < 2) (hw : w < 3) : Cpl (up2 f (2 + s) w v) (up2 g 1 (12 + 3 * s + w) v) := by
  refine CplRow h ?_ (fun a ha => up2_row _ _ _ _ _ (by omega)) (fun a ha => up2_row _ _ _ _ _ ha)
  rw [up2_same]
  have r : ∀ a, ¬ a = 2 + s → up2 f (2 + s) w v a = f a := fun a ha => up2_row _ _ _ _ _ ha
  have u : ∀ q, ¬ q = 12 + 3 * s + w → upd (g 1) (12 + 3 * s + w) v q = g 1 q := fun q hq => by unfold upd; rw [if_neg hq]
  have at' : ∀ s2, s2 < 2 → ∀ j, j < 3 → f (2 + s2) j = g 1 (12 + 3 * s2 + j) → up2 f (2 + s) w v (2 + s2) j = upd (g 1) (12 + 3 * s + w) v (12 + 3 * s2 + j) := fun s2 h2 j hj e => by
    by_cases q : s2 = s ∧ j = w
    · rw [q.1, q.2, up2_at, updE]
    · rw [u _ (by omega), ← e, up2_ap]
      by_cases q2 : s2 = s
      · rw [if_pos (by omega), if_neg (fun z => q ⟨q2, z⟩)]
      · rw [if_neg (by omega)]
  obtain ⟨⟨p1, p2, p3, p4, p5, p6, p7, p8, p9, p10, p11, p12, p13, p14, p15, p16, p17, p18⟩, -⟩ := h
  unfold WRel
  simp only [r 1 (by omega), r (1 + 10) (by omega), r (1 + 17) (by omega), r (1 + 11) (by omega), r (1 + 12) (by omega), r (1 + 14) (by omega), r (1 + 15) (by omega), u 5 (by omega), u 6 (by omega), u 7 (by omega), u 1 (by omega), u 0 (by omega), u 9 (by omega), u 2 (by omega), u 3 (by omega), u 4 (by omega), u 8 (by omega), u 10 (by omega)]
  refine ⟨fun q hq => at' 0 (by decide) q hq (p1 q hq), fun q hq => at' 1 (by decide) q hq (p2 q hq), p3, p4, p5, p6, p7, p8, p9, p10, p11, p12, p13, fun a b ha hb => by rw [r _ (by omega), u _ (by unfold fl4; omega)]; exact p14 a b ha hb, fun q hq => by rw [u _ (by omega)]; exact p15 q hq, fun q hq => by rw [u _ (by omega)]; exact p16 q hq, LawRd p17 (by decide) (u _ (by omega)) fun q hq => u _ (by omega), LawRd p18 (by decide) (u _ (by omega)) fun q hq => u _ (by omega)⟩
theorem minH {x : Int32} {N : Int32} (h : 0 ≤ x) : minI N x = heldI x 0 N := by
  unfold minI heldI
  rw [if_neg (Int32.not_lt.mpr h)]
  by_cases q : x < N
  · rw [if_pos q, if_neg (Int32.not_lt.mpr (Int32.le_of_lt q))]
  · rw [if_neg q]
    by_cases q2 : N < x
    · rw [if_pos q2]
    · rw [if_neg q2]; exact Int32.le_antisymm (Int32.not_lt.mp q) (Int32.not_lt.mp q2)
theorem up2C (g : Fn) {a b : Nat} (v w : Int32) (h : ¬ a = b) : up2 (up2 g 1 a v) 1 b w = up2 (up2 g 1 b w) 1 a v := by
  funext x j
  simp only [up2_ap]
  by_cases hx : x = 1
  · simp only [if_pos hx]
    by_cases ha : j = a
    · rw [if_neg (show ¬ j = b by omega), if_pos ha, if_pos ha]
    · rw [if_neg ha, if_neg ha]
  · simp only [if_neg hx]
theorem kOK6 {k : Int32} (h : 0 ≤ k ∧ k ≤ 6) : kOK k := by
  unfold kOK
  have := h.1; have := h.2
  grind
theorem vlb40 {a : Int32} {l : Nat} (h : l ≤ 2) : 0 + vlb a l ≤ 40 := by
  have := vlbM (a := a) h (Nat.le_refl 2)
  have : vlb a 2 ≤ 23 := by
    unfold vlb
    split
    · omega
    · split
      · decide
      · decide
  omega
/-- a letting go, on both sides -/
theorem goC {f f1 g : Fn} {i : Nat} {t r : Int32} (hc : Cpl f g) (hi : InvM g) (q : 0 ≤ nI i ∧ nI i ≤ g 1 0 - 1) (i6 : i < 6) (p : Post_X8_goToldAt (5 + i) f t r f1) : r = (RE_goes g i t).1 ∧ Cpl f1 (RE_goes g i t).2 := by
  have fb := fl3B hi.1 q
  rw [nI_clamp (by omega)] at fb
  have cw := CplW hc
  have cf := CplFl hc i i6
  have d2 := dF2 hi.1
  have vw := VWV hc hi i i6
  have h10 := (InvF hi).2
  have fe : fl4 i = 18 + 4 * i := rfl
  unfold Post_X8_goToldAt at p
  dsimp only at p
  rw [vw, cf.1, cf.2.2.2, cw.2.2.1, cw.2.2.2.2.2.2.1, cw.2.2.2.2.2.2.2.1, cw.2.2.2.2.2.2.2.2.1] at p
  have hm0 : 0 ≤ hmM (g 1) i (absI (vPl (VM (g 1) i) (vT (VM (g 1) i) t) - g 1 7)) ∧ hmM (g 1) i (absI (vPl (VM (g 1) i) (vT (VM (g 1) i) t) - g 1 7)) ≤ 500 + 99 := by
    have b := plB hi.1 i (vT (VM (g 1) i) t)
    rw [VMtE h10] at b
    have n7 := d2.2.2.2.2.1
    have ab := absB (x := vPl (VM (g 1) i) (vT (VM (g 1) i) t) - g 1 7) (by grind) (by grind)
    exact harmB fb.2.2.2.2.1 fb.2.2.2.2.2 ab.1 ab.2 (by decide)
  have hmE : harmI (g 1 (fl4 i)) (g 1 (fl4 i + 3)) (absI (vPl (VM (g 1) i) (vT (VM (g 1) i) t) - g 1 7)) = hmM (g 1) i (absI (vPl (VM (g 1) i) (vT (VM (g 1) i) t) - g 1 7)) := rfl
  rw [hmE] at p
  generalize hmG : hmM (g 1) i (absI (vPl (VM (g 1) i) (vT (VM (g 1) i) t) - g 1 7)) = hm at p hm0
  have c3 : minI 99 (g 1 (fl4 i + 3) + 1) = heldI (g 1 (fl4 i + 3) + 1) 0 99 := minH (by have := fb.2.2.2.2; grind)
  have c12 : minI 9999 (g 1 2 + 1) = heldI (g 1 2 + 1) 0 9999 := minH (by have := d2.2.2.2.2.2.2.2.1; grind)
  have c13 : minI 9999 (g 1 3 + 1) = heldI (g 1 3 + 1) 0 9999 := minH (by have := d2.2.2.2.2.2.2.2.2.1; grind)
  have c14 : minI 99999 (g 1 4 + hm) = heldI (g 1 4 + hm) 0 99999 := minH (by have := d2.2.2.2.2.2.2.2.2.2; grind)
  rw [c3, c12, c13, c14] at p
  have q3 := CplFlU hc i 3 (heldI (g 1 (fl4 i + 3) + 1) 0 99) i6 (by decide)
  unfold RE_goes
  by_cases c : vCt (VM (g 1) i) t = true
  · rw [if_pos c] at p ⊢
    refine ⟨p.1, CplEqT ?_ p.2⟩
    have := CplUp q3 12 2 (heldI (g 1 2 + 1) 0 9999) (by decide)
    rwa [up2C _ _ _ (by omega)] at this
  · rw [if_neg c] at p ⊢
    rw [hmG]
    refine ⟨p.1, CplEqT ?_ p.2⟩
    have := CplUp (CplUp q3 13 3 (heldI (g 1 3 + 1) 0 9999) (by decide)) 14 4 (heldI (g 1 4 + hm) 0 99999) (by decide)
    dsimp only
    rw [up2C g (heldI (g 1 (fl4 i + 3) + 1) 0 99) _ (show ¬ fl4 i + 3 = 3 by omega), up2C _ (heldI (g 1 (fl4 i + 3) + 1) 0 99) _ (show ¬ fl4 i + 3 = 4 by omega)] at this
    exact this
theorem flySome {f g : Fn} {i : Nat} (hc : Cpl f g) (hi : InvM g) (h : ¬ f 1 7 ≤ nI i) (i6 : i ≤ 6) : i < 6 ∧ Val_X7_flyerOf f (nI i) = some (5 + i) ∧ (0 ≤ nI i ∧ nI i ≤ g 1 0 - 1) := by
  have c7 := (CplW hc).2.2.2.2.1
  obtain ⟨n, n1, n2, n3⟩ := n6 hi
  rw [c7, n2, nI_leI (by omega) (by omega)] at h
  have nn := Int32.not_lt.mp (nI_pos (n := i) (by omega))
  refine ⟨by omega, ?_, nn, ?_⟩
  · unfold Val_X7_flyerOf
    rw [if_pos ⟨nn, by rw [c7, n2]; exact nI_lt (by omega) (by omega), nI_lt (b := 6) (by omega) (by omega)⟩, nI_clamp (by omega)]
  · rw [n2]
    have : nI n - 1 = nI (n - 1) := by
      have : nI (n - 1) + 1 = nI n := by rw [nI_1]; congr 1; omega
      rw [← this]; grind
    rw [this]; exact nI_le (by omega) (by omega)
theorem gcdI_s (k : Nat) (a b : Int32) : gcdI (k + 1) a b = if b = 0 then a else gcdI k b (remI a b) := rfl
theorem gcdI_0 (k : Nat) (a : Int32) : gcdI k a 0 = a := by cases k <;> rfl
theorem trn_s (g : Fn) (s k : Nat) : trnN g s (k + 1) = if (trnN g s k).1 = k ∧ nI k < g 1 0 ∧ inP (g 9 (40 * s + k)) 1 3 then (k + 1, up2 (trnN g s k).2 1 (fl4 k + 2) (g 9 (40 * s + k))) else trnN g s k := rfl
theorem trn_z {g : Fn} {s k : Nat} (h : (trnN g s k).1 = k) (h2 : ¬ (nI k < g 1 0 ∧ inP (g 9 (40 * s + k)) 1 3)) : ∀ m, k ≤ m → trnN g s m = trnN g s k
  | 0, hm => by rw [show (0 : Nat) = k by omega]
  | m + 1, hm => by
    by_cases e : k = m + 1
    · rw [e]
    · have ih := trn_z h h2 m (by omega)
      rw [trn_s]
      by_cases e2 : k = m
      · subst e2; rw [if_neg (fun q => h2 q.2)]
      · rw [if_neg (fun q => by rw [ih, h] at q; exact e2 q.1)]; exact ih
theorem trn_k {g : Fn} {s : Nat} : ∀ k, (∀ a, ¬ a = 1 → (trnN g s k).2 a = g a) ∧ (trnN g s k).2 1 0 = g 1 0
  | 0 => ⟨fun _ _ => rfl, rfl⟩
  | k + 1 => by
    obtain ⟨a, b⟩ := trn_k (g := g) (s := s) k
    rw [trn_s]
    by_cases c : (trnN g s k).1 = k ∧ nI k < g 1 0 ∧ inP (g 9 (40 * s + k)) 1 3
    · rw [if_pos c]
      have fe : fl4 k = 18 + 4 * k := rfl
      exact ⟨fun x hx => (up2_row _ _ _ _ _ hx).trans (a x hx), by dsimp only; rw [up2_off _ _ (show (0 : Nat) ≠ fl4 k + 2 by omega)]; exact b⟩
    · rw [if_neg c]; exact ⟨a, b⟩
theorem jdg_s (g : Fn) (s k : Nat) : jdgN g s (k + 1) = if jdgN g s k = k ∧ nI k < g 1 0 ∧ g 9 (40 * s + k) = g 1 (fl4 k + 3) then k + 1 else jdgN g s k := rfl
theorem jdg_z {g : Fn} {s k : Nat} (h : jdgN g s k = k) (h2 : ¬ (nI k < g 1 0 ∧ g 9 (40 * s + k) = g 1 (fl4 k + 3))) : ∀ m, k ≤ m → jdgN g s m = k
  | 0, hm => by rw [show k = 0 by omega]; rfl
  | m + 1, hm => by
    by_cases e : k = m + 1
    · rw [← e]; exact h
    · have ih := jdg_z h h2 m (by omega)
      rw [jdg_s]
      by_cases e2 : k = m
      · subst e2; rw [if_neg (fun q => h2 q.2)]; exact h
      · rw [if_neg (fun q => by rw [ih] at q; exact e2 q.1)]; exact ih
theorem LawRc {h s d d1 : Nat → Int32} {u : Nat} (hl : LawR h s d u) (ht : txOK d u) (e0 : d1 (90 + u) = d (90 + u)) (e : ∀ j, j < 50 → d1 (112 + 50 * u + j) = d (112 + 50 * u + j)) : LawR h s d1 u := by
  obtain ⟨p1, p2, p3, p4⟩ := hl
  refine ⟨p1, p2, p3, ?_⟩
  rw [e0]
  rcases ht with ht | ⟨n, n1, n2, n3, n4, n5⟩
  · rcases p4 with p4 | p4
    · exact Or.inl p4
    · exact absurd p4.1 (by rw [ht]; decide)
  · rcases p4 with p4 | ⟨q0, xs, q1, q2, q3, q4⟩
    · exact Or.inl p4
    · refine Or.inr ⟨q0, xs, ?_, q2, q3, q4⟩
      have en : ix (d (90 + u)) = n := by rw [n3]; exact nI_clamp (by omega)
      rw [en] at q1 ⊢
      rw [txB e n2]; exact q1
/-- a world that is copied is what it was copied from -/
theorem wcpRel {f f1 : Fn} {t s : Nat} {d d2 : Nat → Int32} (w : wcp f f1 t s) (h : WRel f s d) (t0 : txOK d 0) (t1 : txOK d 1) (k0 : f (t + 11) 0 = 1 ∧ f (t + 11) 1 = 1 ∧ f (t + 11) 2 = 30) (k1 : f (t + 14) 0 = 0 ∧ f (t + 14) 1 = -99 ∧ f (t + 14) 2 = 99) (e : ∀ j, j < 264 → d2 j = d j) (e8 : ∀ j, j < 264 → True) : WRel f1 t d2 := by
  obtain ⟨w1, w2, w3, w4, w5, w6, w7, w8, w9, w10, w11, w12, w13⟩ := w
  obtain ⟨p1, p2, p3, p4, p5, p6, p7, p8, p9, p10, p11, p12, p13, p14, p15, p16, p17, p18⟩ := h
  have law : ∀ (u b : Nat), u < 2 → txOK d u → LawR (f (s + b)) (f (s + (b + 1))) d u → f1 (t + b) 0 = (if u = 0 then 1 else 0) → f1 (t + b) 1 = lawLo u → f1 (t + b) 2 = lawHi u → f1 (t + b) 5 = minI (f (s + b) 5) 50 → (∀ j, j < (minI (f (s + b) 5) 50).toNatClampNeg → f1 (t + (b + 1)) j = f (s + (b + 1)) j) → LawR (f1 (t + b)) (f1 (t + (b + 1))) d2 u := fun u b hu tx hl a0 a1 a2 a5 aj => by
    have hl2 := LawRc (d1 := d2) hl tx (e _ (by omega)) (fun j hj => e _ (by omega))
    obtain ⟨q1, q2, q3, q4⟩ := hl2
    refine ⟨a0, a1, a2, ?_⟩
    rcases q4 with ⟨r1, r2⟩ | ⟨r0, xs, r1, r2, r3, r4⟩
    · exact Or.inl ⟨r1, by rw [a5, r2]; decide⟩
    · have m : minI (f (s + b) 5) 50 = nI xs.length := by
        rw [r3]
        unfold minI
        rw [if_neg (by show ¬ nI 50 < nI xs.length; rw [nI_ltI (by decide) (by omega)]; omega)]
      refine Or.inr ⟨r0, xs, r1, r2, a5.trans m, fun j hj => ?_⟩
      rw [aj j (by rw [m, nI_clamp (by omega)]; exact hj)]
      exact r4 j hj
  refine ⟨fun j hj => by rw [w3 j hj, p1 j hj, e _ (by omega)], fun j hj => by rw [w4 j hj, p2 j hj, e _ (by omega)], by rw [w2 2 (by omega), p3, e _ (by omega)], by rw [w2 3 (by omega), p4, e _ (by omega)], by rw [w2 4 (by omega), p5, e _ (by omega)], by rw [w2 5 (by omega), p6, e _ (by omega)], by rw [w2 7 (by omega), p7, e _ (by omega)], by rw [w2 9 (by omega), p8, e _ (by omega)], by rw [w2 12 (by omega), p9, e _ (by omega)], by rw [w2 13 (by omega), p10, e _ (by omega)], by rw [w2 14 (by omega), p11, e _ (by omega)], by rw [w2 15 (by omega), p12, e _ (by omega)], by rw [w2 17 (by omega), p13, e _ (by omega)], fun i j hi hj => by rw [w5 i j hi hj, p14 i j hi hj, e _ (by unfold fl4; omega)], fun j hj => by rw [w6 j hj, p15 j hj, e _ (by omega)], fun j hj => by rw [w7 j hj, p16 j hj, e _ (by omega)], ?_, ?_⟩
  · exact law 0 11 (by omega) t0 p17 ((w8 0 (by omega)).trans k0.1) ((w8 1 (by omega)).trans k0.2.1) ((w8 2 (by omega)).trans k0.2.2) w9 w10
  · exact law 1 14 (by omega) t1 p18 ((w11 0 (by omega)).trans k1.1) ((w11 1 (by omega)).trans k1.2.1) ((w11 2 (by omega)).trans k1.2.2) w12 w13
/-- the bytes that are fed -/
theorem CplByt {f f1 g g1 : Fn} (h : Cpl f g) (hi : InvM g) (e : ∀ a, ¬ a = 1 → ¬ a = 11 → f1 a = f a) (e1 : ∀ j, ¬ j = 9 → f1 1 j = f 1 j) (e2 : ∀ a, ¬ a = 1 → g1 a = g a) (e3 : ∀ j, j < 212 → ¬ j = 9 → g1 1 j = g 1 j) (s1 : f1 1 9 = g1 1 9) (s2 : ∀ j, j < 50 → f1 11 j = g1 1 (212 + j)) : Cpl f1 g1 := by
  have tx := txI hi.1
  refine CplRow h ?_ (fun a ha => e a (by omega) (by omega)) e2
  obtain ⟨⟨p1, p2, p3, p4, p5, p6, p7, p8, p9, p10, p11, p12, p13, p14, p15, p16, p17, p18⟩, -⟩ := h
  unfold WRel
  rw [e (1 + 1) (by omega) (by omega), e (1 + 2) (by omega) (by omega), e (1 + 17) (by omega) (by omega), e (1 + 11) (by omega) (by omega), e (1 + 12) (by omega) (by omega), e (1 + 14) (by omega) (by omega), e (1 + 15) (by omega) (by omega), e1 2 (by omega), e1 3 (by omega), e1 4 (by omega), e1 5 (by omega), e1 7 (by omega), e1 12 (by omega), e1 13 (by omega), e1 14 (by omega), e1 15 (by omega), e1 17 (by omega), e3 5 (by omega) (by omega), e3 6 (by omega) (by omega), e3 7 (by omega) (by omega), e3 1 (by omega) (by omega), e3 0 (by omega) (by omega), e3 2 (by omega) (by omega), e3 3 (by omega) (by omega), e3 4 (by omega) (by omega), e3 8 (by omega) (by omega), e3 10 (by omega) (by omega)]
  exact ⟨fun q hq => by rw [e3 _ (by omega) (by omega)]; exact p1 q hq, fun q hq => by rw [e3 _ (by omega) (by omega)]; exact p2 q hq, p3, p4, p5, p6, p7, s1, p9, p10, p11, p12, p13, fun a b ha hb => by rw [e _ (by omega) (by omega), e3 _ (by unfold fl4; omega) (by unfold fl4; omega)]; exact p14 a b ha hb, s2, fun q hq => by rw [e3 _ (by omega) (by omega)]; exact p16 q hq, LawRc p17 tx.1 (e3 _ (by omega) (by omega)) (fun j hj => e3 _ (by omega) (by omega)), LawRc p18 tx.2 (e3 _ (by omega) (by omega)) (fun j hj => e3 _ (by omega) (by omega))⟩
