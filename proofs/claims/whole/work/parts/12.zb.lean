theorem nx_c {b b2 : Nat → Int32} {n : Nat} (h : ∀ j, j < n → b j = b2 j) : nxI b n = nxI b2 n := funext fun p => by
  unfold nxI
  by_cases q : p < n
  · rw [if_pos q, if_pos q, h p q]
  · rw [if_neg q, if_neg q]
theorem numK_c {b b2 : Nat → Int32} {n : Nat} (h : nxI b n = nxI b2 n) (p : Nat) : ∀ k, numK b n p k = numK b2 n p k
  | 0 => by rw [numK, numK]
  | k + 1 => by rw [numK, numK, h, numK_c h p k]
theorem pLoop_c {b b2 : Nat → Int32} {n lv : Nat} {rd : Nat → PR} (h : nxI b n = nxI b2 n) : ∀ k r, pLoop rd b n lv k r = pLoop rd b2 n lv k r
  | 0, r => by rw [pLoop, pLoop]
  | k + 1, r => by rw [pLoop, pLoop, h, pLoop_c h k]
theorem psR_c {b b2 : Nat → Int32} {n : Nat} (h : nxI b n = nxI b2 n) : ∀ d, psR b n d = psR b2 n d
  | 0 => by funext lv op p; rw [psR, psR]
  | d + 1 => by
    funext lv op p
    rw [psR, psR, psR_c h d, h, numK_c h p 4, pLoop_c h]
theorem pT_c {b b2 : Nat → Int32} {n : Nat} (h : ∀ j, j < n → b j = b2 j) : pT b n = pT b2 n := by
  unfold pT
  rw [psR_c (nx_c h)]
theorem txB {d d1 : Nat → Int32} {u n : Nat} (e : ∀ j, j < 50 → d1 (112 + 50 * u + j) = d (112 + 50 * u + j)) (hn : n ≤ 50) : pT (txb d1 u) n = pT (txb d u) n := pT_c fun j hj => e j (by omega)
theorem txOKc {d d1 : Nat → Int32} {u : Nat} (h : txOK d u) (e0 : d1 (90 + u) = d (90 + u)) (e : ∀ j, j < 50 → d1 (112 + 50 * u + j) = d (112 + 50 * u + j)) : txOK d1 u := by
  rcases h with h | ⟨n, n1, n2, n3, n4, n5⟩
  · exact Or.inl (e0.trans h)
  · exact Or.inr ⟨n, n1, n2, e0.trans n3, by rw [txB e n2]; exact n4, by rw [txB e n2]; exact n5⟩
theorem lawDx {d d1 : Nat → Int32} {u : Nat} (h : txOK d u) (e0 : d1 (90 + u) = d (90 + u)) (e : ∀ j, j < 50 → d1 (112 + 50 * u + j) = d (112 + 50 * u + j)) : lawD d1 u = lawD d u := by
  funext k v m
  unfold lawD
  rw [e0]
  rcases h with h | ⟨n, n1, n2, n3, n4, n5⟩
  · rw [h, if_neg (show ¬ (0 : Int32) < 0 by decide), if_neg (show ¬ (0 : Int32) < 0 by decide)]
  · have : (d (90 + u)).toNatClampNeg = n := by rw [n3]; exact nI_clamp (by omega)
    rw [this, txB e n2]
theorem swOKc {d d1 : Nat → Int32} {s : Nat} (h : swOK d s) (e : ∀ j, j < 3 → d1 (12 + 3 * s + j) = d (12 + 3 * s + j)) : swOK d1 s := by
  obtain ⟨p, w, x, h1, h2, h3, h4, h5, e1, e2, e3⟩ := h
  exact ⟨p, w, x, h1, h2, h3, h4, h5, (e 0 (by decide)).trans e1, (e 1 (by decide)).trans e2, (e 2 (by decide)).trans e3⟩
theorem flOKc {d d1 : Nat → Int32} {i : Nat} (h : flOK d i) (e : ∀ j, j < 4 → d1 (18 + 4 * i + j) = d (18 + 4 * i + j)) : flOK d1 i := by
  obtain ⟨k, m, t, q, h1, h2, h3, h4, h5, e1, e2, e3, e4⟩ := h
  exact ⟨k, m, t, q, h1, h2, h3, h4, h5, (e 0 (by decide)).trans e1, (e 1 (by decide)).trans e2, (e 2 (by decide)).trans e3, (e 3 (by decide)).trans e4⟩
/-- a row that differs in slots of the swings alone -/
theorem dOKs {d d1 : Nat → Int32} (h : dOK d) (e : ∀ j, ¬ (12 ≤ j ∧ j < 18) → d1 j = d j) (s0 : swOK d1 0) (s1 : swOK d1 1) : dOK d1 := by
  obtain ⟨-, -, p3, p4, ⟨n, n1, n2, n3⟩, p6, p7, p8, p9, p10, p11, p12, p13, p14, p15⟩ := h
  refine ⟨s0, s1, txOKc p3 (e _ (by omega)) (fun j hj => e _ (by omega)), txOKc p4 (e _ (by omega)) (fun j hj => e _ (by omega)), ⟨n, n1, by rw [e _ (by omega)]; exact n2, fun i hi => flOKc (n3 i hi) fun j hj => e _ (by omega)⟩, ?_⟩
  simp only [e 1 (by omega), e 5 (by omega), e 6 (by omega), e 7 (by omega), e 9 (by omega), e 10 (by omega), e 2 (by omega), e 3 (by omega), e 4 (by omega)]
  exact ⟨p6, p7, p8, p9, p10, p11, p12, p13, p14, fun k hk => by rw [e _ (by omega)]; exact p15 k hk⟩
theorem updE (d : Nat → Int32) (j : Nat) (v : Int32) : upd d j v j = v := by simp [upd]
theorem updN (d : Nat → Int32) (j : Nat) (v : Int32) {k : Nat} (h : ¬ k = j) : upd d j v k = d k := by simp [upd, h]
theorem dOK13 {d : Nat → Int32} (h : dOK d) (m : Nat) (h1 : 1 ≤ m) (h2 : m ≤ 60) : dOK (upd d 13 (nI m)) := by
  obtain ⟨p, w, x, a1, a2, a3, a4, a5, e1, e2, e3⟩ := h.1
  exact dOKs h (fun j hj => updN _ _ _ (by omega)) ⟨p, m, x, a1, a2, h1, h2, a5, (updN _ _ _ (by decide)).trans e1, updE _ _ _, (updN _ _ _ (by decide)).trans e3⟩ (swOKc h.2.1 fun j hj => updN _ _ _ (by omega))
theorem dOK17 {d : Nat → Int32} (h : dOK d) (x : Int32) (h1 : 0 ≤ x) (h2 : x < d 15) : dOK (upd d 17 x) := by
  obtain ⟨p, w, y, a1, a2, a3, a4, a5, e1, e2, e3⟩ := h.2.1
  have e1' : d 15 = nI p := e1
  have hx : x = nI x.toNatClampNeg := (nItn h1).symm
  have hl : x.toNatClampNeg < p := by
    rw [e1', hx, nI_ltI (tncB x) (by omega)] at h2
    exact h2
  refine dOKs h (fun j hj => updN _ _ _ (by omega)) (swOKc h.1 fun j hj => updN _ _ _ (by omega)) ⟨p, w, x.toNatClampNeg, a1, a2, a3, a4, hl, (updN _ _ _ (by decide)).trans e1, (updN _ _ _ (by decide)).trans e2, ?_⟩
  exact (updE _ _ _).trans hx
theorem VM13 {d : Nat → Int32} (h : dOK d) (i : Nat) (w : Int32) : VM (upd d 13 w) i = widV (VM d i) w := by
  have t := txI h
  have l0 : lawD (upd d 13 w) 0 = lawD d 0 := lawDx t.1 (updN _ _ _ (by decide)) fun j hj => updN _ _ _ (by omega)
  have l1 : lawD (upd d 13 w) 1 = lawD d 1 := lawDx t.2 (updN _ _ _ (by decide)) fun j hj => updN _ _ _ (by omega)
  have u : ∀ k, ¬ k = 13 → upd d 13 w k = d k := fun k hk => updN _ _ _ hk
  have ll : (fun (u : Nat) (k v m : Int32) => lawD (upd d 13 w) (if u = 0 then 0 else 1) k v m) = fun (u : Nat) (k v m : Int32) => lawD d (if u = 0 then 0 else 1) k v m := by
    funext u k v m
    by_cases hu : u = 0
    · rw [if_pos hu, l0]
    · rw [if_neg hu, l1]
  unfold VM
  rw [ll]
  unfold flq lagM
  simp only [u 12 (by omega), u 14 (by omega), u 15 (by omega), u 16 (by omega), u 17 (by omega), u 5 (by omega), u 6 (by omega), u 7 (by omega), u 1 (by omega), u (18 + 4 * i) (by omega), u (18 + 4 * i + 1) (by omega), u (18 + 4 * i + 2) (by omega), u (18 + 4 * i + 3) (by omega), updE]
  rfl
theorem VM17 {d : Nat → Int32} (h : dOK d) (i : Nat) (w : Int32) : VM (upd d 17 w) i = phaV (VM d i) w := by
  have t := txI h
  have l0 : lawD (upd d 17 w) 0 = lawD d 0 := lawDx t.1 (updN _ _ _ (by decide)) fun j hj => updN _ _ _ (by omega)
  have l1 : lawD (upd d 17 w) 1 = lawD d 1 := lawDx t.2 (updN _ _ _ (by decide)) fun j hj => updN _ _ _ (by omega)
  have u : ∀ k, ¬ k = 17 → upd d 17 w k = d k := fun k hk => updN _ _ _ hk
  have ll : (fun (u : Nat) (k v m : Int32) => lawD (upd d 17 w) (if u = 0 then 0 else 1) k v m) = fun (u : Nat) (k v m : Int32) => lawD d (if u = 0 then 0 else 1) k v m := by
    funext u k v m
    by_cases hu : u = 0
    · rw [if_pos hu, l0]
    · rw [if_neg hu, l1]
  unfold VM
  rw [ll]
  unfold flq lagM
  simp only [u 12 (by omega), u 13 (by omega), u 14 (by omega), u 15 (by omega), u 16 (by omega), u 5 (by omega), u 6 (by omega), u 7 (by omega), u 1 (by omega), u (18 + 4 * i) (by omega), u (18 + 4 * i + 1) (by omega), u (18 + 4 * i + 2) (by omega), u (18 + 4 * i + 3) (by omega), updE]
  rfl
theorem resM {f0 f : Fn} {j : Nat} {v : Int32} (h : frG (up2 f0 1 j v) f) : eqM f0 (up2 f 1 j (f0 1 j)) := by
  have g := frGM h
  have e := eqMu g 1 j (f0 1 j)
  have : up2 (up2 f0 1 j v) 1 j (f0 1 j) = f0 := by
    funext a b
    rw [up2_ap, up2_ap]
    by_cases ha : a = 1
    · subst ha
      rw [if_pos rfl]
      by_cases hb : b = j
      · rw [if_pos hb, hb]
      · rw [if_neg hb, if_pos rfl, if_neg hb]
    · rw [if_neg ha, if_neg ha]
  rwa [this] at e
theorem row1 {f0 f : Fn} {j : Nat} {v : Int32} (h : frG (up2 f0 1 j v) f) (w : Int32) : up2 f 1 j w 1 = upd (f0 1) j w := by
  rw [up2_same, frG1 h, up2_same]
  funext k
  unfold upd
  by_cases hk : k = j
  · rw [if_pos hk, if_pos hk]
  · rw [if_neg hk, if_neg hk, if_neg hk]
theorem row1g {f0 f f2 : Fn} {j : Nat} {v w : Int32} (h : frG (up2 f0 1 j v) f) (h2 : frG (up2 f 1 j w) f2) : frG (up2 f0 1 j w) f2 := by
  refine frG_t ⟨fun a h0 h4 => ?_, fun i hi => ?_⟩ h2
  · by_cases ha : a = 1
    · subst ha
      rw [row1 h w, up2_same]
    · rw [up2_row _ _ _ _ _ ha, up2_row _ _ _ _ _ ha, h.1 a h0 h4, up2_row _ _ _ _ _ ha]
  · rw [up2_row _ _ _ _ _ (by decide), up2_row _ _ _ _ _ (by decide), h.2 i hi, up2_row _ _ _ _ _ (by decide)]
theorem frUs (f : Fn) (j : Nat) : frG (up2 f 1 j (f 1 j)) f := by rw [up2_self]; exact frG_0 f
theorem fmodB {x p : Int32} (h : 4 ≤ p) (h2 : p ≤ 40) : 0 ≤ absI (2 * fmodI x p - p) ∧ absI (2 * fmodI x p - p) ≤ p := by
  have m := (fmodP (x := x) (p := p) (by grind)).2
  generalize fmodI x p = z at m
  have hz : z < 40 := by grind
  have hz2 := m.1
  have hz3 := m.2
  unfold absI
  by_cases q : 0 ≤ 2 * z - p
  · rw [if_pos q]; exact ⟨q, by grind⟩
  · rw [if_neg q]; grind
theorem swB {d : Nat → Int32} {s : Nat} (h : swOK d s) (t : Int32) : -60 ≤ swV (sw3 d s) t ∧ swV (sw3 d s) t ≤ 60 := by
  have w := swF h
  have e : swV (sw3 d s) t = 2 * d (12 + 3 * s + 1) * absI (2 * fmodI (t + d (12 + 3 * s + 2)) (d (12 + 3 * s)) - d (12 + 3 * s)) / d (12 + 3 * s) - d (12 + 3 * s + 1) := by
    unfold swV
    rw [if_neg (show ¬ sw3 d s 0 < 4 by show ¬ d (12 + 3 * s) < 4; rw [Int32.not_lt]; exact w.1.1)]
    rfl
  rw [e]
  have b := fmodB (x := t + d (12 + 3 * s + 2)) w.1.1 w.1.2
  generalize absI (2 * fmodI (t + d (12 + 3 * s + 2)) (d (12 + 3 * s)) - d (12 + 3 * s)) = z at b
  obtain ⟨⟨p1, p2⟩, ⟨w1, w2⟩, -⟩ := w
  generalize d (12 + 3 * s) = p at p1 p2 b
  generalize d (12 + 3 * s + 1) = w at w1 w2
  have hp : 0 < p := by grind
  rw [Int32.le_iff_toInt_le] at p1 p2 w1 w2
  obtain ⟨b1, b2⟩ := b
  rw [Int32.le_iff_toInt_le] at b1 b2
  simp at p1 p2 w1 w2 b1
  have e2 : (2 * w).toInt = 2 * w.toInt := by
    rw [Int32.toInt_mul]; exact Int.bmod_eq_of_le (by simp; omega) (by simp; omega)
  have l1 : 2 * w.toInt * z.toInt ≤ 120 * 40 := Int.mul_le_mul (by omega) (by omega) b1 (by omega)
  have l0 : 0 ≤ 2 * w.toInt * z.toInt := Int.mul_nonneg (by omega) b1
  have e3 : (2 * w * z).toInt = 2 * w.toInt * z.toInt := by
    rw [Int32.toInt_mul, e2]; exact Int.bmod_eq_of_le (by omega) (by omega)
  have e4 : (2 * w * z / p).toInt = (2 * w.toInt * z.toInt) / p.toInt := by
    rw [divT hp, e3]; exact Int.tdiv_eq_ediv_of_nonneg l0
  have q0 : 0 ≤ (2 * w.toInt * z.toInt) / p.toInt := Int.ediv_nonneg l0 (by omega)
  have q1 : (2 * w.toInt * z.toInt) / p.toInt ≤ 2 * w.toInt := by
    apply Int.ediv_le_of_le_mul (by omega)
    exact Int.mul_le_mul_of_nonneg_left b2 (by omega)
  have e5 : (2 * w * z / p - w).toInt = (2 * w.toInt * z.toInt) / p.toInt - w.toInt := by
    rw [Int32.toInt_sub, e4]; exact Int.bmod_eq_of_le (by omega) (by omega)
  rw [Int32.le_iff_toInt_le, Int32.le_iff_toInt_le, e5]
  simp
  omega
theorem lawB (d : Nat → Int32) (k v m : Int32) : -99 ≤ lawD d 1 k v m ∧ lawD d 1 k v m ≤ 99 := by
  unfold lawD heldI lawLo lawHi
  generalize (if 0 < d (90 + 1) then _ else _ : Int32) = x
  grind
theorem plB {g : Fn} (h : dOK (g 1)) (i : Nat) (t : Int32) : -159 ≤ vPl (VMt g i) t ∧ vPl (VMt g i) t ≤ 159 := by
  have vv := VMt_v g i
  have a := swB (dF1 h).1 t
  unfold vPl vP
  rw [vv.1, vv.2.2.2.1]
  have b := lawB (g 1) (vY (VMt g i) 2) (vV (VMt g i) t) (vY (VMt g i) 1)
  show -159 ≤ swV (sw3 (g 1) 0) t + lawD (g 1) 1 _ _ _ ∧ swV (sw3 (g 1) 0) t + lawD (g 1) 1 _ _ _ ≤ 159
  generalize lawD (g 1) 1 (vY (VMt g i) 2) (vV (VMt g i) t) (vY (VMt g i) 1) = x at b
  generalize swV (sw3 (g 1) 0) t = y at a
  grind
theorem fl3B {d : Nat → Int32} {a : Int32} (h : dOK d) (q : 0 ≤ a ∧ a ≤ d 0 - 1) : vp_in a 6 ∧ a.toNatClampNeg < 6 ∧ (0 ≤ d (fl4 a.toNatClampNeg) ∧ d (fl4 a.toNatClampNeg) ≤ 6) ∧ (0 ≤ d (fl4 a.toNatClampNeg + 1) ∧ d (fl4 a.toNatClampNeg + 1) ≤ 9) ∧ 0 ≤ d (fl4 a.toNatClampNeg + 3) ∧ d (fl4 a.toNatClampNeg + 3) ≤ 99 := by
  have i0 := (dF2 h).1
  have ha : a < 6 := by grind
  have h3 : a.toNatClampNeg ≤ (5 : Int32).toNatClampNeg := tncLe (by grind)
  rw [tn5] at h3
  have hn := nItn q.1
  obtain ⟨kk, m, t, r, c1, c2, c3, c4, c5, c6, c7, c8, c9⟩ := dF3 h a.toNatClampNeg (by rw [hn]; grind) (by omega)
  refine ⟨by rw [vp6]; exact ⟨q.1, ha⟩, by omega, ?_, ?_, ?_⟩
  · rw [show fl4 a.toNatClampNeg = 18 + 4 * a.toNatClampNeg from rfl, c6]; exact nIb c1 (by decide) rfl
  · rw [show fl4 a.toNatClampNeg = 18 + 4 * a.toNatClampNeg from rfl, c7]; exact nIb c2 (by decide) rfl
  · rw [show fl4 a.toNatClampNeg = 18 + 4 * a.toNatClampNeg from rfl, c9]; exact nIb c5 (by decide) rfl
theorem absB {x : Int32} (h : -500 ≤ x) (h2 : x ≤ 500) : 0 ≤ absI x ∧ absI x ≤ 500 := by
  unfold absI
  by_cases q : 0 ≤ x
  · rw [if_pos q]; exact ⟨q, h2⟩
  · rw [if_neg q]; grind
theorem harmB {k q v N : Int32} (hk : 0 ≤ q) (hq : q ≤ 99) (hv : 0 ≤ v) (hN : v ≤ N) (hM : N ≤ 100000) : 0 ≤ harmI k q v ∧ harmI k q v ≤ N + 99 := by
  unfold harmI
  by_cases h3 : k = 3
  · rw [if_pos h3]; grind
  · rw [if_neg h3]
    by_cases h6 : k = 6
    · rw [if_pos h6]
      have s : 0 ≤ v + q ∧ v + q ≤ N + 99 := by grind
      have hl : v + q ≤ 100099 := by grind
      generalize v + q = s0 at s hl
      have e : (s0 / 2).toInt = s0.toInt.tdiv 2 := divT (p := 2) (by decide)
      obtain ⟨s1, s2⟩ := s
      have s1' := s1
      rw [Int32.le_iff_toInt_le] at s1
      simp at s1
      rw [Int.tdiv_eq_ediv_of_nonneg s1] at e
      have u1 : 0 ≤ s0 / 2 := by rw [Int32.le_iff_toInt_le, e]; simp; omega
      have u2 : s0 / 2 ≤ s0 := by rw [Int32.le_iff_toInt_le, e]; omega
      exact ⟨u1, Int32.le_trans u2 s2⟩
    · rw [if_neg h6]; grind
theorem shI {g : Fn} (h : InvM g) {a : Int32} (h1 : 0 ≤ a) (h2 : a ≤ 3) : a.toNatClampNeg < 4 ∧ vp_in a 4 ∧ 0 ≤ g 8 a.toNatClampNeg ∧ g 8 a.toNatClampNeg ≤ 40 := by
  have h3 : a.toNatClampNeg ≤ (3 : Int32).toNatClampNeg := tncLe h2
  rw [tn3] at h3
  have := InvS h a.toNatClampNeg (by omega)
  exact ⟨by omega, by rw [vp4]; grind, this.2.1, this.2.2⟩
theorem sh40 {a i : Int32} (h1 : 0 ≤ a) (h2 : a ≤ 3) (h3 : 0 ≤ i) (h4 : i < 40) : vp_in (40 * a + i) 160 ∧ (40 * a + i).toNatClampNeg = 40 * a.toNatClampNeg + i.toNatClampNeg := by
  refine ⟨by rw [vp160]; grind, ?_⟩
  rw [tncA _ _ (by grind) h3 (by grind) (by grind), tncM 40 a h1 (by grind) (by decide) (by decide), tn40]
theorem tn13 : (13 : Int32).toNatClampNeg = 13 := by decide
theorem tn14 : (14 : Int32).toNatClampNeg = 14 := by decide
theorem tn15 : (15 : Int32).toNatClampNeg = 15 := by decide
theorem tn16 : (16 : Int32).toNatClampNeg = 16 := by decide
theorem tn17 : (17 : Int32).toNatClampNeg = 17 := by decide
