theorem eqM_t {a b c : Fn} (h : eqM a b) (h2 : eqM b c) : eqM a c := by
  obtain ⟨a1, a2, a3, a4, a5, a6, a7, a8, a9, a10⟩ := h
  obtain ⟨b1, b2, b3, b4, b5, b6, b7, b8, b9, b10⟩ := h2
  exact ⟨b1.trans a1, b2.trans a2, b3.trans a3, b4.trans a4, b5.trans a5, b6.trans a6, b7.trans a7, b8.trans a8, b9.trans a9, b10.trans a10⟩
theorem frGM {f f1 : Fn} (h : frG f f1) : eqM f f1 := by
  obtain ⟨h1, h2⟩ := h
  exact ⟨h1 1 (by decide) (by decide), h1 2 (by decide) (by decide), h1 3 (by decide) (by decide), h1 6 (by decide) (by decide), h1 7 (by decide) (by decide), h1 8 (by decide) (by decide), h1 9 (by decide) (by decide), h2 2 (by decide), h2 10 (by decide), h2 20 (by decide)⟩
theorem frTG {f f1 : Fn} (h : frT f f1) : frG f f1 := ⟨h.1, fun j hj => h.2 j (by omega) (by omega) (by omega) (by omega) (by omega)⟩
theorem frTM {f f1 : Fn} (h : frT f f1) : eqM f f1 := frGM (frTG h)
theorem frG_0 (f : Fn) : frG f f := ⟨fun _ _ _ => rfl, fun _ _ => rfl⟩
theorem frG_t {a b c : Fn} (h : frG a b) (h2 : frG b c) : frG a c := ⟨fun x p q => (h2.1 x p q).trans (h.1 x p q), fun j hj => (h2.2 j hj).trans (h.2 j hj)⟩
theorem frG_u {a b : Fn} (h : frG a b) (j : Nat) (v : Int32) (h1 : 11 ≤ j) (h2 : j ≤ 14) : frG a (up2 b 0 j v) := ⟨fun x p q => by rw [up2_row _ _ _ _ _ p]; exact h.1 x p q, fun i hi => by rw [up2_off _ _ (by omega)]; exact h.2 i hi⟩
theorem frG1 {f f1 : Fn} (h : frG f f1) : f1 1 = f 1 := h.1 1 (by decide) (by decide)
theorem frG10 {f f1 : Fn} (h : frG f f1) : f1 0 10 = f 0 10 := h.2 10 (by decide)
theorem finK {f f9 f1 : Fn} {r : Int32} (k : Nat) (x : Int32) (hx : nI k = x) (h5 : k ≤ 5) (h : eqM f f9) (p : Post_X9_finds f9 x r f1) : r = (er f k).1 ∧ eqM (er f k).2 f1 := by
  subst hx
  obtain ⟨p1, p2⟩ := p
  rw [ix, nI_clamp (by omega)] at p2
  subst p1 p2
  refine ⟨rfl, ?_⟩
  obtain ⟨a1, a2, a3, a4, a5, a6, a7, a8, a9, a10⟩ := h
  have r3 : ∀ a, ¬ a = 3 → up2 f9 3 k (f9 3 k + 1) a = f9 a := fun a ha => up2_row _ _ _ _ _ ha
  have r4 : ∀ a, ¬ a = 3 → up2 f 3 k (f 3 k + 1) a = f a := fun a ha => up2_row _ _ _ _ _ ha
  show eqM (up2 f 3 k (f 3 k + 1)) (up2 f9 3 k (f9 3 k + 1))
  unfold eqM
  rw [r3 1 (by decide), r3 2 (by decide), r3 6 (by decide), r3 7 (by decide), r3 8 (by decide), r3 9 (by decide), r3 0 (by decide), r4 1 (by decide), r4 2 (by decide), r4 6 (by decide), r4 7 (by decide), r4 8 (by decide), r4 9 (by decide), r4 0 (by decide)]
  refine ⟨a1, a2, ?_, a4, a5, a6, a7, a8, a9, a10⟩
  rw [up2_same, up2_same, a3]
theorem fin1 {f f9 f1 : Fn} {r : Int32} (h : eqM f f9) (p : Post_X9_finds f9 1 r f1) : r = (er f 1).1 ∧ eqM (er f 1).2 f1 := finK 1 1 ni1 (by decide) h p
theorem fin2 {f f9 f1 : Fn} {r : Int32} (h : eqM f f9) (p : Post_X9_finds f9 2 r f1) : r = (er f 2).1 ∧ eqM (er f 2).2 f1 := finK 2 2 ni2 (by decide) h p
theorem fin3 {f f9 f1 : Fn} {r : Int32} (h : eqM f f9) (p : Post_X9_finds f9 3 r f1) : r = (er f 3).1 ∧ eqM (er f 3).2 f1 := finK 3 3 ni3 (by decide) h p
theorem fin4 {f f9 f1 : Fn} {r : Int32} (h : eqM f f9) (p : Post_X9_finds f9 4 r f1) : r = (er f 4).1 ∧ eqM (er f 4).2 f1 := finK 4 4 ni4 (by decide) h p
theorem fin5 {f f9 f1 : Fn} {r : Int32} (h : eqM f f9) (p : Post_X9_finds f9 5 r f1) : r = (er f 5).1 ∧ eqM (er f 5).2 f1 := finK 5 5 ni5 (by decide) h p
theorem pf1 (f : Fn) : Pre_X9_finds f 1 := by unfold Pre_X9_finds vp_in; decide
theorem pf2 (f : Fn) : Pre_X9_finds f 2 := by unfold Pre_X9_finds vp_in; decide
theorem pf3 (f : Fn) : Pre_X9_finds f 3 := by unfold Pre_X9_finds vp_in; decide
theorem pf4 (f : Fn) : Pre_X9_finds f 4 := by unfold Pre_X9_finds vp_in; decide
theorem pf5 (f : Fn) : Pre_X9_finds f 5 := by unfold Pre_X9_finds vp_in; decide
theorem isF6 {f : Fn} {a : Int32} (h : InvM f) (q : isF f a) : vp_in a 6 ∧ ix a < 6 ∧ 0 ≤ a ∧ a < 6 ∧ a < f 1 0 := by
  have := InvF0 h
  obtain ⟨q1, q2⟩ := q
  have h2 : a < 6 := by grind
  have h3 : a.toNatClampNeg ≤ (5 : Int32).toNatClampNeg := tncLe (by grind)
  rw [tn5] at h3
  exact ⟨by rw [vp6]; exact ⟨q1, h2⟩, by show a.toNatClampNeg < 6; omega, q1, h2, by grind⟩
theorem VMtE {f : Fn} (h : f 0 10 = -1) (i : Nat) : VMt f i = VM (f 1) i := by unfold VMt; rw [h, if_neg (by decide)]
theorem VMt_v (f : Fn) (i : Nat) : vN (VMt f i) = sw3 (f 1) 0 ∧ vF (VMt f i) = sw3 (f 1) 1 ∧ vY (VMt f i) = flq (f 1) i ∧ vL (VMt f i) = (fun u k v m => lawD (f 1) (if u = 0 then 0 else 1) k v m) ∧ vW (VMt f i) 0 = f 1 5 ∧ vW (VMt f i) 1 = f 1 6 ∧ vW (VMt f i) 2 = f 1 7 ∧ vW (VMt f i) 3 = f 1 1 ∧ vW (VMt f i) 4 = (if 0 ≤ f 0 10 then f 0 10 else lagM (f 1) i) ∧ vHd (VMt f i) = vHd (VM (f 1) i) := by
  unfold VMt
  by_cases h : 0 ≤ f 0 10
  · rw [if_pos h, if_pos h]; exact ⟨rfl, rfl, rfl, rfl, rfl, rfl, rfl, rfl, rfl, rfl⟩
  · rw [if_neg h, if_neg h]; exact ⟨rfl, rfl, rfl, rfl, rfl, rfl, rfl, rfl, rfl, rfl⟩
theorem VMtF {f f1 : Fn} (h : frG f f1) (i : Nat) : VMt f1 i = VMt f i := by
  unfold VMt
  rw [frG1 h, frG10 h]
theorem offT {f f1 : Fn} {i : Nat} {t : Int32} (h : f1 1 = f 1) (h1 : f1 0 11 = vC (VMt f i) t) (h2 : f1 0 12 = vPl (VMt f i) t) : Val_X9_offNow f1 = vOff (VMt f i) t 0 := by
  have v := VMt_v f i
  unfold Val_X9_offNow vOff
  rw [h, h1, h2, v.2.2.2.2.1, v.2.1, show vC (VMt f i) t + 0 = vC (VMt f i) t by grind]
theorem cauT {f f1 : Fn} {a t : Int32} (h : f1 1 = f 1) (h1 : f1 0 11 = vC (VMt f (ix a)) t) (h2 : f1 0 12 = vPl (VMt f (ix a)) t) : Val_X9_isCaught f1 a = bI (vHeld (VMt f (ix a)) (vOff (VMt f (ix a)) t 0)) := by
  have e := offT h h1 h2
  unfold Val_X9_offNow at e
  unfold Val_X9_isCaught vHeld
  rw [e, h, (VMt_v f (ix a)).2.2.2.2.2.2.2.2.2]
theorem toldE {f f1 : Fn} {a t : Int32} (p : Post_X9_isTold f a t f1) : frG f f1 ∧ eqM f f1 ∧ f1 1 = f 1 ∧ Val_X9_offNow f1 = vOff (VMt f (ix a)) (vT (VMt f (ix a)) t) 0 ∧ Val_X9_isCaught f1 a = bI (vCt (VMt f (ix a)) t) ∧ f1 0 11 = vC (VMt f (ix a)) (vT (VMt f (ix a)) t) ∧ f1 0 12 = vPl (VMt f (ix a)) (vT (VMt f (ix a)) t) ∧ (∀ x, Val_X9_fallHarm f1 a x = hmM (f 1) (ix a) (absI (vPl (VMt f (ix a)) (vT (VMt f (ix a)) t) - x))) ∧ f1 0 13 = f 0 13 ∧ f1 0 14 = f 0 14 := by
  obtain ⟨p1, p2, p3, p4, p5⟩ := p
  have e := frG1 p1
  refine ⟨p1, frGM p1, e, offT e p4 p5, cauT e p4 p5, p4, p5, fun x => ?_, p2, p3⟩
  unfold Val_X9_fallHarm
  rw [e, p5]
theorem tx2 {d : Nat → Int32} {a : Int32} (h : dOK d) (q : vp_in a 2) : txOK d (ix a) := by
  have t := txI h
  rw [vp2] at q
  have : a = 0 ∨ a = 1 := by grind
  rcases this with e | e
  · rw [e]; exact t.1
  · rw [e]; exact t.2
theorem swO {d : Nat → Int32} (h : dOK d) : swOK d 0 ∧ swOK d 1 := ⟨(dF1 h).1, (dF1 h).2.1⟩
theorem bI01 (b : Bool) : bI b = 0 ∨ bI b = 1 := by cases b <;> simp [bI]
theorem lawDc {d d1 : Nat → Int32} {u : Nat} (e1 : d1 (90 + u) = d (90 + u)) (e2 : ∀ j, 112 ≤ j → d1 j = d j) : lawD d1 u = lawD d u := by
  have t : txb d1 u = txb d u := funext fun j => e2 _ (by omega)
  funext k v m
  unfold lawD
  rw [e1, t]
theorem eqMu {a b : Fn} (h : eqM a b) (k j : Nat) (v : Int32) : eqM (up2 a k j v) (up2 b k j v) := by
  have r : ∀ q, b q = a q → up2 b k j v q = up2 a k j v q := fun q e => by
    by_cases hq : q = k
    · subst hq; rw [up2_same, up2_same, e]
    · rw [up2_row _ _ _ _ _ hq, up2_row _ _ _ _ _ hq, e]
  have s : ∀ q i, b q i = a q i → up2 b k j v q i = up2 a k j v q i := fun q i e => by rw [up2_ap, up2_ap, e]
  obtain ⟨a1, a2, a3, a4, a5, a6, a7, a8, a9, a10⟩ := h
  exact ⟨r _ a1, r _ a2, r _ a3, r _ a4, r _ a5, r _ a6, r _ a7, s _ _ a8, s _ _ a9, s _ _ a10⟩
theorem lt0_msb (x : Int32) : (x < 0) = (x.toBitVec.msb = true) := by
  rw [BitVec.msb_eq_toInt, decide_eq_true_eq, Int32.lt_iff_toInt_lt]; rfl
theorem xorNeg {x p : Int32} (h : 0 ≤ p) : ((x ^^^ p) < 0) = (x < 0) := by
  have hp : p.toBitVec.msb = false := by
    have : ¬ p < 0 := by rw [Int32.not_lt]; exact h
    rw [lt0_msb] at this
    simpa using this
  rw [lt0_msb, lt0_msb, Int32.toBitVec_xor, BitVec.msb_xor, hp, Bool.xor_false]
theorem divT {x p : Int32} (h : 0 < p) : (x / p).toInt = x.toInt.tdiv p.toInt := by
  rw [Int32.lt_iff_toInt_lt] at h
  simp at h
  have h1 := x.toInt_lt
  have h2 := x.le_toInt
  rw [Int32.toInt_div]
  have b : x.toInt.tdiv p.toInt ≤ x.toInt.natAbs ∧ -(x.toInt.natAbs : Int) ≤ x.toInt.tdiv p.toInt := by
    have := Int.natAbs_tdiv_le_natAbs x.toInt p.toInt
    omega
  by_cases hx : x.toInt = -2147483648
  · by_cases hp : p.toInt = 1
    · rw [hx, hp]; decide
    · have : (x.toInt.tdiv p.toInt).natAbs ≤ 1073741824 := by
        rw [Int.natAbs_tdiv, hx]
        have : p.toInt.natAbs ≥ 2 := by omega
        calc (-2147483648 : Int).natAbs / p.toInt.natAbs ≤ (-2147483648 : Int).natAbs / 2 := Nat.div_le_div_left this (by decide)
          _ = 1073741824 := by decide
      exact Int.bmod_eq_of_le (by omega) (by omega)
  · exact Int.bmod_eq_of_le (by omega) (by omega)
theorem remT {x p : Int32} (h : 0 < p) : (remI x p).toInt = x.toInt.tmod p.toInt := by
  have d := divT (x := x) h
  rw [Int32.lt_iff_toInt_lt] at h
  simp at h
  have h3 := p.toInt_lt
  have e : x.toInt - x.toInt.tdiv p.toInt * p.toInt = x.toInt.tmod p.toInt := by
    have := Int.tdiv_mul_add_tmod x.toInt p.toInt
    omega
  have m1 := Int.tmod_lt_of_pos x.toInt h
  have m2 := Int.lt_tmod_of_pos x.toInt h
  unfold remI
  rw [Int32.toInt_sub, Int32.toInt_mul, d, Int.sub_bmod_bmod, e]
  exact Int.bmod_eq_of_le (by omega) (by omega)
theorem remP {x p : Int32} (h : 0 < p) : (0 ≤ x → 0 ≤ remI x p ∧ remI x p < p) ∧ (x < 0 → remI x p ≤ 0 ∧ -p < remI x p) := by
  have e := remT (x := x) h
  have h' := h
  rw [Int32.lt_iff_toInt_lt] at h
  simp at h
  have h3 := p.toInt_lt
  have m1 := Int.tmod_lt_of_pos x.toInt h
  have m2 := Int.lt_tmod_of_pos x.toInt h
  have np : (-p).toInt = -p.toInt := by
    rw [Int32.toInt_neg]; exact Int.bmod_eq_of_le (by omega) (by omega)
  refine ⟨fun hx => ?_, fun hx => ?_⟩
  · rw [Int32.le_iff_toInt_le] at hx ⊢
    rw [Int32.lt_iff_toInt_lt, e]
    simp at hx ⊢
    exact ⟨Int.tmod_nonneg _ hx, m1⟩
  · rw [Int32.lt_iff_toInt_lt] at hx ⊢
    rw [Int32.le_iff_toInt_le, e, np]
    simp at hx ⊢
    refine ⟨?_, m2⟩
    have := Int.tmod_nonneg (a := -x.toInt) p.toInt (by omega)
    rw [Int.neg_tmod] at this
    omega
theorem fmodQ {m p : Int32} (h : 0 < p) (h2 : -p < m) (h3 : ¬ 0 ≤ m) : 0 ≤ m + p ∧ m + p < p := by
  rw [Int32.lt_iff_toInt_lt] at h h2
  rw [Int32.le_iff_toInt_le] at h3
  simp at h h3
  have p3 := p.toInt_lt
  have np : (-p).toInt = -p.toInt := by
    rw [Int32.toInt_neg]; exact Int.bmod_eq_of_le (by omega) (by omega)
  rw [np] at h2
  have s : (m + p).toInt = m.toInt + p.toInt := by
    rw [Int32.toInt_add]; exact Int.bmod_eq_of_le (by omega) (by omega)
  rw [Int32.le_iff_toInt_le, Int32.lt_iff_toInt_lt, s]
  simp
  omega
theorem fmodR {m : Int32} (h1 : m ≤ 0) (hz : ¬ m = 0) : ¬ 0 ≤ m := fun q => hz (Int32.le_antisymm h1 q)
theorem fmodP {x p : Int32} (h : 0 < p) : fmodI x p = (if 0 ≤ remI x p then remI x p else remI x p + p) ∧ 0 ≤ fmodI x p ∧ fmodI x p < p := by
  have r := remP (x := x) h
  have xn := xorNeg (x := x) (Int32.le_of_lt h)
  have e : fmodI x p = if 0 ≤ remI x p then remI x p else remI x p + p := by
    unfold fmodI
    simp only [xn]
    generalize remI x p = m at r
    by_cases hx : x < 0
    · have := r.2 hx
      by_cases hz : m = 0
      · rw [if_neg (fun q => q.2 hz), if_pos (by rw [hz]; decide)]
      · rw [if_pos ⟨hx, hz⟩, if_neg (fmodR this.1 hz)]
    · have := r.1 (Int32.not_lt.mp hx)
      rw [if_neg (fun q => hx q.1), if_pos this.1]
  refine ⟨e, ?_⟩
  rw [e]
  generalize remI x p = m at r
  by_cases hx : x < 0
  · have := r.2 hx
    by_cases hz : 0 ≤ m
    · rw [if_pos hz]
      have h0 : m = 0 := Int32.le_antisymm this.1 hz
      rw [h0]; exact ⟨by decide, h⟩
    · rw [if_neg hz]; exact fmodQ h this.2 hz
  · have := r.1 (Int32.not_lt.mp hx)
    rw [if_pos this.1]; exact this
theorem fi1 {f f1 : Fn} {r : Int32} (p : Post_X9_finds f 1 r f1) : r = (er f 1).1 ∧ eqM (er f 1).2 f1 := fin1 (eqM_rfl f) p
theorem fi2 {f f1 : Fn} {r : Int32} (p : Post_X9_finds f 2 r f1) : r = (er f 2).1 ∧ eqM (er f 2).2 f1 := fin2 (eqM_rfl f) p
theorem fi3 {f f1 : Fn} {r : Int32} (p : Post_X9_finds f 3 r f1) : r = (er f 3).1 ∧ eqM (er f 3).2 f1 := fin3 (eqM_rfl f) p
theorem fi4 {f f1 : Fn} {r : Int32} (p : Post_X9_finds f 4 r f1) : r = (er f 4).1 ∧ eqM (er f 4).2 f1 := fin4 (eqM_rfl f) p
theorem fi5 {f f1 : Fn} {r : Int32} (p : Post_X9_finds f 5 r f1) : r = (er f 5).1 ∧ eqM (er f 5).2 f1 := fin5 (eqM_rfl f) p
theorem isFv {f : Fn} {a : Int32} (h : InvM f) (q : ¬ Val_X9_isFlyer f a = 0) : (0 ≤ a ∧ a ≤ f 1 0 - 1) ∧ vp_in a 6 ∧ 0 ≤ a ∧ a < 6 ∧ a.toNatClampNeg < 6 := by
  have q2 : isF f a := Classical.byContradiction fun hn => q (by unfold Val_X9_isFlyer; rw [if_neg hn])
  have := isF6 h q2
  exact ⟨q2, this.1, this.2.2.1, this.2.2.2.1, this.2.1⟩
theorem isFw {f : Fn} {a : Int32} (q : Val_X9_isFlyer f a = 0) : ¬ (0 ≤ a ∧ a ≤ f 1 0 - 1) := fun h => by
  unfold Val_X9_isFlyer at q
  rw [if_pos h] at q
  cases q
theorem tdP {f : Fn} {a t : Int32} (h : dOK (f 1)) (q : vp_in a 6) : Pre_X9_isTold f a t := ⟨h, q⟩
theorem tdQ {f : Fn} {a : Int32} (h : dOK (f 1)) (q : vp_in a 6) : Pre_X9_isCaught f a := ⟨h, q⟩
theorem fst_m' {p : Nat → Bool} {k n : Nat} (e : fst p n = some k) : fst p (k + 1) = some k := by
  obtain ⟨h1, h2, h3⟩ := fst_sm e
  rw [fst_s _ _ h3, if_pos h2]
theorem cntB (p : Nat → Bool) : ∀ n, ∃ c, c ≤ n ∧ cntI p n = nI c ∧ (c = 0 ↔ fst p n = none)
  | 0 => ⟨0, Nat.le_refl _, rfl, by simp [fst_0]⟩
  | n + 1 => by
    obtain ⟨c, h1, h2, h3⟩ := cntB p n
    by_cases q : p n = true
    · refine ⟨c + 1, by omega, by rw [cnt_s, h2, q, ← nI_1]; rfl, ?_⟩
      constructor
      · omega
      · intro h
        have := fst_n.mp h n (by omega)
        rw [q] at this; cases this
    · have q2 : p n = false := by simpa using q
      refine ⟨c, by omega, ?_, ?_⟩
      · rw [cnt_s, h2, q2]
        show nI c + (0 : Int32) = nI c
        grind
      · rw [h3]
        cases e : fst p n with
        | none => rw [fst_s _ _ e, if_neg q]
        | some k => rw [fst_m (fst_m' e) (by have := fst_lt e; omega)]
theorem hasC {V : Vw} {n : Nat} (hn : n < 2147483648) : bI (hasN V n) = if cntI (canP V) n ≤ 0 then 0 else 1 := by
  obtain ⟨c, h1, h2, h3⟩ := cntB (canP V) n
  rw [h2]
  by_cases q : c = 0
  · rw [if_pos (by rw [q]; decide), hasN_n.mpr (h3.mp q)]; rfl
  · rw [if_neg (nI_nle (by omega) (by omega)), hasN_s.mpr (fun h => q (h3.mpr h))]; rfl
theorem REo_p {g : Fn} {p : Nat → Bool} {n : Nat} (h : 0 ≤ oI (fst p n)) : RE_o g (fst p n) = (oI (fst p n), g) := by
  cases e : fst p n with
  | none => rw [e] at h; exact absurd h (by decide)
  | some k => rfl
theorem REo_n {g : Fn} {p : Nat → Bool} {n : Nat} (hn : n < 2147483648) (h : ¬ 0 ≤ oI (fst p n)) : RE_o g (fst p n) = er g 2 := by
  have := oI_lt (p := p) hn
  have h2 : fst p n = none := by rw [← this]; exact Int32.not_le.mp h
  rw [h2]; rfl
