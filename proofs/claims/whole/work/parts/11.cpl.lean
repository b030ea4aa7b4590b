theorem WRelFr {f f1 : Fn} {B : Nat} {d : Nat → Int32} (h : WRel f B d) (e : ∀ j, j < 18 → ¬ j = 13 → ¬ j = 16 → f1 (B + j) = f (B + j)) : WRel f1 B d := by
  have e0 : f1 B = f B := e 0 (by decide) (by decide) (by decide)
  have e1 := e 1 (by decide) (by decide) (by decide)
  have e2 := e 2 (by decide) (by decide) (by decide)
  have e10 := e 10 (by decide) (by decide) (by decide)
  have e11 := e 11 (by decide) (by decide) (by decide)
  have e12 := e 12 (by decide) (by decide) (by decide)
  have e14 := e 14 (by decide) (by decide) (by decide)
  have e15 := e 15 (by decide) (by decide) (by decide)
  have e17 := e 17 (by decide) (by decide) (by decide)
  have e4 : ∀ i, i < 6 → f1 (B + 4 + i) = f (B + 4 + i) := fun i hi => by
    have := e (4 + i) (by omega) (by omega) (by omega)
    rwa [← Nat.add_assoc] at this
  obtain ⟨p1, p2, p3, p4, p5, p6, p7, p8, p9, p10, p11, p12, p13, p14, p15, p16, p17, p18⟩ := h
  exact ⟨by rw [e1]; exact p1, by rw [e2]; exact p2, by rw [e0]; exact p3, by rw [e0]; exact p4, by rw [e0]; exact p5, by rw [e0]; exact p6, by rw [e0]; exact p7, by rw [e0]; exact p8, by rw [e0]; exact p9, by rw [e0]; exact p10, by rw [e0]; exact p11, by rw [e0]; exact p12, by rw [e0]; exact p13, fun i j hi hj => by rw [e4 i hi]; exact p14 i j hi hj, by rw [e10]; exact p15, by rw [e17]; exact p16, by rw [e11, e12]; exact p17, by rw [e14, e15]; exact p18⟩
/-- what the agreement does not speak of may change -/
theorem CplFr {f f1 g : Fn} (h : Cpl f g) (e : ∀ a, ¬ a = 14 → ¬ a = 17 → ¬ a = 32 → ¬ a = 35 → (a < 37 ∨ a = 44 ∨ a = 45 ∨ 48 ≤ a) → f1 a = f a) : Cpl f1 g := by
  obtain ⟨p1, p2, p3, p4, p5, p6, p7, p8⟩ := h
  refine ⟨WRelFr p1 fun j h1 h2 h3 => e _ (by omega) (by omega) (by omega) (by omega) (by omega), p2.imp id fun q => WRelFr q fun j h1 h2 h3 => e _ (by omega) (by omega) (by omega) (by omega) (by omega), ?_, ?_, fun k h1 h2 => ?_, ?_, fun j h1 h2 => ?_, fun i hi => ?_⟩
  · obtain ⟨q1, q2, q3, q4, q5, q6⟩ := p3
    have e1 := e 30 (by decide) (by decide) (by decide) (by decide) (by decide)
    have e2 := e 33 (by decide) (by decide) (by decide) (by decide) (by decide)
    exact ⟨by rw [e1]; exact q1, by rw [e1]; exact q2, by rw [e1]; exact q3, by rw [e2]; exact q4, by rw [e2]; exact q5, by rw [e2]; exact q6⟩
  · rw [e 0 (by decide) (by decide) (by decide) (by decide) (by decide)]; exact p4
  · rw [e 56 (by decide) (by decide) (by decide) (by decide) (by decide)]; exact p5 k h1 h2
  · rw [e 44 (by decide) (by decide) (by decide) (by decide) (by decide)]; exact p6
  · rw [e 45 (by decide) (by decide) (by decide) (by decide) (by decide)]; exact p7 j h1 h2
  · have e1 := e (48 + 2 * i) (by omega) (by omega) (by omega) (by omega) (by omega)
    have e2 := e (49 + 2 * i) (by omega) (by omega) (by omega) (by omega) (by omega)
    rw [e1, e2]; exact p8 i hi
theorem CplEqT {f f1 g : Fn} (h : Cpl f g) (e : eqT f f1) : Cpl f1 g := CplFr h fun a h1 h2 _ _ h5 => e a h1 h2 (by omega) (by omega) (by omega) (by omega) (by omega)
theorem CplTFr {f f1 g : Fn} (h : Cpl f g) (e : TFr f f1) : Cpl f1 g := CplFr h fun a h1 h2 _ _ h5 => e.1 a h1 h2 (by omega)
theorem CplStart {f g : Fn} (h : Cpl f g) (o : Nat) (v : Int32) : Cpl (up2 (startF f o) 37 6 v) g := CplFr h fun a h1 h2 _ _ h5 => by
  rw [up2_row _ _ _ _ _ (by omega)]
  unfold startF
  rw [cpr_row _ _ _ _ _ (by omega), cpr_row _ _ _ _ _ (by omega), cpr_row _ _ _ _ _ (by omega)]
theorem CplEr {f g : Fn} (h : Cpl f g) (k : Nat) (h1 : 1 ≤ k) (h2 : k ≤ 5) : Cpl (up2 f 56 k (f 56 k + 1)) (up2 g 3 k (g 3 k + 1)) := by
  have r : ∀ a, ¬ a = 56 → up2 f 56 k (f 56 k + 1) a = f a := fun a ha => up2_row _ _ _ _ _ ha
  have s : ∀ a, ¬ a = 3 → up2 g 3 k (g 3 k + 1) a = g a := fun a ha => up2_row _ _ _ _ _ ha
  obtain ⟨p1, p2, p3, p4, p5, p6, p7, p8⟩ := h
  unfold Cpl
  rw [s 1 (by decide), s 0 (by decide), s 2 (by decide), s 6 (by decide), s 7 (by decide), s 8 (by decide), s 9 (by decide), r 0 (by decide), r 44 (by decide), r 45 (by decide)]
  refine ⟨WRelFr p1 fun j h1 h2 h3 => r _ (by omega), p2.imp id fun q => WRelFr q fun j h1 h2 h3 => r _ (by omega), ?_, p4, fun q h3 h4 => ?_, p6, p7, fun i hi => ?_⟩
  · unfold WCon
    rw [r 30 (by decide), r 33 (by decide)]; exact p3
  · rw [up2_ap, up2_ap, if_pos rfl, if_pos rfl]
    by_cases hq : q = k
    · subst hq; rw [if_pos rfl, if_pos rfl, p5 q h3 h4]
    · rw [if_neg hq, if_neg hq]; exact p5 q h3 h4
  · rw [r _ (by omega), r _ (by omega)]; exact p8 i hi
theorem CplEqM {f g g1 : Fn} (h : Cpl f g) (e : eqM g g1) : Cpl f g1 := by
  obtain ⟨e1, e2, e3, e6, e7, e8, e9, e02, e010, e020⟩ := e
  unfold Cpl
  rw [e1, e2, e3, e6, e7, e8, e9, e02, e020]
  exact h
theorem CplW {f g : Fn} (h : Cpl f g) : f 1 2 = g 1 5 ∧ f 1 3 = g 1 6 ∧ f 1 4 = g 1 7 ∧ f 1 5 = g 1 1 ∧ f 1 7 = g 1 0 ∧ f 1 9 = g 1 9 ∧ f 1 12 = g 1 2 ∧ f 1 13 = g 1 3 ∧ f 1 14 = g 1 4 ∧ f 1 15 = g 1 8 ∧ f 1 17 = g 1 10 ∧ f 0 7 = g 0 2 ∧ f 44 1 = g 0 20 := by
  obtain ⟨⟨-, -, q1, q2, q3, q4, q5, q6, q7, q8, q9, q10, q11, -⟩, -, -, p4, -, p6, -⟩ := h
  exact ⟨q1, q2, q3, q4, q5, q6, q7, q8, q9, q10, q11, p4, p6⟩
theorem CplSw {f g : Fn} (h : Cpl f g) : f 2 0 = g 1 12 ∧ f 2 1 = g 1 13 ∧ f 2 2 = g 1 14 ∧ f 3 0 = g 1 15 ∧ f 3 1 = g 1 16 ∧ f 3 2 = g 1 17 := by
  obtain ⟨⟨q, r, -⟩, -⟩ := h
  exact ⟨q 0 (by decide), q 1 (by decide), q 2 (by decide), r 0 (by decide), r 1 (by decide), r 2 (by decide)⟩
theorem CplFl {f g : Fn} (h : Cpl f g) (i : Nat) (hi : i < 6) : f (5 + i) 0 = g 1 (fl4 i) ∧ f (5 + i) 1 = g 1 (fl4 i + 1) ∧ f (5 + i) 2 = g 1 (fl4 i + 2) ∧ f (5 + i) 3 = g 1 (fl4 i + 3) := by
  obtain ⟨⟨-, -, -, -, -, -, -, -, -, -, -, -, -, q, -⟩, -⟩ := h
  exact ⟨q i 0 hi (by decide), q i 1 hi (by decide), q i 2 hi (by decide), q i 3 hi (by decide)⟩
theorem CplErr {f g : Fn} (h : Cpl f g) (k : Nat) (h1 : 1 ≤ k) (h2 : k ≤ 5) : f 56 k = g 3 k := h.2.2.2.2.1 k h1 h2
theorem CplSh {f g : Fn} (h : Cpl f g) (i : Nat) (hi : i < 4) : f (48 + 2 * i) 1 = g 7 i ∧ f (48 + 2 * i) 2 = g 8 i ∧ ∀ k, k < 40 → f (49 + 2 * i) k = g 9 (40 * i + k) := h.2.2.2.2.2.2.2 i hi
theorem CplTr {f g : Fn} (h : Cpl f g) (j : Nat) (h1 : nI j < g 0 20) (h2 : j < 40) : f 45 j = g 6 j := h.2.2.2.2.2.2.1 j h1 h2
theorem numKs {x c M : Int32} (h0 : 0 ≤ x) (h1 : x ≤ M) (hM : M ≤ 999) (hc : 48 ≤ c) (hd : c ≤ 57) : 0 ≤ x * 10 + c - 48 ∧ x * 10 + c - 48 ≤ M * 10 + 9 := by grind
theorem dgF {c : Int32} : dgI c = true ↔ 48 ≤ c ∧ c ≤ 57 := by simp [dgI]
theorem numKt (b : Nat → Int32) (n p k : Nat) (M N : Int32) (h : 0 ≤ (numK b n p k).2 ∧ (numK b n p k).2 ≤ M) (hM : M ≤ 999) (hN : M * 10 + 9 = N) (hMN : M ≤ N) : 0 ≤ (numK b n p (k + 1)).2 ∧ (numK b n p (k + 1)).2 ≤ N := by
  rw [numK]
  by_cases q : (numK b n p k).1 = k ∧ dgI (nxI b n (p + k)) = true
  · rw [if_pos q]
    have := numKs h.1 h.2 hM (dgF.mp q.2).1 (dgF.mp q.2).2
    rw [hN] at this
    exact this
  · rw [if_neg q]
    exact ⟨h.1, Int32.le_trans h.2 hMN⟩
theorem numK4 (b : Nat → Int32) (n p : Nat) : 0 ≤ (numK b n p 4).2 ∧ (numK b n p 4).2 ≤ 9999 :=
  numKt b n p 3 999 9999 (numKt b n p 2 99 999 (numKt b n p 1 9 99 (numKt b n p 0 0 9 ⟨by rw [numK]; decide, by rw [numK]; decide⟩ (by decide) (by decide) (by decide)) (by decide) (by decide) (by decide)) (by decide) (by decide) (by decide)) (by decide) (by decide) (by decide)
theorem opL {c : Int32} {lv : Nat} (h : lvI c = nI lv) (h4 : lv ≤ 4) : c = 124 ∨ c = 38 ∨ c = 60 ∨ c = 61 ∨ c = 62 ∨ c = 43 ∨ c = 45 ∨ c = 42 ∨ c = 47 ∨ c = 37 := by
  have hn : ¬ lvI c = -1 := by
    rw [h]
    intro q
    have := nI_pos' (n := lv) (by omega)
    rw [q] at this
    exact absurd this (by decide)
  grind [lvI]
theorem rpOp (k v m : Int32) {c : Int32} {lv : Nat} (h : lvI c = nI lv) (h4 : lv ≤ 4) (a b : Int32) (S : List Int32) : rpS k v m (b :: a :: S) (-c) = joinI a c b :: S := by
  rcases opL h h4 with e | e | e | e | e | e | e | e | e | e <;> subst e <;> rfl
theorem rpPart (k v m : Int32) {x : Int32} (h : isPartI x = 1) (S : List Int32) : rpS k v m S x = (if 0 ≤ x then x else if x = -107 then k else if x = -118 then v else m) :: S := by
  simp only [rpS, if_pos h]
theorem isPnn {x : Int32} (h : 0 ≤ x) : isPartI x = 1 := if_pos (Or.inl h)
theorem rpNot (k v m a : Int32) (S : List Int32) : rpS k v m (a :: S) (-33) = (if a = 0 then 1 else 0) :: S := by
  have h : ¬ isPartI (-33) = 1 := by decide
  simp only [rpS, if_neg h]
  rw [if_pos ⟨trivial, by simp⟩]
theorem pLoop_ev (k v m : Int32) (rd : Nat → PR) (b : Nat → Int32) (n lv : Nat) (h4 : lv ≤ 4) (hr : ∀ p, (rd p).2.1 = false → ∀ S, ∃ r, (rd p).2.2.foldl (rpS k v m) S = r :: S) :
    ∀ c (r : PR), (r.2.1 = false → ∀ S, ∃ x, r.2.2.foldl (rpS k v m) S = x :: S) → (pLoop rd b n lv c r).2.1 = false → ∀ S, ∃ x, (pLoop rd b n lv c r).2.2.foldl (rpS k v m) S = x :: S
  | 0, r, h => by rw [pLoop]; exact h
  | c + 1, r, h => by
    rw [pLoop]
    by_cases q : r.2.1 = false ∧ lvI (nxI b n r.1) = nI lv
    · rw [if_pos q]
      refine pLoop_ev k v m rd b n lv h4 hr c _ fun h5 S => ?_
      obtain ⟨a, ha⟩ := h q.1 S
      obtain ⟨b2, hb⟩ := hr (r.1 + 1) h5 (a :: S)
      refine ⟨joinI a (nxI b n r.1) b2, ?_⟩
      simp only [List.foldl_append, List.foldl_cons, List.foldl_nil, ha, hb]
      exact rpOp k v m q.2 h4 a b2 S
    · rw [if_neg q]; exact h
theorem psR_ev (k v m : Int32) (b : Nat → Int32) (n : Nat) : ∀ d lv op p, (psR b n d lv op p).2.1 = false → ∀ S, ∃ r, (psR b n d lv op p).2.2.foldl (rpS k v m) S = r :: S
  | 0, lv, op, p, h => by rw [psR] at h; cases h
  | d + 1, lv, op, p, h => by
    intro S
    rw [psR] at h ⊢
    by_cases h4 : lv ≤ 4
    · rw [if_pos h4] at h ⊢
      exact pLoop_ev k v m _ b n lv h4 (fun q => psR_ev k v m b n d (lv + 1) op q) _ _ (psR_ev k v m b n d (lv + 1) op p) h S
    · rw [if_neg h4] at h ⊢
      by_cases c1 : dgI (nxI b n p) = true
      · rw [if_pos c1]
        have e0 := rpPart k v m (isPnn (numK4 b n p).1) S
        simp only [List.foldl_cons, List.foldl_nil]
        rw [e0]
        exact ⟨_, rfl⟩
      · rw [if_neg c1] at h ⊢
        by_cases c2 : nxI b n p = 107 ∨ nxI b n p = 118 ∨ nxI b n p = 109
        · rw [if_pos c2]
          have e0 : isPartI (-(nxI b n p)) = 1 := by rcases c2 with e | e | e <;> rw [e] <;> decide
          simp only [List.foldl_cons, List.foldl_nil]
          rw [rpPart k v m e0 S]
          exact ⟨_, rfl⟩
        · rw [if_neg c2] at h ⊢
          by_cases c3 : nxI b n p = 33 ∧ op < 5
          · rw [if_pos c3] at h ⊢
            obtain ⟨a, ha⟩ := psR_ev k v m b n d 5 (op + 1) (p + 1) h S
            simp only [List.foldl_append, List.foldl_cons, List.foldl_nil, ha]
            rw [rpNot k v m a S]
            exact ⟨_, rfl⟩
          · rw [if_neg c3] at h ⊢
            by_cases c4 : nxI b n p = 40 ∧ op < 5
            · rw [if_pos c4] at h ⊢
              by_cases c5 : (psR b n d 0 (op + 1) (p + 1)).2.1 = false ∧ nxI b n (psR b n d 0 (op + 1) (p + 1)).1 = 41
              · rw [if_pos c5]
                exact psR_ev k v m b n d 0 (op + 1) (p + 1) c5.1 S
              · rw [if_neg c5] at h; cases h
            · rw [if_neg c4] at h; cases h
theorem rowL_of {r : Nat → Int32} {xs : List Int32} (h : ∀ j, j < xs.length → r j = xs.getD j 0) : rowL r xs.length = xs := by
  apply List.ext_getElem
  · simp [rowL]
  · intro i h1 h2
    simp [rowL, h i h2, h2]
theorem mxmn (lo hi v : Int32) (h : lo ≤ hi) : maxI lo (minI hi v) = heldI v lo hi := by
  grind [maxI, minI, heldI]
/-- a law of the class gives what the bytes give -/
theorem lawVD {h s d : Nat → Int32} {u : Nat} (hl : LawR h s d u) (ht : txOK d u) (k v m : Int32) : lawV h s k v m = lawD d u k v m := by
  obtain ⟨h0, h1, h2, h3⟩ := hl
  have lh : lawLo u ≤ lawHi u := by unfold lawLo lawHi; split <;> decide
  unfold lawV lawD
  rw [h1, h2, mxmn _ _ _ lh]
  congr 1
  rcases h3 with ⟨e1, e2⟩ | ⟨e1, xs, e2, e3, e4, e5⟩
  · rw [e1, e2]
    have : rowL s (min (0 : Int32).toNatClampNeg 50) = [] := rfl
    rw [this, h0, if_neg (show ¬ (0 : Int32) < 0 by decide)]
    simp only [rpn, List.foldl_nil, List.getLast?_nil]
    by_cases hu : u = 0
    · simp [hu]
    · simp [hu]
  · rw [if_pos e1, e4, nI_clamp (by omega), Nat.min_eq_left e3, rowL_of e5, e2]
    rcases ht with e | ⟨n, n1, n2, n3, n4, n5⟩
    · rw [e] at e1; exact absurd e1 (by decide)
    · unfold rpn
      have en : (d (90 + u)).toNatClampNeg = n := by rw [n3]; exact nI_clamp (by omega)
      obtain ⟨r, hr⟩ := psR_ev k v m (txb d u) n 48 0 0 0 n4 []
      have hr2 : (pT (txb d u) n).2.2.foldl (rpS k v m) [] = [r] := hr
      simp only [ix, en, hr2]
      rfl
theorem txI {d : Nat → Int32} (h : dOK d) : txOK d 0 ∧ txOK d 1 := ⟨(dF1 h).2.2.1, (dF1 h).2.2.2⟩
theorem lawC_V {f g : Fn} (h : Cpl f g) (hi : InvM g) : lawC f = fun u k v m => lawD (g 1) (if u = 0 then 0 else 1) k v m := by
  obtain ⟨⟨-, -, -, -, -, -, -, -, -, -, -, -, -, -, -, -, l0, l1⟩, -⟩ := h
  have t := txI hi.1
  funext u k v m
  unfold lawC
  by_cases hu : u = 0
  · rw [if_pos hu, if_pos hu]; exact lawVD l0 t.1 k v m
  · rw [if_neg hu, if_neg hu]; exact lawVD l1 t.2 k v m
theorem VWV {f g : Fn} (h : Cpl f g) (hi : InvM g) (i : Nat) (h6 : i < 6) : VW f (5 + i) = VM (g 1) i := by
  have a := CplW h; have b := CplSw h; have c := CplFl h i h6
  unfold VW VM tr3 qd4 flq lagM
  rw [lawC_V h hi]
  simp only [a, b, c]
  rfl
theorem TVs (f : Fn) (i : Nat) (h6 : i < 6) : TV (up2 (startF f (5 + i)) 37 6 (lagI (startF f (5 + i) 40 0) (startF f (5 + i) 40 1) (startF f (5 + i) 40 3))) = VW f (5 + i) := by
  have e : ∀ j, j < 4 → startF f (5 + i) 40 j = f (5 + i) j := fun j hj => by
    unfold startF
    rw [cpr_ap, if_pos rfl, if_pos hj, cpr_row _ _ _ _ _ (by omega), cpr_row _ _ _ _ _ (by omega)]
  have e2 : ∀ j, j < 3 → startF f (5 + i) 38 j = f 2 j := fun j hj => by
    unfold startF
    rw [cpr_row _ _ _ _ _ (by omega), cpr_row _ _ _ _ _ (by omega), cpr_ap, if_pos rfl, if_pos hj]
  have e3 : ∀ j, j < 3 → startF f (5 + i) 39 j = f 3 j := fun j hj => by
    unfold startF
    rw [cpr_row _ _ _ _ _ (by omega), cpr_ap, if_pos rfl, if_pos hj, cpr_row _ _ _ _ _ (by omega)]
  have r : ∀ a, ¬ a = 37 → ¬ a = 38 → ¬ a = 39 → ¬ a = 40 → up2 (startF f (5 + i)) 37 6 (lagI (startF f (5 + i) 40 0) (startF f (5 + i) 40 1) (startF f (5 + i) 40 3)) a = f a := fun a h1 h2 h3 h4 => by
    rw [up2_row _ _ _ _ _ h1]
    unfold startF
    rw [cpr_row _ _ _ _ _ h4, cpr_row _ _ _ _ _ h3, cpr_row _ _ _ _ _ h2]
  unfold TV VW lawC tr3 qd4
  rw [r 1 (by decide) (by decide) (by decide) (by decide), r 12 (by decide) (by decide) (by decide) (by decide), r 13 (by decide) (by decide) (by decide) (by decide), r 15 (by decide) (by decide) (by decide) (by decide), r 16 (by decide) (by decide) (by decide) (by decide)]
  rw [up2_row _ _ _ _ 38 (by decide), up2_row _ _ _ _ 39 (by decide), up2_row _ _ _ _ 40 (by decide), up2_at]
  rw [e 0 (by decide), e 1 (by decide), e 2 (by decide), e 3 (by decide), e2 0 (by decide), e2 1 (by decide), e2 2 (by decide), e3 0 (by decide), e3 1 (by decide), e3 2 (by decide)]
