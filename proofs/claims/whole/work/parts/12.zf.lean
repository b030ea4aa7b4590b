/-- the reference stands where a reading r has come, with value x -/
def pmRep (f0 f : Fn) (n : Nat) (x : Int32) (r : PR) : Prop := (∀ a, ¬ a = 0 → f a = f0 a) ∧ (∀ j, ¬ j = 5 → ¬ j = 7 → ¬ j = 8 → f 0 j = f0 0 j) ∧ r.1 ≤ n
  ∧ (if r.2.1 = false then f 0 5 = nI r.1 ∧ f 0 7 = -1 ∧ f 0 8 = f0 0 8 ∧ ∀ S, evS f0 S r.2.2 = x :: S else f 0 7 = nI r.1)
def bOf (f : Fn) (bs : Nat) : Nat → Int32 := fun j => f 1 (bs + j)
theorem pm_in {f f1 : Fn} {lv bs n p op : Nat} {x : Int32} (q : pmPost f f1 lv x) (h : pmAt f bs n p op) : pmRep f f1 n x (PS (bOf f bs) n lv op p) := q bs n p op (fuelR lv op) h (Nat.le_refl _)
theorem pmAt_u {f : Fn} {bs n p op bs2 n2 p2 op2 : Nat} (h : pmAt f bs n p op) (q : pmAt f bs2 n2 p2 op2) : bs2 = bs ∧ n2 = n ∧ p2 = p ∧ op2 = op := by
  obtain ⟨a1, a2, a3, a4, a5, a6, a7, a8, a9⟩ := h
  obtain ⟨b1, b2, b3, b4, b5, b6, b7, b8, b9⟩ := q
  rw [a5, nI_eq (by omega) (by omega)] at b5
  rw [a6, nI_eq (by omega) (by omega)] at b6
  rw [a7, nI_eq (by omega) (by omega)] at b7
  rw [a9, nI_eq (by omega) (by omega)] at b9
  omega
theorem pm_mk {f f1 : Fn} {lv bs n p op : Nat} {x : Int32} (hl : lv ≤ 5) (h : pmAt f bs n p op) (q : pmRep f f1 n x (PS (bOf f bs) n lv op p)) : pmPost f f1 lv x := by
  intro bs2 n2 p2 op2 d h2 hd
  obtain ⟨rfl, rfl, rfl, rfl⟩ := pmAt_u h h2
  rw [psG _ _ _ _ hl h.2.2.2.1 d hd]
  exact q
theorem pm_here {f : Fn} {bs n p op : Nat} (h : pmAt f bs n p op) : Val_X9_here f = nxI (bOf f bs) n p ∧ Pre_X9_here f := by
  obtain ⟨a1, a2, a3, a4, a5, a6, a7, a8, a9⟩ := h
  unfold Val_X9_here Pre_X9_here nxI bOf
  rw [a5, a6, a7, a8, nI_add]
  have lt : nI p < nI n ↔ p < n := nI_ltI (by omega) (by omega)
  refine ⟨?_, fun q _ => vp_in_nI (by have := lt.mp q; omega) (by omega)⟩
  by_cases q : p < n
  · rw [if_pos ⟨lt.mpr q, by decide⟩, if_pos q, show ix (nI (bs + p)) = bs + p from nI_clamp (by omega)]
  · rw [if_neg (fun z => q (lt.mp z.1)), if_neg q]
theorem pm_hereX {f : Fn} {q : Nat} (h : f 0 7 = nI q) (hq : q < 2147483648) : Val_X9_here f = -1 ∧ Pre_X9_here f := by
  unfold Val_X9_here Pre_X9_here
  rw [h]
  have := nI_pos (n := q) (by omega)
  exact ⟨if_neg (fun z => this z.2), fun _ z => absurd z this⟩
theorem rep_at {f0 f : Fn} {bs n p op : Nat} {x : Int32} {r : PR} (h : pmAt f0 bs n p op) (q : pmRep f0 f n x r) (ok : r.2.1 = false) : pmAt f bs n r.1 op ∧ f 1 = f0 1 ∧ bOf f bs = bOf f0 bs := by
  obtain ⟨a1, a2, a3, a4, a5, a6, a7, a8, a9⟩ := h
  obtain ⟨q1, q2, q3, q4⟩ := q
  rw [if_pos ok] at q4
  have e1 := q1 1 (by decide)
  exact ⟨⟨a1, a2, q3, a4, (q2 4 (by decide) (by decide) (by decide)).trans a5, (q2 6 (by decide) (by decide) (by decide)).trans a6, q4.1, q4.2.1, q4.2.2.1.trans a9⟩, e1, by unfold bOf; rw [e1]⟩
theorem rep_here {f0 f : Fn} {bs n p op : Nat} {x : Int32} {r : PR} (h : pmAt f0 bs n p op) (q : pmRep f0 f n x r) : Pre_X9_here f ∧ (r.2.1 = false → Val_X9_here f = nxI (bOf f0 bs) n r.1) ∧ (¬ r.2.1 = false → Val_X9_here f = -1) := by
  have n50 := h.2.1
  by_cases ok : r.2.1 = false
  · obtain ⟨a, -, c⟩ := rep_at h q ok
    have := pm_here a
    rw [c] at this
    exact ⟨this.2, fun _ => this.1, fun z => absurd ok z⟩
  · have q4 := q.2.2.2
    rw [if_neg ok] at q4
    have := pm_hereX q4 (by have := q.2.2.1; omega)
    exact ⟨this.2, fun z => absurd z ok, fun _ => this.1⟩
theorem at_next {f : Fn} {bs n p op : Nat} (h : pmAt f bs n p op) (l : p < n) : pmAt (up2 f 0 5 (f 0 5 + 1)) bs n (p + 1) op := by
  obtain ⟨a1, a2, a3, a4, a5, a6, a7, a8, a9⟩ := h
  exact ⟨a1, a2, l, a4, (up2_off _ _ (by decide)).trans a5, (up2_off _ _ (by decide)).trans a6, by rw [up2_at, a7, nI_1], (up2_off _ _ (by decide)).trans a8, (up2_off _ _ (by decide)).trans a9⟩
theorem pm_step {f0 f f2 : Fn} {bs n p op lv : Nat} {x y : Int32} {r : PR} (h : pmAt f0 bs n p op) (q : pmRep f0 f n x r) (ok : r.2.1 = false) (hc : lvI (nxI (bOf f0 bs) n r.1) = nI lv) (hl : lv ≤ 4) (s : pmPost (up2 f 0 5 (f 0 5 + 1)) f2 (lv + 1) y) :
    pmRep f0 f2 n (joinI x (nxI (bOf f0 bs) n r.1) y) ((PS (bOf f0 bs) n (lv + 1) op (r.1 + 1)).1, (PS (bOf f0 bs) n (lv + 1) op (r.1 + 1)).2.1, r.2.2 ++ (PS (bOf f0 bs) n (lv + 1) op (r.1 + 1)).2.2 ++ [-(nxI (bOf f0 bs) n r.1)]) := by
  obtain ⟨a, e1, eb⟩ := rep_at h q ok
  have l := lv_in hc hl
  have u := pm_in s (at_next a l)
  have eb2 : bOf (up2 f 0 5 (f 0 5 + 1)) bs = bOf f0 bs := by
    unfold bOf; rw [up2_row _ _ _ _ _ (by decide), e1]
  rw [eb2] at u
  obtain ⟨u1, u2, u3, u4⟩ := u
  obtain ⟨q1, q2, q3, q4⟩ := q
  rw [if_pos ok] at q4
  refine ⟨fun z hz => by rw [u1 z hz, up2_row _ _ _ _ _ hz, q1 z hz], fun j h5 h7 h8 => by rw [u2 j h5 h7 h8, up2_off _ _ h5, q2 j h5 h7 h8], u3, ?_⟩
  generalize PS (bOf f0 bs) n (lv + 1) op (r.1 + 1) = w at u3 u4
  by_cases o2 : w.2.1 = false
  · rw [if_pos o2] at u4 ⊢
    refine ⟨u4.1, u4.2.1, by rw [u4.2.2.1, up2_off _ _ (by decide), q4.2.2.1], fun S => ?_⟩
    have ev : ∀ S xs, evS (up2 f 0 5 (f 0 5 + 1)) S xs = evS f0 S xs := fun S xs => by
      unfold evS; rw [up2_row _ _ _ _ _ (by decide), q1 4 (by decide)]
    have v1 := q4.2.2.2 S
    have v2 := u4.2.2.2 (x :: S)
    rw [ev] at v2
    unfold evS at v1 v2 ⊢
    rw [List.foldl_append, List.foldl_append, v1, v2]
    exact rpOp _ _ _ hc hl x y S
  · rw [if_neg o2] at u4 ⊢
    exact u4
/-- a loop of the reference's reading -/
def pmLI (f0 : Fn) (bs n p op lv : Nat) (f : Fn) (x : Int32) : Prop := ∃ (k : Nat) (r : PR), pmRep f0 f n x r ∧ (r.2.1 = false → k + 1 ≤ r.1) ∧ pLoop (PS (bOf f0 bs) n (lv + 1) op) (bOf f0 bs) n lv 50 (PS (bOf f0 bs) n (lv + 1) op p) = pLoop (PS (bOf f0 bs) n (lv + 1) op) (bOf f0 bs) n lv (50 - k) r
def pmMu (f : Fn) : Nat := if f 0 7 < 0 then 60 - (f 0 5).toNatClampNeg else 0
theorem pm_first {f0 f : Fn} {bs n p op lv : Nat} {x : Int32} (h : pmAt f0 bs n p op) (s : pmPost f0 f (lv + 1) x) : pmLI f0 bs n p op lv f x := by
  have b := PS_bd (bOf f0 bs) (lv + 1) op h.2.2.1
  exact ⟨0, _, pm_in s h, fun ok => by have := b.2.2.2 ok; omega, rfl⟩
theorem pm_exit {f0 f : Fn} {bs n p op lv : Nat} {x : Int32} (h : pmAt f0 bs n p op) (I : pmLI f0 bs n p op lv f x) (hl : lv ≤ 4) (h2 : ¬ lv = 2) (hx : ¬ lvI (Val_X9_here f) = nI lv) : pmPost f0 f lv x := by
  obtain ⟨k, r, i1, i2, i3⟩ := I
  refine pm_mk (by omega) h ?_
  rw [PS_lo _ _ _ _ _ hl h.2.2.2.1, if_neg h2, i3, pLoop_z]
  · exact i1
  · intro c
    rw [(rep_here h i1).2.1 c.1] at hx
    exact hx c.2
theorem pm_pre {f0 f : Fn} {bs n p op lv : Nat} {x : Int32} (h : pmAt f0 bs n p op) (I : pmLI f0 bs n p op lv f x) : Pre_X9_here f := by
  obtain ⟨k, r, i1, i2, i3⟩ := I
  exact (rep_here h i1).1
theorem pm_go {f0 f : Fn} {bs n p op lv : Nat} {x c : Int32} (h : pmAt f0 bs n p op) (I : pmLI f0 bs n p op lv f x) (hl : lv ≤ 4) (hc : Val_X9_here f = c) (hv : lvI c = nI lv) : pmPre (up2 f 0 5 (f 0 5 + 1)) ∧ f 0 8 = f0 0 8 ∧ (∀ f2 y, pmPost (up2 f 0 5 (f 0 5 + 1)) f2 (lv + 1) y → pmLI f0 bs n p op lv f2 (joinI x c y) ∧ pmMu f2 < pmMu f) := by
  obtain ⟨k, r, i1, i2, i3⟩ := I
  have rh := rep_here h i1
  have ok : r.2.1 = false := Classical.byContradiction fun no => by
    rw [rh.2.2 no] at hc
    rw [← hc] at hv
    have := nI_pos (n := lv) (by omega)
    rw [← hv] at this
    exact this (by decide)
  have hn : nxI (bOf f0 bs) n r.1 = c := (rh.2.1 ok).symm.trans hc
  obtain ⟨a, e1, eb⟩ := rep_at h i1 ok
  have hv2 : lvI (nxI (bOf f0 bs) n r.1) = nI lv := by rw [hn]; exact hv
  have l := lv_in hv2 hl
  have n50 := h.2.1
  have k1 := i2 ok
  have q4 := i1.2.2.2
  rw [if_pos ok] at q4
  refine ⟨⟨bs, n, r.1 + 1, op, at_next a l⟩, q4.2.2.1, fun f2 y s => ?_⟩
  have st := pm_step h i1 ok hv2 hl s
  have bd := PS_bd (bOf f0 bs) (lv + 1) op (show r.1 + 1 ≤ n from l)
  rw [hn] at st
  refine ⟨⟨k + 1, _, st, fun o2 => ?_, ?_⟩, ?_⟩
  · have := bd.2.2.2 o2
    show k + 1 + 1 ≤ (PS (bOf f0 bs) n (lv + 1) op (r.1 + 1)).1
    omega
  · rw [i3, show 50 - k = 50 - (k + 1) + 1 by omega, pLoop_s ⟨ok, hv2⟩, hn]
  · have s4 := st.2.2.2
    have m1 : pmMu f = 60 - r.1 := by
      unfold pmMu; rw [q4.2.1, if_pos (by decide), q4.1, nI_clamp (by omega)]
    rw [m1]
    by_cases o2 : (PS (bOf f0 bs) n (lv + 1) op (r.1 + 1)).2.1 = false
    · rw [if_pos o2] at s4
      have b1 := bd.2.2.2 o2
      have b2 := bd.2.1
      have m2 : pmMu f2 = 60 - (PS (bOf f0 bs) n (lv + 1) op (r.1 + 1)).1 := by
        unfold pmMu; rw [s4.2.1, if_pos (by decide), s4.1, nI_clamp (by show _ < _; omega)]
      rw [m2]; omega
    · rw [if_neg o2] at s4
      have m2 : pmMu f2 = 0 := by
        unfold pmMu
        rw [s4, if_neg (nI_pos (by have := bd.2.1; show _ < _; omega))]
      rw [m2]; omega
theorem lv0 {c : Int32} (h : lvI c = nI 0) : c = 124 := by rw [ni0] at h; grind [lvI]
theorem lv1 {c : Int32} (h : lvI c = nI 1) : c = 38 := by rw [ni1] at h; grind [lvI]
theorem lv2 {c : Int32} (h : lvI c = nI 2) : c = 60 ∨ c = 61 ∨ c = 62 := by rw [ni2] at h; grind [lvI]
theorem lv3 {c : Int32} (h : lvI c = nI 3) : c = 43 ∨ c = 45 := by rw [ni3] at h; grind [lvI]
theorem lv4 {c : Int32} (h : lvI c = nI 4) : c = 42 ∨ c = 47 ∨ c = 37 := by rw [ni4] at h; grind [lvI]
theorem numK_z {b : Nat → Int32} {n p k : Nat} (h : (numK b n p k).1 = k) (h2 : ¬ dgI (nxI b n (p + k)) = true) : ∀ m, k ≤ m → numK b n p m = numK b n p k
  | 0, hm => by rw [show k = 0 by omega]
  | m + 1, hm => by
    by_cases e : k = m + 1
    · rw [e]
    · have ih := numK_z h h2 m (by omega)
      rw [numK_s]
      by_cases e2 : k = m
      · subst e2; rw [if_neg (fun q => h2 q.2)]
      · rw [if_neg (fun q => by rw [ih, h] at q; exact e2 q.1)]; exact ih
