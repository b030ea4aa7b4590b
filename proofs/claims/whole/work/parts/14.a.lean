/-! the reference's calls keep its ranges -/
theorem InvRow {g g1 : Fn} (h : InvM g) (e : ∀ a, ¬ a = 1 → g1 a = g a) (hd : dOK (g1 1)) : InvM g1 := by
  obtain ⟨-, h2, h3, h4, h5⟩ := h
  refine ⟨hd, ?_, ?_, ?_, ?_⟩
  · rw [e 0 (by decide), e 2 (by decide)]; exact h2
  · rw [e 0 (by decide)]; exact h3
  · intro i hi; rw [e 7 (by decide), e 8 (by decide)]; exact h4 i hi
  · rw [e 0 (by decide)]; exact h5
theorem dOKg {d d1 : Nat → Int32} (h : dOK d) (e : ∀ j, j < 264 → d1 j = d j) : dOK d1 := by
  obtain ⟨p1, p2, p3, p4, ⟨n, n1, n2, n3⟩, p6, p7, p8, p9, p10, p11, p12, p13, p14, p15⟩ := h
  refine ⟨swOKc p1 fun j hj => e _ (by omega), swOKc p2 fun j hj => e _ (by omega), txOKc p3 (e _ (by omega)) (fun j hj => e _ (by omega)), txOKc p4 (e _ (by omega)) (fun j hj => e _ (by omega)), ⟨n, n1, by rw [e _ (by omega)]; exact n2, fun i hi => flOKc (n3 i hi) fun j hj => e _ (by omega)⟩, ?_⟩
  simp only [e 1 (by omega), e 5 (by omega), e 6 (by omega), e 7 (by omega), e 9 (by omega), e 10 (by omega), e 2 (by omega), e 3 (by omega), e 4 (by omega)]
  exact ⟨p6, p7, p8, p9, p10, p11, p12, p13, p14, fun k hk => by rw [e _ (by omega)]; exact p15 k hk⟩
theorem inN {x : Int32} (N : Nat) (hN : N < 2147483648) (h : inP x 0 (nI N)) : ∃ j : Nat, j ≤ N ∧ x = nI j :=
  nI_of2 (nI_toInt hN) (fun q => absurd (Int32.lt_of_lt_of_le q h.1) Int32.lt_irrefl) h.2
theorem ixN {j : Nat} (h : j < 2147483648) : ix (nI j) = j := nI_clamp h
theorem inN2 {x : Int32} {M N : Nat} (hM : M ≤ N) (hN : N < 2147483648) (h : inP x (nI M) (nI N)) : ∃ j : Nat, M ≤ j ∧ j ≤ N ∧ x = nI j := by
  obtain ⟨j, h1, rfl⟩ := inN N hN ⟨Int32.le_trans (nI_pos' (by omega)) h.1, h.2⟩
  exact ⟨j, (nI_leI (by omega) (by omega)).mp h.1, h1, rfl⟩
theorem swK {g : Fn} (h : InvM g) (s w : Nat) (v : Int32) (hs : s < 2) (hw : (w = 0 ∧ inP v 4 40) ∨ (w = 1 ∧ inP v 1 60) ∨ (w = 2 ∧ inP v 0 (g 1 (12 + 3 * s) - 1))) :
    dOK (upd (upd (g 1) (12 + 3 * s + w) v) (12 + 3 * s + 2) (remI (upd (g 1) (12 + 3 * s + w) v (12 + 3 * s + 2)) (upd (g 1) (12 + 3 * s + w) v (12 + 3 * s)))) := by
  have key : ∀ (u : Nat), u < 2 → swOK (g 1) u := fun u hu => by
    rcases (by omega : u = 0 ∨ u = 1) with rfl | rfl
    · exact h.1.1
    · exact h.1.2.1
  obtain ⟨p, q, r, p1, p2, q1, q2, r1, e0, e1, e2⟩ := key s hs
  have hn : swOK (upd (upd (g 1) (12 + 3 * s + w) v) (12 + 3 * s + 2) (remI (upd (g 1) (12 + 3 * s + w) v (12 + 3 * s + 2)) (upd (g 1) (12 + 3 * s + w) v (12 + 3 * s)))) s := by
    rcases hw with ⟨rfl, hv⟩ | ⟨rfl, hv⟩ | ⟨rfl, hv⟩
    · obtain ⟨j, j1, j2, rfl⟩ := inN2 (M := 4) (N := 40) (by omega) (by omega) hv
      refine ⟨j, q, r % j, j1, j2, q1, q2, Nat.mod_lt _ (by omega), ?_, ?_, ?_⟩
      · simp [upd]
      · simp [upd, e1]
      · simp [upd, e2]; exact remN (by omega) (by omega) (by omega)
    · obtain ⟨j, j1, j2, rfl⟩ := inN2 (M := 1) (N := 60) (by omega) (by omega) hv
      refine ⟨p, j, r % p, p1, p2, j1, j2, Nat.mod_lt _ (by omega), ?_, ?_, ?_⟩
      · simp [upd, e0]
      · simp [upd]
      · simp [upd, e2, e0]; exact remN (by omega) (by omega) (by omega)
    · rw [e0] at hv
      have hv : inP v 0 (nI p - nI 1) := hv
      rw [pk_sub (a := p) (b := 1) (by omega)] at hv
      obtain ⟨j, j1, rfl⟩ := inN (p - 1) (by omega) hv
      refine ⟨p, q, j % p, p1, p2, q1, q2, Nat.mod_lt _ (by omega), ?_, ?_, ?_⟩
      · simp [upd, e0]
      · simp [upd, e1]
      · simp [upd, e0]; exact remN (by omega) (by omega) (by omega)
  have hc : ∀ j, ¬ (12 + 3 * s ≤ j ∧ j < 12 + 3 * s + 3) → upd (upd (g 1) (12 + 3 * s + w) v) (12 + 3 * s + 2) (remI (upd (g 1) (12 + 3 * s + w) v (12 + 3 * s + 2)) (upd (g 1) (12 + 3 * s + w) v (12 + 3 * s))) j = g 1 j := fun j hj => by
    rw [updN _ _ _ (by omega), updN _ _ _ (by omega)]
  rcases (by omega : s = 0 ∨ s = 1) with rfl | rfl
  · exact dOKs h.1 (fun j hj => hc j (by omega)) hn (swOKc h.1.2.1 fun j hj => hc _ (by omega))
  · exact dOKs h.1 (fun j hj => hc j (by omega)) (swOKc h.1.1 fun j hj => hc _ (by omega)) hn
theorem K_swing {g : Fn} (h : InvM g) (s w v : Int32) : InvM (RE_swing g s w v).2 := by
  unfold RE_swing
  split
  · rename_i q
    obtain ⟨⟨q1, q2⟩, q3⟩ := q
    obtain ⟨a, a1, rfl⟩ := inN 1 (by omega) q1
    obtain ⟨b, b1, rfl⟩ := inN 2 (by omega) q2
    have ea : ix (nI a) = a := ixN (by omega)
    have eb : ix (nI b) = b := ixN (by omega)
    rw [ea] at q3
    simp only [ea, eb]
    refine InvRow h (fun c hc => ?_) ?_
    · rw [up2_ne _ hc, up2_ne _ hc]
    · rw [up2_same, up2_same]
      refine swK h a b v (by omega) ?_
      rcases q3 with ⟨e, z⟩ | ⟨e, z⟩ | ⟨e, z⟩
      · exact Or.inl ⟨(nI_eq (b := 0) (by omega) (by omega)).mp e, z⟩
      · exact Or.inr (Or.inl ⟨(nI_eq (b := 1) (by omega) (by omega)).mp e, z⟩)
      · exact Or.inr (Or.inr ⟨(nI_eq (b := 2) (by omega) (by omega)).mp e, z⟩)
  · exact InvEr h 1
theorem K_bar {g : Fn} (h : InvM g) (s t : Int32) : InvM (RE_bar g s t).2 := by
  unfold RE_bar; split
  · exact h
  · exact InvEr h 1
theorem K_set {g : Fn} (h : InvM g) (w v : Int32) : InvM (RE_set g w v).2 := by
  unfold RE_set; split
  · rename_i q
    rcases q with ⟨rfl, q⟩ | ⟨rfl, q⟩ | ⟨rfl, q⟩
    · obtain ⟨a, a1, rfl⟩ := inN 200 (by omega) q
      exact InvR h (j := 5) (dOKu h.1 (by omega) (fun N hN => by cases hN; exact ⟨a, a1, rfl⟩) (fun e => absurd e (by decide)))
    · obtain ⟨a, a1, rfl⟩ := inN 30 (by omega) q
      exact InvR h (j := 6) (dOKu h.1 (by omega) (fun N hN => by cases hN; exact ⟨a, a1, rfl⟩) (fun e => absurd e (by decide)))
    · exact InvR h (j := 7) (dOKu h.1 (by omega) (fun N hN => by cases hN) (fun _ => q))
  · exact InvEr h 1
theorem dOKn {d d1 : Nat → Int32} {n : Nat} (h : dOK d) (hn : n < 6) (e : ∀ j, ¬ j = 0 → ¬ (18 + 4 * n ≤ j ∧ j < 18 + 4 * n + 4) → d1 j = d j) (h0 : d 0 = nI n) (e0 : d1 0 = nI (n + 1)) (hf : flOK d1 n) : dOK d1 := by
  obtain ⟨p1, p2, p3, p4, ⟨m, m1, m2, m3⟩, p6, p7, p8, p9, p10, p11, p12, p13, p14, p15⟩ := h
  have hm : m = n := (nI_eq (by omega) (by omega)).mp (m2.symm.trans h0)
  subst hm
  refine ⟨swOKc p1 fun j hj => e _ (by omega) (by omega), swOKc p2 fun j hj => e _ (by omega) (by omega), txOKc p3 (e _ (by omega) (by omega)) (fun j hj => e _ (by omega) (by omega)), txOKc p4 (e _ (by omega) (by omega)) (fun j hj => e _ (by omega) (by omega)), ⟨m + 1, by omega, e0, fun i hi => ?_⟩, ?_⟩
  · by_cases hz : i = m
    · rw [hz]; exact hf
    · exact flOKc (m3 i (by omega)) fun j hj => e _ (by omega) (by omega)
  simp only [e 1 (by omega) (by omega), e 5 (by omega) (by omega), e 6 (by omega) (by omega), e 7 (by omega) (by omega), e 9 (by omega) (by omega), e 10 (by omega) (by omega), e 2 (by omega) (by omega), e 3 (by omega) (by omega), e 4 (by omega) (by omega)]
  exact ⟨p6, p7, p8, p9, p10, p11, p12, p13, p14, fun k hk => by rw [e _ (by omega) (by omega)]; exact p15 k hk⟩
theorem K_flyer {g : Fn} (h : InvM g) (km : Int32) : InvM (RE_flyer g km).2 := by
  unfold RE_flyer
  split
  · rename_i q
    split
    · exact InvEr h 4
    · rename_i q6
      obtain ⟨n, n1, n2, n3⟩ := n6 h
      obtain ⟨k, k1, rfl⟩ := inN 69 (by omega) q
      have hn : n < 6 := by
        rcases Nat.lt_or_ge n 6 with z | z
        · exact z
        · exact absurd (by rw [n2, show n = 6 by omega]; rfl) q6
      refine InvRow h (fun c hc => ?_) ?_
      · simp only [up2_ne _ hc]
      · simp only [up2_same, n3]
        refine dOKn h.1 hn (fun j j0 j1 => ?_) n2 ?_ ⟨k / 10, k % 10, 1, 0, by omega, by omega, by omega, by omega, by omega, ?_, ?_, ?_, ?_⟩
        · unfold fl4; simp only [upd]; rw [if_neg (by omega), if_neg (by omega), if_neg (by omega), if_neg (by omega), if_neg (by omega)]
        · unfold fl4; simp only [upd]; rw [if_neg (by omega), if_neg (by omega), if_neg (by omega), if_neg (by omega), if_pos trivial, n2, nI_1]
        · unfold fl4; simp only [upd]; rw [if_neg (by omega), if_neg (by omega), if_neg (by omega), if_pos trivial]; exact pk_div (d := 10) (by omega) (by omega) (by omega)
        · unfold fl4; simp only [upd]; rw [if_neg (by omega), if_neg (by omega), if_pos trivial]; exact remN (b := 10) (by omega) (by omega) (by omega)
        · unfold fl4; simp only [upd]; rw [if_neg (by omega), if_pos trivial]; rfl
        · unfold fl4; simp only [upd]; rw [if_pos trivial]; rfl
  · exact InvEr h 1
theorem K_ofFlyer {g : Fn} (h : InvM g) (a w : Int32) : InvM (RE_ofFlyer g a w).2 := by
  unfold RE_ofFlyer; split
  · exact h
  · exact InvEr h 1
theorem isF6x {g : Fn} (h : InvM g) {a : Int32} (q : isF g a) : ix a < 6 := (isF6 h q).2.1
theorem K_become {g : Fn} (h : InvM g) (a km : Int32) : InvM (RE_become g a km).2 := by
  unfold RE_become; split
  · rename_i q
    obtain ⟨k, k1, rfl⟩ := inN 69 (by omega) q.2
    have h6 := isF6x h q.1
    have h1 : InvM (up2 g 1 (fl4 (ix a)) (nI k / 10)) := InvR h (dOKf (c := 0) h.1 h6 (by omega) (k / 10) (pk_div (d := 10) (by omega) (by omega) (by omega)) (fun _ => by omega) (fun e => absurd e (by decide)) (fun e => absurd e (by decide)) (fun e => absurd e (by decide)))
    exact InvR h1 (dOKf (c := 1) h1.1 h6 (by omega) (k % 10) (remN (b := 10) (by omega) (by omega) (by omega)) (fun e => absurd e (by decide)) (fun _ => by omega) (fun e => absurd e (by decide)) (fun e => absurd e (by decide)))
  · exact InvEr h 1
theorem K_as {g : Fn} (h : InvM g) (a k : Int32) : InvM (RE_as g a k).2 := by
  unfold RE_as; split
  · split
    · exact h
    · exact InvEr h 5
  · exact InvEr h 1
theorem K_turn {g : Fn} (h : InvM g) (a k : Int32) : InvM (RE_turn g a k).2 := by
  unfold RE_turn; split
  · rename_i q
    obtain ⟨j, j1, j2, rfl⟩ := inN2 (M := 1) (N := 3) (by omega) (by omega) q.2
    exact InvR h (dOKf (c := 2) h.1 (isF6x h q.1) (by omega) j rfl (fun e => absurd e (by decide)) (fun e => absurd e (by decide)) (fun _ => ⟨j1, j2⟩) (fun e => absurd e (by decide)))
  · exact InvEr h 1
theorem byteR (w : Int64) (k : Nat) : 0 ≤ byteM w k ∧ byteM w k < 256 := by
  unfold byteM
  generalize (w >>> ((8 * nI k).toInt64 &&& 63)) = x
  have hle : (x.toBitVec.toNat &&& 255) ≤ 255 := Nat.and_le_right
  have e : x &&& 255 = lN (x.toBitVec.toNat &&& 255) := by
    apply Int64.toBitVec_inj.mp
    apply BitVec.eq_of_toNat_eq
    have h1 : (x &&& 255).toBitVec.toNat = x.toBitVec.toNat &&& 255 := by
      rw [Int64.toBitVec_and, BitVec.toNat_and]; rfl
    rw [h1]
    show _ = (BitVec.ofNat 64 (x.toBitVec.toNat &&& 255)).toNat
    rw [BitVec.toNat_ofNat, Nat.mod_eq_of_lt (by omega)]
  rw [e, lN_i]
  exact ⟨nI_pos' (by omega), nI_lt (b := 256) (by omega) (by omega)⟩
theorem K_feed {g : Fn} (h : InvM g) (w : Int64) (n : Int32) : InvM (RE_feed g w n).2 := by
  unfold RE_feed; split
  · rename_i q
    split
    · exact InvEr h 4
    · rename_i q5
      obtain ⟨j, j1, j2, rfl⟩ := inN2 (M := 1) (N := 8) (by omega) (by omega) q
      refine InvRow h (fun c hc => if_neg hc) ?_
      obtain ⟨p1, p2, p3, p4, ⟨m, m1, m2, m3⟩, p6, p7, p8, p9, ⟨t, t1, t2⟩, p11, p12, p13, p14, p15⟩ := h.1
      have et : ix (g 1 9) = t := by rw [t2]; exact ixN (by omega)
      have ej : ix (nI j) = j := ixN (by omega)
      have hs : g 1 9 + nI j = nI (t + j) := by rw [t2, nI_add]
      have h50 : t + j ≤ 50 := by
        rcases Nat.lt_or_ge 50 (t + j) with z | z
        · exact absurd (by rw [hs]; exact nI_lt (a := 50) z (by omega)) q5
        · exact z
      simp only [if_true, et, ej, hs]
      generalize hd : (fun j_1 : Nat => if j_1 = 9 then nI (t + j) else if 212 + t ≤ j_1 ∧ j_1 < 212 + t + j then byteM w (j_1 - (212 + t)) else g 1 j_1) = d1
      have e : ∀ k, ¬ k = 9 → k < 212 → d1 k = g 1 k := fun k k1 k2 => by rw [← hd]; show (if _ then _ else _) = _; rw [if_neg k1, if_neg (by omega)]
      refine ⟨swOKc p1 fun j hj => e _ (by omega) (by omega), swOKc p2 fun j hj => e _ (by omega) (by omega), txOKc p3 (e _ (by omega) (by omega)) (fun j hj => e _ (by omega) (by omega)), txOKc p4 (e _ (by omega) (by omega)) (fun j hj => e _ (by omega) (by omega)), ⟨m, m1, by rw [e _ (by omega) (by omega)]; exact m2, fun i hi => flOKc (m3 i hi) fun j hj => e _ (by omega) (by omega)⟩, ?_⟩
      simp only [e 1 (by omega) (by omega), e 5 (by omega) (by omega), e 6 (by omega) (by omega), e 7 (by omega) (by omega), e 10 (by omega) (by omega), e 2 (by omega) (by omega), e 3 (by omega) (by omega), e 4 (by omega) (by omega)]
      refine ⟨p6, p7, p8, p9, ⟨t + j, h50, by rw [← hd]; rfl⟩, p11, p12, p13, p14, fun k hk => ?_⟩
      rw [← hd]
      dsimp only
      rw [if_neg (by omega)]
      split
      · exact byteR _ _
      · exact p15 k hk
  · exact InvEr h 1
theorem K_text {g : Fn} (h : InvM g) (u : Int32) : InvM (RE_text g u).2 := by
  unfold RE_text; split
  · rename_i q
    obtain ⟨a, a1, rfl⟩ := inN 1 (by omega) q
    have ea : ix (nI a) = a := ixN (by omega)
    split
    · rename_i qt
      refine InvRow h (fun c hc => if_neg hc) ?_
      obtain ⟨p1, p2, p3, p4, ⟨m, m1, m2, m3⟩, p6, p7, p8, p9, ⟨t, t1, t2⟩, p11, p12, p13, p14, p15⟩ := h.1
      have et : ix (g 1 9) = t := by rw [t2]; exact ixN (by omega)
      rw [et] at qt
      simp only [if_true, et, ea]
      generalize hd : (fun j : Nat => if j = 9 then 0 else if j = 90 + a then g 1 9 else if 112 + 50 * a ≤ j ∧ j < 112 + 50 * a + t then g 1 (212 + (j - (112 + 50 * a))) else g 1 j) = d1
      have e : ∀ k, ¬ k = 9 → ¬ k = 90 + a → ¬ (112 + 50 * a ≤ k ∧ k < 112 + 50 * a + t) → d1 k = g 1 k := fun k k1 k2 k3 => by rw [← hd]; show (if _ then _ else _) = _; rw [if_neg k1, if_neg k2, if_neg k3]
      have hx : txOK d1 a := by
        have e9 : d1 (90 + a) = nI t := by rw [← hd]; show (if _ then _ else _) = _; rw [if_neg (by omega), if_pos rfl, t2]
        rcases Nat.eq_zero_or_pos t with z | z
        · left; rw [e9, z]; rfl
        · right
          have hp : pT (txb d1 a) t = pT (fun j => g 1 (212 + j)) t := pT_c fun j hj => by
            unfold txb; rw [← hd]; show (if _ then _ else _) = _
            rw [if_neg (by omega), if_neg (by omega), if_pos (by omega)]
            show g 1 _ = g 1 _
            congr 1; omega
          exact ⟨t, z, t1, e9, by rw [hp]; exact qt.1, by rw [hp]; exact qt.2⟩
      have ho : ∀ b : Nat, b < 2 → ¬ b = a → txOK (g 1) b → txOK d1 b := fun b hb hba hz => txOKc hz (e _ (by omega) (by omega) (by omega)) (fun j hj => e _ (by omega) (by omega) (by omega))
      have h0 : txOK d1 0 := by
        by_cases z : 0 = a
        · rw [z]; exact hx
        · exact ho 0 (by omega) z p3
      have h1 : txOK d1 1 := by
        by_cases z : 1 = a
        · rw [z]; exact hx
        · exact ho 1 (by omega) z p4
      refine ⟨swOKc p1 fun j hj => e _ (by omega) (by omega) (by omega), swOKc p2 fun j hj => e _ (by omega) (by omega) (by omega), h0, h1, ⟨m, m1, by rw [e _ (by omega) (by omega) (by omega)]; exact m2, fun i hi => flOKc (m3 i hi) fun j hj => e _ (by omega) (by omega) (by omega)⟩, ?_⟩
      simp only [e 1 (by omega) (by omega) (by omega), e 5 (by omega) (by omega) (by omega), e 6 (by omega) (by omega) (by omega), e 7 (by omega) (by omega) (by omega), e 10 (by omega) (by omega) (by omega), e 2 (by omega) (by omega) (by omega), e 3 (by omega) (by omega) (by omega), e 4 (by omega) (by omega) (by omega)]
      exact ⟨p6, p7, p8, p9, ⟨0, by omega, by rw [← hd]; rfl⟩, p11, p12, p13, p14, fun k hk => by rw [e _ (by omega) (by omega) (by omega)]; exact p15 k hk⟩
    · exact InvR h (dOKu h.1 (by omega) (fun N hN => ⟨0, by omega, rfl⟩) (fun e => absurd e (by decide)))
  · exact InvEr h 1
theorem K_law {g : Fn} (h : InvM g) (u a b c : Int32) : InvM (RE_law g u a b c).2 := by
  unfold RE_law; split
  · exact h
  · exact InvEr h 1
theorem K_go {g : Fn} (h : InvM g) (a : Int32) : InvM (RE_go g a).2 := by
  unfold RE_go; split
  · rename_i q; exact (goesK h (isF6x h q)).1
  · exact InvEr h 1
theorem K_ticks {g : Fn} (h : InvM g) (n : Int32) : InvM (RE_ticks g n).2 := by
  unfold RE_ticks; split
  · rename_i q
    split
    · exact InvEr h 3
    · rename_i q9
      obtain ⟨t, t1, t2⟩ := t9 h
      obtain ⟨j, j1, j2, rfl⟩ := inN2 (M := 1) (N := 200) (by omega) (by omega) q
      rw [t2, nI_add] at q9 ⊢
      have h9 : t + j ≤ 9999 := by
        rcases Nat.lt_or_ge 9999 (t + j) with z | z
        · exact absurd (nI_lt (a := 9999) z (by omega)) q9
        · exact z
      exact InvR h (j := 1) (dOKu h.1 (by omega) (fun N hN => by cases hN; exact ⟨t + j, h9, rfl⟩) (fun e => absurd e (by decide)))
  · exact InvEr h 1
theorem K_evenings {g : Fn} (h : InvM g) (n : Int32) : InvM (RE_evenings g n).2 := by
  unfold RE_evenings; split
  · rename_i q
    split
    · exact InvEr h 3
    · rename_i q9
      obtain ⟨t, t1, t2⟩ := t9 h
      obtain ⟨j, j1, j2, rfl⟩ := inN2 (M := 1) (N := 40) (by omega) (by omega) q
      have ej : ix (nI j) = j := ixN (by omega)
      have h12 : (12 : Int32) * nI j = nI (12 * j) := nImul 12 j
      rw [t2, h12, nI_add] at q9
      have h9 : t + 12 * j ≤ 9999 := by
        rcases Nat.lt_or_ge 9999 (t + 12 * j) with z | z
        · exact absurd (nI_lt (a := 9999) z (by omega)) q9
        · exact z
      rw [ej]
      exact (eveKK h t2 j h9).1
  · exact InvEr h 1
theorem K_rest {g : Fn} (h : InvM g) : InvM (RE_rest g).2 := by
  unfold RE_rest
  obtain ⟨n, n1, n2, n3⟩ := n6 h
  rw [n3]; exact (rstK h n n1).1
theorem K_then {g : Fn} (h : InvM g) (a n w : Int32) : InvM (RE_then g a n w).2 := by
  unfold RE_then; split
  · exact h
  · exact InvEr h 1
theorem K_o {g : Fn} (h : InvM g) (o : Option Nat) : InvM (RE_o g o).2 := by
  cases o with
  | none => exact InvEr h 2
  | some k => exact h
theorem K_can {g : Fn} (h : InvM g) (a n w : Int32) : InvM (RE_can g a n w).2 := by
  unfold RE_can; split
  · split
    · exact h
    · exact K_o h _
  · exact InvEr h 1
theorem K_surest {g : Fn} (h : InvM g) (a n : Int32) : InvM (RE_surest g a n).2 := by
  unfold RE_surest; split
  · exact h
  · exact InvEr h 1
theorem K_odds {g : Fn} (h : InvM g) (a n p : Int32) : InvM (RE_odds g a n p).2 := by
  unfold RE_odds; split
  · exact h
  · exact InvEr h 1
theorem K_pumped {g : Fn} (h : InvM g) (a n : Int32) : InvM (RE_pumped g a n).2 := by
  unfold RE_pumped; split
  · exact K_o h _
  · exact InvEr h 1
theorem K_inStep {g : Fn} (h : InvM g) (a n : Int32) : InvM (RE_inStep g a n).2 := by
  unfold RE_inStep; split
  · exact K_o h _
  · exact InvEr h 1
theorem K_mend {g : Fn} (h : InvM g) (a n x y : Int32) : InvM (RE_mend g a n x y).2 := by
  unfold RE_mend; split
  · exact h
  · exact InvEr h 1
theorem K_again {g : Fn} (h : InvM g) (a n x y p : Int32) : InvM (RE_again g a n x y p).2 := by
  unfold RE_again; split
  · exact h
  · exact InvEr h 1
theorem K_net {g : Fn} (h : InvM g) (a n w : Int32) : InvM (RE_net g a n w).2 := by
  unfold RE_net; split
  · split
    · exact InvEr h 2
    · exact h
  · exact InvEr h 1
theorem K_phases {g : Fn} (h : InvM g) (a s w : Int32) : InvM (RE_phases g a s w).2 := by
  unfold RE_phases; split
  · split
    · exact InvEr h 2
    · split
      · exact K_o h _
      · split
        · exact InvEr h 2
        · exact h
  · exact InvEr h 1
theorem K_late {g : Fn} (h : InvM g) (a s : Int32) : InvM (RE_late g a s).2 := by
  unfold RE_late; split
  · split
    · exact InvEr h 2
    · exact K_o h _
  · exact InvEr h 1
theorem K_seed {g : Fn} (h : InvM g) (v : Int32) : InvM (RE_seed g v).2 := InvSeed h v
theorem K_voice {g : Fn} (h : InvM g) (a act x : Int32) : InvM (RE_voice g a act x).2 := by
  unfold RE_voice; split
  · rename_i q
    have hk : kOK (g 1 (fl4 (ix a))) := kOK6 (fl3B h.1 q.1).2.2.1
    have ha : actOK act := by
      obtain ⟨j, j1, rfl⟩ := inN 3 (by omega) q.2
      unfold actOK
      rcases (by omega : j = 0 ∨ j = 1 ∨ j = 2 ∨ j = 3) with rfl | rfl | rfl | rfl <;> decide
    have hl : (voM g a act x).2.length ≤ 40 := by
      have h1 : (voM g a act x).2.length ≤ vlb act (klv (g 1 (fl4 (ix a)))) := by unfold voM; exact vo_len hk _ _ _ _ ha hk
      have h2 := vlb40 (a := act) (l := klv (g 1 (fl4 (ix a)))) (by unfold klv; split <;> first | omega | (split <;> omega))
      omega
    obtain ⟨h1, h2, h3, h4, h5⟩ := h
    exact ⟨h1, h2, h3, h4, ⟨_, hl, rfl⟩⟩
  · exact InvEr h 1
theorem K_trace {g : Fn} (h : InvM g) (i : Int32) : InvM (RE_trace g i).2 := by
  unfold RE_trace; split
  · exact h
  · exact InvEr h 2
theorem K_sheet {g : Fn} (h : InvM g) (s b n : Int32) : InvM (RE_sheet g s b n).2 := by
  unfold RE_sheet; split
  · rename_i q
    split
    · exact InvEr h 3
    · split
      · exact InvEr h 1
      · rename_i q1 q2
        obtain ⟨h1, h2, h3, h4, h5⟩ := h
        refine ⟨h1, h2, h3, fun i hi => ⟨?_, ?_⟩, h5⟩
        · show (upd (g 7) (ix s) b i = 0 ∨ _)
          by_cases z : i = ix s
          · subst z
            show upd (g 7) (ix s) b (ix s) = 0 ∨ upd (g 7) (ix s) b (ix s) = 8 ∨ upd (g 7) (ix s) b (ix s) = 16 ∨ upd (g 7) (ix s) b (ix s) = 32
            rw [updE]; exact q.2
          · show upd (g 7) (ix s) b i = 0 ∨ upd (g 7) (ix s) b i = 8 ∨ upd (g 7) (ix s) b i = 16 ∨ upd (g 7) (ix s) b i = 32
            rw [updN _ _ _ z]; exact (h4 i hi).1
        · show ∃ m : Nat, m ≤ 40 ∧ upd (g 8) (ix s) (if b = 0 then 0 else n) i = nI m
          by_cases z : i = ix s
          · subst z
            rw [updE]
            by_cases zb : b = 0
            · rw [if_pos zb]; exact ⟨0, by omega, rfl⟩
            · rw [if_neg zb]
              exact inN 40 (by omega) ⟨Int32.not_lt.mp fun k => q1 ⟨zb, k⟩, Int32.not_lt.mp fun k => q2 ⟨zb, k⟩⟩ |>.elim fun m hm => ⟨m, hm⟩
          · rw [updN _ _ _ z]; exact (h4 i hi).2
  · exact InvEr h 1
theorem K_put {g : Fn} (h : InvM g) (s i v : Int32) : InvM (RE_put g s i v).2 := by
  unfold RE_put; split
  · split
    · exact InvEr h 2
    · split
      · exact h
      · exact InvEr h 1
  · exact InvEr h 1
theorem K_move {g : Fn} (h : InvM g) (s i o j n : Int32) : InvM (RE_move g s i o j n).2 := by
  unfold RE_move; split
  · split
    · exact InvEr h 2
    · split
      · exact InvEr h 5
      · split
        · exact InvEr h 1
        · exact h
  · exact InvEr h 1
theorem trnK {g : Fn} {s : Nat} (h : InvM g) : ∀ k, k ≤ 40 → InvM (trnN g s k).2
  | 0, _ => h
  | k + 1, hk => by
    have ih := trnK (s := s) h k (by omega)
    rw [trn_s]
    split
    · rename_i q
      obtain ⟨q1, q2, q3⟩ := q
      obtain ⟨n, n1, n2, n3⟩ := n6 h
      obtain ⟨j, j1, j2, j3⟩ := inN2 (M := 1) (N := 3) (by omega) (by omega) q3
      rw [n2] at q2
      have hk6 : k < 6 := Nat.lt_of_lt_of_le ((nI_ltI (by omega) (by omega)).mp q2) n1
      rw [j3]
      exact InvR ih (dOKf (c := 2) ih.1 hk6 (by omega) j rfl (fun e => absurd e (by decide)) (fun e => absurd e (by decide)) (fun _ => ⟨j1, j2⟩) (fun e => absurd e (by decide)))
    · exact ih
theorem K_turns {g : Fn} (h : InvM g) (s : Int32) : InvM (RE_turns g s).2 := by
  unfold RE_turns; split
  · split
    · exact InvEr h 2
    · rename_i q _
      obtain ⟨a, a1, rfl⟩ := inN 3 (by omega) q
      have ea : ix (nI a) = a := ixN (by omega)
      obtain ⟨n, n1, n2⟩ := (h.2.2.2.1 a (by omega)).2
      refine trnK h _ ?_
      rw [ea, n2, ixN (by omega)]; exact n1
  · exact InvEr h 1
theorem K_judge {g : Fn} (h : InvM g) (s : Int32) : InvM (RE_judge g s).2 := by
  unfold RE_judge; split
  · split
    · exact InvEr h 2
    · exact h
  · exact InvEr h 1
theorem K_image {g : Fn} (h : InvM g) : InvM (RE_image g).2 := by
  obtain ⟨h1, h2, h3, h4, h5⟩ := h
  exact ⟨h1, Or.inr (dOKg h1 fun j hj => if_pos hj), h3, h4, h5⟩
theorem K_restore {g : Fn} (h : InvM g) : InvM (RE_restore g).2 := by
  unfold RE_restore; split
  · exact InvEr h 2
  · rename_i q
    have h2 : dOK (g 2) := h.2.1.elim (fun z => absurd z q) id
    exact InvRow h (fun c hc => if_neg hc) (dOKg h2 fun j hj => if_pos hj)
theorem K_tell {g : Fn} (h : InvM g) (v : Int32) : InvM (RE_tell g v).2 := by
  unfold RE_tell; split
  · exact InvEr h 4
  · rename_i q
    obtain ⟨n, n1, n2⟩ : ∃ n : Nat, n ≤ 20 ∧ g 1 10 = nI n := by
      obtain ⟨p1, p2, p3, p4, p5, p6, p7, p8, p9, p10, p11, p12⟩ := h.1; exact p11
    have hn : n < 20 := by
      rcases Nat.lt_or_ge n 20 with z | z
      · exact z
      · exact absurd (by rw [n2, show n = 20 by omega]; rfl) q
    have e : ix (g 1 10) = n := by rw [n2]; exact ixN (by omega)
    have h1 : InvM (up2 g 1 (92 + n) v) := InvR h (dOKu h.1 (by omega) (fun N hN => by
      unfold scN at hN
      rw [if_neg (by omega), if_neg (by omega), if_neg (by omega), if_neg (by omega), if_neg (by omega), if_neg (by omega)] at hN; cases hN) (fun e => by omega))
    rw [e, n2, nI_1]
    exact InvR h1 (j := 10) (dOKu h1.1 (by omega) (fun N hN => by cases hN; exact ⟨n + 1, by omega, rfl⟩) (fun e => absurd e (by decide)))
theorem K_check {g : Fn} (h : InvM g) : InvM (RE_check g).2 := InvR h (j := 10) (dOKu h.1 (by omega) (fun N hN => ⟨0, by omega, rfl⟩) (fun e => absurd e (by decide)))
theorem K_count {g : Fn} (h : InvM g) (w : Int32) : InvM (RE_count g w).2 := by
  unfold RE_count
  split
  · exact h
  · split
    · exact h
    · split
      · exact h
      · split
        · exact h
        · split
          · exact h
          · exact InvEr h 1
theorem K_told {g : Fn} (h : InvM g) (k : Int32) : InvM (RE_told g k).2 := by
  unfold RE_told; split
  · exact h
  · exact InvEr h 1
