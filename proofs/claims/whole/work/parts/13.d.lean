theorem asT_f {V : Vw} {x : Nat → Int32} {k : Nat} (h : asT V x k = false) : ∀ n, k ≤ n → asT V x n = false
  | 0, hn => by rw [show (0 : Nat) = k by omega]; exact h
  | n + 1, hn => by
    by_cases e : k = n + 1
    · rw [← e]; exact h
    · rw [asT_s, asT_f h n (by omega)]; rfl
theorem vc_X9_isSo : vcS_X9_isSo := by
  intro f0 a1 a2 hp
  obtain ⟨hd, h6, h4, n, n40, hn⟩ := hp
  have vv := VMt_v f0 (ix a1)
  obtain ⟨V, hV⟩ : ∃ V, V = VMt f0 (ix a1) := ⟨_, rfl⟩
  simp only [wp_X9_isSo, wp_X9_isSo_L5]
  refine ⟨fun (f : Fn) (x1 x2 x3 x4 : Int32) => x1 = a1 ∧ x2 = a2 ∧ frG f0 f ∧ ∃ k : Nat, k ≤ n ∧ x4 = nI k ∧ x3 = bI (asT V (shN f0 (ix a2)) k), fun _ _ _ _ x4 => 100 - x4.toNatClampNeg, ⟨rfl, rfl, frG_0 _, 0, by omega, rfl, rfl⟩, ?_⟩
  rintro f x1 x2 x3 x4 ⟨rfl, rfl, hf, k, hk, rfl, rfl⟩
  simp only [wpb_X9_isSo_L5, wp_X9_isSo_L58, pI_iff]
  have e8 : f 8 x2.toNatClampNeg = nI n := by rw [hf.1 8 (by decide) (by decide)]; exact hn
  rw [e8, nI_leI (by omega) (by omega)]
  have fin : ∀ b, b = asT V (shN f0 (ix x2)) n → Post_X9_isSo f0 x1 x2 (bI b) f := fun b hb => by
    refine ⟨hf, ?_⟩
    rw [hb, ← hV, hn, show ix (nI n) = n from nI_clamp (by omega)]
  refine ⟨h4, fun h => ⟨bI01 _, ?_⟩, fun h => ⟨fun h2 => ⟨bI01 _, ?_⟩, fun h2 => ⟨⟨by rw [frG1 hf]; exact hd, h6⟩, fun f7 p => ?_⟩⟩⟩
  · have : k = n := by omega
    subst this
    exact fin _ rfl
  · have h3 := bI_0 h2
    exact fin _ (by rw [h3, asT_f h3 n hk])
  · obtain ⟨p1, -, p3, p4, -⟩ := toldE p
    have g7 := frG_t hf p1
    have h3 := bI_1 h2
    rw [VMtF hf, ← hV] at p4
    have e15 : f 1 1 = vW V 3 := by rw [frG1 hf, hV, vv.2.2.2.2.2.2.2.1]
    rw [e15] at p4
    rw [vp4] at h4
    have s4 := sh40 (a := x2) (i := nI k) h4.1 (by grind) (Int32.not_lt.mp (nI_pos (by omega))) (nI_lt (b := 40) (by omega) (by omega))
    have e9 : f7 9 (40 * x2 + nI k).toNatClampNeg = shN f0 (ix x2) k := by
      rw [s4.2, nI_clamp (by omega), g7.1 9 (by decide) (by decide)]; rfl
    rw [p4, e9]
    have mm : 100 - (nI k + 1).toNatClampNeg < 100 - (nI k).toNatClampNeg := by
      rw [nI_1, nI_clamp (by omega), nI_clamp (by omega)]; omega
    refine ⟨by unfold Pre_X9_offNow; rw [p3, frG1 hf]; exact swO hd, s4.1, fun h5 => ⟨⟨trivial, trivial, g7, k + 1, by omega, by rw [nI_1], ?_⟩, mm⟩, fun h5 => ⟨⟨trivial, trivial, g7, k + 1, by omega, by rw [nI_1], ?_⟩, mm⟩⟩
    · rw [asT_s, h3, decide_eq_false h5]; rfl
    · rw [asT_s, h3, decide_eq_true h5]; rfl
set_option maxHeartbeats 200000 in
theorem vc_X9_isSheet : vcS_X9_isSheet := by
  unfold vcS_X9_isSheet
  simp only [wp_X9_isSheet, pI_iff, pV_iff, pL_iff, Val_X9_isSheet, tn0, tn1, tn2, tn3, tn4, tn5, tn6, tn7, tn8, tn9, tn10, tn12, tn18, tn40, tn50, tn60, tn90, tn92, tn112, tn212, tnn1, ni0, ni1, ni2, ni3, ni4, ni5, ni6, ni7, er1, er2, er3, er4, er5, lg_cmp_lt, lg_cmp_le, lg_cmp_gt, lg_cmp_ge, lg_cmp_eq, in_m99_299, in_0_1, in_0_19999, in_0_2, in_0_200, in_0_3, in_0_30, in_0_4, in_0_6, in_0_60, in_0_69, in_0_9, in_0_99, in_1_200, in_1_3, in_1_40, in_1_5, in_1_60, in_1_8, in_4_40, in_0e]
  intros
  (repeat' (first | with_reducible apply And.intro | with_reducible intro _)) <;> (try first | apply pR_some | apply pR_none) <;> first | grind [Val_X9_isSheet, Val_X9_in, up2_ap, cpr_ap, vp1, vp2, vp3, vp4, vp5, vp6, vp20, vp40, vp50, vp60, vp160, vp264, tnc, nIX, nIc, tncA, tncS, tncM, l56, eqM_rfl, up2_row, InvF, InvF0, dF1, dF2, sw0, sw1, InvT]
set_option maxHeartbeats 400000 in
theorem vc_X9_phases : vcS_X9_phases := by
  intro f0 a1 a2 a3 hp
  unfold Pre_X9_phases at hp
  have hd := hp.1
  have h10 := (InvF hp).2
  have bad : ¬ (isF f0 a1 ∧ inP a2 0 3 ∧ inP a3 0 1) → Pre_X9_finds f0 1 ∧ ∀ (r3 : Int32) (f4 : Fn), Post_X9_finds f0 1 r3 f4 → Post_X9_phases f0 a1 a2 a3 r3 f4 := fun h => by
    have R : RE_phases f0 a1 a2 a3 = er f0 1 := by unfold RE_phases; rw [if_neg h]
    exact ⟨pf1 f0, fun r f p => by unfold Post_X9_phases; rw [R]; exact fi1 p⟩
  simp only [wp_X9_phases, wp_X9_phases_L25, pI_iff, in_0_1]
  have sV : Val_X9_isSheet f0 a2 = if inP a2 0 3 then 1 else 0 := rfl
  refine ⟨fun h => bad fun q => isFw h q.1, fun h => ⟨fun h2 => bad fun q => (by rw [sV, if_pos q.2.1] at h2; cases h2), fun h2 => ⟨fun h3 => ?_, fun h3 => bad fun q => by rw [if_pos q.2.2] at h3; cases h3⟩⟩⟩
  obtain ⟨iF, v6, i0, i6, i7⟩ := isFv hp h
  have c2 : inP a2 0 3 := Classical.byContradiction fun hn => h2 (by rw [sV, if_neg hn])
  have c3 : inP a3 0 1 := Classical.byContradiction fun hn => h3 (if_neg hn)
  have si := shI hp c2.1 c2.2
  refine ⟨si.2.1, fun h7 => ?_, fun h7 => ⟨pf2 f0, fun r f p => ?_⟩⟩
  rotate_left
  · have R : RE_phases f0 a1 a2 a3 = er f0 2 := by unfold RE_phases; rw [if_pos ⟨iF, c2, c3⟩, if_pos h7]
    unfold Post_X9_phases; rw [R]; exact fi2 p
  obtain ⟨P, hP⟩ : ∃ P, P = phsP (VM (f0 1) (ix a1)) (shN f0 (ix a2)) (ix (f0 8 (ix a2))) := ⟨_, rfl⟩
  obtain ⟨pp, w, xx, a1', a2', w1, w2, a5', hw0, -, hw⟩ := hd.2.1
  have hw0 : f0 1 15 = nI pp := hw0
  have px : ix (f0 1 15) = pp := by rw [hw0]; exact nI_clamp (by omega)
  obtain ⟨ns, ns1, ns2⟩ : ∃ n : Nat, n ≤ 40 ∧ f0 8 (ix a2) = nI n := nI_of2 (M := 40) (n := 40) (by decide) (Int32.not_lt.mpr si.2.2.1) si.2.2.2
  have R : RE_phases f0 a1 a2 a3 = if a3 = 0 then RE_o f0 (fst P pp) else if fst P pp = none then er f0 2 else (cntI P pp, f0) := by
    unfold RE_phases; rw [if_pos ⟨iF, c2, c3⟩, if_neg h7, ← hP, px]
  simp only [wp_X9_phases_L72]
  refine ⟨fun (f : Fn) (x1 x2 x3 x4 x5 x6 x7 : Int32) => x1 = a1 ∧ x2 = a2 ∧ x3 = a3 ∧ x4 = f0 1 17 ∧ (∃ v, frG (up2 f0 1 17 v) f) ∧ ∃ k c : Nat, k + c ≤ pp ∧ x7 = nI k - 1 ∧ x5 = nI c ∧ cntI P pp = nI c + cntI P k ∧ (c = 0 → fst P pp = fst P k) ∧ (¬ c = 0 → ∃ j, x6 = nI j ∧ (fst P k = none → fst P pp = some j)), fun _ _ _ _ _ _ _ x7 => (x7 + 1).toNatClampNeg, ⟨rfl, rfl, rfl, rfl, ⟨_, frUs f0 17⟩, pp, 0, by omega, by rw [hw0], rfl, by show _ = (0 : Int32) + _; grind, fun _ => rfl, fun h => absurd rfl h⟩, ?_⟩
  rintro f x1 x2 x3 x4 x5 x6 x7 ⟨rfl, rfl, rfl, rfl, ⟨v, hf⟩, k, c, kc, rfl, rfl, hc, hz, hnz⟩
  simp only [wpb_X9_phases_L72, wp_X9_phases_L102, pI_iff]
  have rm := resM hf
  have m1 : ∀ j : Nat, nI (j + 1) - 1 = nI j := fun j => by rw [← nI_1]; grind
  refine ⟨fun h4 => ?_, fun h4 => ?_⟩
  · have k0 : k = 0 := by
      match k, h4 with
      | 0, _ => rfl
      | k + 1, h4 => rw [m1] at h4; exact absurd h4 (nI_pos (by omega))
    subst k0
    unfold Post_X9_phases
    rw [R]
    refine ⟨fun h5 => ?_, fun h5 => ⟨pf2 _, fun r f p => ?_⟩⟩
    · have c0 : ¬ c = 0 := fun e => h5 (by rw [e]; rfl)
      obtain ⟨j, j1, j2⟩ := hnz c0
      have j3 := j2 rfl
      refine ⟨fun h6 => ?_, fun h6 => ?_⟩
      · rw [if_neg h6, if_neg (by rw [j3]; exact fun e => by cases e)]
        refine ⟨?_, rm⟩
        rw [hc]; show _ = nI c + (0 : Int32); grind
      · rw [if_pos h6, j3, j1]; exact ⟨rfl, rm⟩
    · have c0 : c = 0 := by
        have : nI c = nI 0 := h5
        rwa [nI_eq (by omega) (by omega)] at this
      have fn : fst P pp = none := hz c0
      have q := fin2 rm p
      by_cases h6 : x3 = 0
      · rw [if_pos h6, fn]; exact q
      · rw [if_neg h6, if_pos fn]; exact q
  · match k, kc, hc, hz, hnz, h4 with
    | 0, kc, hc, hz, hnz, h4 => exact absurd (by decide) h4
    | k + 1, kc, hc, hz, hnz, h4 =>
      rw [m1]
      have r1 := row1 hf (nI k)
      have hdH : dOK (upd (f0 1) 17 (nI k)) := dOK17 hd _ (Int32.not_lt.mp (nI_pos (by omega))) (by rw [hw0]; exact nI_lt (by omega) (by omega))
      have r8 : ∀ a, ¬ a = 0 → ¬ a = 4 → ¬ a = 1 → up2 f 1 17 (nI k) a = f0 a := fun a x y z => by rw [up2_row _ _ _ _ _ z, hf.1 a x y, up2_row _ _ _ _ _ z]
      have sh : shN (up2 f 1 17 (nI k)) (ix x2) = shN f0 (ix x2) := by unfold shN; rw [r8 9 (by decide) (by decide) (by decide)]
      refine ⟨⟨by rw [r1]; exact hdH, v6, si.2.1, ns, ns1, by rw [r8 8 (by decide) (by decide) (by decide)]; exact ns2⟩, fun r18 f19 p => ?_⟩
      obtain ⟨p1, p2⟩ := p
      have g := row1g hf p1
      rw [VMtE (by rw [up2_row _ _ _ _ _ (by decide), hf.2 10 (by decide), up2_row _ _ _ _ _ (by decide)]; exact h10), r1, VM17 hd, sh, r8 8 (by decide) (by decide) (by decide)] at p2
      have pe : r18 = bI (P k) := by rw [p2, hP]; rfl
      have mm : (nI k + -1 + 1).toNatClampNeg < (nI k + 1).toNatClampNeg := by
        have : nI k + -1 + 1 = nI k := by grind
        rw [this, nI_1, nI_clamp (by omega), nI_clamp (by omega)]; omega
      have mk : nI k + -1 = nI k - 1 := by grind
      refine ⟨fun h5 => ⟨⟨trivial, trivial, trivial, trivial, ⟨_, g⟩, k, c, by omega, mk, rfl, ?_, fun e => ?_, fun e => ?_⟩, mm⟩, fun h5 => ⟨⟨trivial, trivial, trivial, trivial, ⟨_, g⟩, k, c + 1, by omega, mk, by rw [nI_1], ?_, fun e => ?_, fun _ => ⟨k, rfl, fun e => ?_⟩⟩, mm⟩⟩
      · rw [pe] at h5
        rw [hc, cnt_s, bI_0 h5]; show _ + (_ + (0 : Int32)) = _; grind
      · rw [pe] at h5
        rw [hz e]
        cases e : fst P k with
        | none => rw [fst_s _ _ e, bI_0 h5]; rfl
        | some j => exact fst_m (fst_m' e) (by have := fst_lt e; omega)
      · rw [pe] at h5
        obtain ⟨j, j1, j2⟩ := hnz e
        exact ⟨j, j1, fun e2 => j2 (by rw [fst_s _ _ e2, bI_0 h5]; rfl)⟩
      · rw [pe] at h5
        rw [hc, cnt_s, bI_1 h5, ← nI_1]; show _ + (_ + (1 : Int32)) = _; grind
      · omega
      · rw [pe] at h5
        exact fst_h e (bI_1 h5) (by omega)
set_option maxHeartbeats 400000 in
theorem vc_X9_late : vcS_X9_late := by
  intro f0 a1 a2 hp
  unfold Pre_X9_late at hp
  have hd := hp.1
  have h10 := (InvF hp).2
  have bad : ¬ (isF f0 a1 ∧ inP a2 0 3) → Pre_X9_finds f0 1 ∧ ∀ (r3 : Int32) (f4 : Fn), Post_X9_finds f0 1 r3 f4 → Post_X9_late f0 a1 a2 r3 f4 := fun h => by
    have R : RE_late f0 a1 a2 = er f0 1 := by unfold RE_late; rw [if_neg h]
    exact ⟨pf1 f0, fun r f p => by unfold Post_X9_late; rw [R]; exact fi1 p⟩
  simp only [wp_X9_late, wp_X9_late_L15, pI_iff]
  have sV : Val_X9_isSheet f0 a2 = if inP a2 0 3 then 1 else 0 := rfl
  refine ⟨fun h => bad fun q => isFw h q.1, fun h => ⟨fun h2 => ?_, fun h2 => bad fun q => by rw [sV, if_pos q.2] at h2; cases h2⟩⟩
  obtain ⟨iF, v6, i0, i6, i7⟩ := isFv hp h
  have c2 : inP a2 0 3 := Classical.byContradiction fun hn => h2 (by rw [sV, if_neg hn])
  have si := shI hp c2.1 c2.2
  refine ⟨si.2.1, fun h7 => ?_, fun h7 => ⟨pf2 f0, fun r f p => ?_⟩⟩
  rotate_left
  · have R : RE_late f0 a1 a2 = er f0 2 := by unfold RE_late; rw [if_pos ⟨iF, c2⟩, if_pos h7]
    unfold Post_X9_late; rw [R]; exact fi2 p
  obtain ⟨P, hP⟩ : ∃ P, P = lagP (VM (f0 1) (ix a1)) (shN f0 (ix a2)) (ix (f0 8 (ix a2))) := ⟨_, rfl⟩
  obtain ⟨ns, ns1, ns2⟩ : ∃ n : Nat, n ≤ 40 ∧ f0 8 (ix a2) = nI n := nI_of2 (M := 40) (n := 40) (by decide) (Int32.not_lt.mpr si.2.2.1) si.2.2.2
  have R : RE_late f0 a1 a2 = RE_o f0 (fst P 10) := by
    unfold RE_late; rw [if_pos ⟨iF, c2⟩, if_neg h7, ← hP]
  simp only [wp_X9_late_L42]
  refine ⟨fun (f : Fn) (x1 x2 x3 x4 : Int32) => x1 = a1 ∧ x2 = a2 ∧ (∃ v, frG (up2 f0 0 10 v) f) ∧ ∃ k : Nat, k ≤ 10 ∧ x4 = nI k - 1 ∧ (x3 = -1 ∧ fst P 10 = fst P k ∨ ∃ j, j < 10 ∧ x3 = nI j ∧ (fst P k = none → fst P 10 = some j)), fun _ _ _ _ x4 => (x4 + 1).toNatClampNeg, ⟨rfl, rfl, ⟨f0 0 10, by rw [up2_self]; exact frG_0 _⟩, 10, by omega, by decide, Or.inl ⟨rfl, rfl⟩⟩, ?_⟩
  rintro f x1 x2 x3 x4 ⟨rfl, rfl, ⟨v, hf⟩, k, hk, rfl, hx⟩
  simp only [wpb_X9_late_L42, wp_X9_late_L68, pI_iff]
  have m1 : ∀ j : Nat, nI (j + 1) - 1 = nI j := fun j => by rw [← nI_1]; grind
  have row : ∀ w a, ¬ a = 0 → ¬ a = 4 → up2 f 0 10 w a = f0 a := fun w a x y => by rw [up2_row _ _ _ _ _ x, hf.1 a x y, up2_row _ _ _ _ _ x]
  have rm : eqM f0 (up2 f 0 10 (-1)) := by
    refine ⟨row _ 1 (by decide) (by decide), row _ 2 (by decide) (by decide), row _ 3 (by decide) (by decide), row _ 6 (by decide) (by decide), row _ 7 (by decide) (by decide), row _ 8 (by decide) (by decide), row _ 9 (by decide) (by decide), ?_, ?_, ?_⟩
    · rw [up2_off _ _ (by decide), hf.2 2 (by decide), up2_off _ _ (by decide)]
    · rw [up2_at, h10]
    · rw [up2_off _ _ (by decide), hf.2 20 (by decide), up2_off _ _ (by decide)]
  refine ⟨fun h4 => ?_, fun h4 => ?_⟩
  · have k0 : k = 0 := by
      match k, h4 with
      | 0, _ => rfl
      | k + 1, h4 => rw [m1] at h4; exact absurd h4 (nI_pos (by omega))
    subst k0
    unfold Post_X9_late
    rw [R]
    rcases hx with ⟨rfl, e⟩ | ⟨j, j1, rfl, e⟩
    · exact ⟨fun h5 => absurd h5 (by decide), fun _ => ⟨pf2 _, fun r f p => by rw [e]; exact fin2 rm p⟩⟩
    · refine ⟨fun h5 => ?_, fun h5 => absurd (Int32.not_lt.mp (nI_pos (by omega))) h5⟩
      rw [e rfl]; exact ⟨rfl, rm⟩
  · match k, hk, hx, h4 with
    | 0, hk, hx, h4 => exact absurd (by decide) h4
    | k + 1, hk, hx, h4 =>
      rw [m1]
      have r1 : up2 f 0 10 (nI k) 1 = f0 1 := row _ 1 (by decide) (by decide)
      have sh : shN (up2 f 0 10 (nI k)) (ix x2) = shN f0 (ix x2) := by unfold shN; rw [row _ 9 (by decide) (by decide)]
      refine ⟨⟨by rw [r1]; exact hd, v6, si.2.1, ns, ns1, by rw [row _ 8 (by decide) (by decide)]; exact ns2⟩, fun r16 f17 p => ?_⟩
      obtain ⟨p1, p2⟩ := p
      have eV : VMt (up2 f 0 10 (nI k)) (ix x1) = lagV (VM (f0 1) (ix x1)) (nI k) := by
        unfold VMt
        rw [up2_at, if_pos (Int32.not_lt.mp (nI_pos (by omega))), r1]
      rw [eV, sh, row _ 8 (by decide) (by decide)] at p2
      have pe : r16 = bI (P k) := by rw [p2, hP]; rfl
      have g : frG (up2 f0 0 10 (nI k)) f17 := by
        refine frG_t ⟨fun a x y => ?_, fun j hj => ?_⟩ p1
        · rw [row _ a x y, up2_row _ _ _ _ _ x]
        · by_cases e : j = 10
          · rw [e, up2_at, up2_at]
          · rw [up2_off _ _ e, up2_off _ _ e, hf.2 j hj, up2_off _ _ e]
      have mm : (nI k + -1 + 1).toNatClampNeg < (nI k + 1).toNatClampNeg := by
        have : nI k + -1 + 1 = nI k := by grind
        rw [this, nI_1, nI_clamp (by omega), nI_clamp (by omega)]; omega
      have mk : nI k + -1 = nI k - 1 := by grind
      refine ⟨fun h5 => ⟨⟨trivial, trivial, ⟨_, g⟩, k, by omega, mk, ?_⟩, mm⟩, fun h5 => ⟨⟨trivial, trivial, ⟨_, g⟩, k, by omega, mk, Or.inr ⟨k, by omega, rfl, fun e => ?_⟩⟩, mm⟩⟩
      · rw [pe] at h5
        rcases hx with ⟨rfl, e⟩ | ⟨j, j1, rfl, e⟩
        · refine Or.inl ⟨rfl, ?_⟩
          rw [e]
          cases e : fst P k with
          | none => rw [fst_s _ _ e, bI_0 h5]; rfl
          | some j => exact fst_m (fst_m' e) (by have := fst_lt e; omega)
        · exact Or.inr ⟨j, j1, rfl, fun e2 => e (by rw [fst_s _ _ e2, bI_0 h5]; rfl)⟩
      · rw [pe] at h5
        exact fst_h e (bI_1 h5) (by omega)
set_option maxHeartbeats 200000 in
theorem vc_X9_seed : vcS_X9_seed := by
  unfold vcS_X9_seed
  simp only [wp_X9_seed, pI_iff, pV_iff, pL_iff, Post_X9_seed, Pre_X9_seed, tn0, tn1, tn2, tn3, tn4, tn5, tn6, tn7, tn8, tn9, tn10, tn12, tn18, tn40, tn50, tn60, tn90, tn92, tn112, tn212, tnn1, ni0, ni1, ni2, ni3, ni4, ni5, ni6, ni7, er1, er2, er3, er4, er5, lg_cmp_lt, lg_cmp_le, lg_cmp_gt, lg_cmp_ge, lg_cmp_eq, in_m99_299, in_0_1, in_0_19999, in_0_2, in_0_200, in_0_3, in_0_30, in_0_4, in_0_6, in_0_60, in_0_69, in_0_9, in_0_99, in_1_200, in_1_3, in_1_40, in_1_5, in_1_60, in_1_8, in_4_40, in_0e, RE_seed]
  intros
  (repeat' (first | with_reducible apply And.intro | with_reducible intro _)) <;> (try first | apply pR_some | apply pR_none) <;> first | grind [txb, pT, eqM, up2_ap, cpr_ap, vp1, vp2, vp3, vp4, vp5, vp6, vp20, vp40, vp50, vp60, vp160, vp264, tnc, nIX, nIc, tncA, tncS, tncM, l56, eqM_rfl, up2_row, InvF, InvF0, dF1, dF2, sw0, sw1, InvT]
set_option maxHeartbeats 200000 in
theorem vc_X9_ran : vcS_X9_ran := by
  unfold vcS_X9_ran
  simp only [wp_X9_ran, pI_iff, pV_iff, pL_iff, Post_X9_ran, Pre_X9_ran, tn0, tn1, tn2, tn3, tn4, tn5, tn6, tn7, tn8, tn9, tn10, tn12, tn18, tn40, tn50, tn60, tn90, tn92, tn112, tn212, tnn1, ni0, ni1, ni2, ni3, ni4, ni5, ni6, ni7, er1, er2, er3, er4, er5, lg_cmp_lt, lg_cmp_le, lg_cmp_gt, lg_cmp_ge, lg_cmp_eq, in_m99_299, in_0_1, in_0_19999, in_0_2, in_0_200, in_0_3, in_0_30, in_0_4, in_0_6, in_0_60, in_0_69, in_0_9, in_0_99, in_1_200, in_1_3, in_1_40, in_1_5, in_1_60, in_1_8, in_4_40, in_0e]
  intros
  (repeat' (first | with_reducible apply And.intro | with_reducible intro _)) <;> (try first | apply pR_some | apply pR_none) <;> first | grind [up2_ap, cpr_ap, vp1, vp2, vp3, vp4, vp5, vp6, vp20, vp40, vp50, vp60, vp160, vp264, tnc, nIX, nIc, tncA, tncS, tncM, l56, eqM_rfl, up2_row, InvF, InvF0, dF1, dF2, sw0, sw1, InvT]
set_option maxHeartbeats 200000 in
theorem vc_X9_own : vcS_X9_own := by
  unfold vcS_X9_own
  simp only [wp_X9_own, pI_iff, pV_iff, pL_iff, Val_X9_own, Pre_X9_own, tn0, tn1, tn2, tn3, tn4, tn5, tn6, tn7, tn8, tn9, tn10, tn12, tn18, tn40, tn50, tn60, tn90, tn92, tn112, tn212, tnn1, ni0, ni1, ni2, ni3, ni4, ni5, ni6, ni7, er1, er2, er3, er4, er5, lg_cmp_lt, lg_cmp_le, lg_cmp_gt, lg_cmp_ge, lg_cmp_eq, in_m99_299, in_0_1, in_0_19999, in_0_2, in_0_200, in_0_3, in_0_30, in_0_4, in_0_6, in_0_60, in_0_69, in_0_9, in_0_99, in_1_200, in_1_3, in_1_40, in_1_5, in_1_60, in_1_8, in_4_40, in_0e]
  intros
  (repeat' (first | with_reducible apply And.intro | with_reducible intro _)) <;> (try first | apply pR_some | apply pR_none) <;> first | grind [Val_X9_own, fl4, Val_X9_of, Pre_X9_of, up2_ap, cpr_ap, vp1, vp2, vp3, vp4, vp5, vp6, vp20, vp40, vp50, vp60, vp160, vp264, tnc, nIX, nIc, tncA, tncS, tncM, l56, eqM_rfl, up2_row, InvF, InvF0, dF1, dF2, sw0, sw1, InvT]
set_option maxHeartbeats 800000 in
theorem vc_X9_swingsBy : vcS_X9_swingsBy := by
  intro f a1 a2 hp
  obtain ⟨hk, v21, hK0, t, ht, h20⟩ := hp
  have w0 : awt 0 = 0 := by decide
  have w1 : awt 1 = 1 := by decide
  have w2 : awt 2 = 0 := by decide
  have w3 : awt 3 = 2 := by decide
  have c0 : klv 0 = 0 := by decide
  have c1 : klv 1 = 1 := by decide
  have c2 : klv 2 = 1 := by decide
  have c3 : klv 3 = 1 := by decide
  have c4 : klv 4 = 2 := by decide
  have c5 : klv 5 = 2 := by decide
  have c6 : klv 6 = 2 := by decide
  have k2' := klv2 hk
  obtain ⟨K, eK⟩ : ∃ K, K = f 1 (fl4 (ix (f 0 21))) := ⟨_, rfl⟩
  have Q : voQ f K (f 0 21) (f 1 (fl4 (ix (f 0 21)) + 1)) t := ⟨by rw [eK]; exact hK0, v21, rfl, eK.symm, rfl, h20⟩
  have k2 := klv2 Q.1
  generalize f 0 21 = n at Q v21 eK
  refine ⟨by show klv a1 < 4; omega, ?_⟩
  clear hK0 v21 eK
  rcases hk with hk | hk | hk | hk | hk | hk | hk <;> subst hk
  · have vv : vlb 0 (klv 0) = 1 := by decide
    rw [vv] at ht
    simp only [wp_X9_swingsBy, pI_iff]
    refine ⟨fun _ => ?_, fun q => absurd q (by decide), fun q => absurd trivial (q.1)⟩
    refine ⟨ranP Q (by omega) _, fun g0 p0 => ?_⟩
    obtain ⟨Q0, F0, T0⟩ := ranQ Q (by omega) p0
    rw [Q0.2.2.1]
    exact mk0 Q (fun e he => by rw [vo_00];  exact ⟨rfl, T0⟩) F0 (Or.inr (fun d => ⟨rfl, T0⟩))
  · have vv : vlb 0 (klv 1) = 2 := by decide
    rw [vv] at ht
    simp only [wp_X9_swingsBy, pI_iff]
    refine ⟨fun q => absurd q (by decide), fun _ => ?_, fun q => absurd trivial (q.2)⟩
    refine ⟨ranP Q (by omega) _, fun g0 p0 => ?_⟩
    obtain ⟨Q0, F0, T0⟩ := ranQ Q (by omega) p0
    rw [show Val_X9_above g0 1 = 0 by unfold Val_X9_above; decide]
    have b1 : vlb 0 (klv 0) ≤ 1 := by decide
    have h1 : kOK 0 := (by unfold kOK; decide)
    refine ⟨pr0 Q0 h1 (by omega), by show klv 0 < klv 1; decide, fun r1 g1 p1 => ?_⟩
    obtain ⟨P1, F1, t1, Q1, B1⟩ := po0 Q0 h1 (by omega) p1
    exact mk0 Q (fun e he => by rw [vo_01]; have u1 := P1 e (by omega); exact ⟨by rw [u1.1], (trA_app T0 u1.2)⟩) (voF_t F0 F1) (Or.inl (by decide))
  · have vv : vlb 0 (klv 2) = 2 := by decide
    rw [vv] at ht
    simp only [wp_X9_swingsBy, pI_iff]
    refine ⟨fun q => absurd q (by decide), fun q => absurd q (by decide), fun _ => ?_⟩
    rw [show Val_X9_above f 2 = 0 by unfold Val_X9_above; decide]
    have b1 : vlb 0 (klv 0) ≤ 1 := by decide
    have h1 : kOK 0 := (by unfold kOK; decide)
    refine ⟨pr0 Q h1 (by omega), by show klv 0 < klv 2; decide, fun r1 g1 p1 => ?_⟩
    obtain ⟨P1, F1, t1, Q1, B1⟩ := po0 Q h1 (by omega) p1
    exact mk0 Q (fun e he => by rw [vo_02]; have u1 := P1 e (by omega); exact ⟨by rw [u1.1], u1.2⟩) F1 (Or.inl (by decide))
  · have vv : vlb 0 (klv 3) = 2 := by decide
    rw [vv] at ht
    simp only [wp_X9_swingsBy, pI_iff]
    refine ⟨fun q => absurd q (by decide), fun q => absurd q (by decide), fun _ => ?_⟩
    rw [show Val_X9_above f 3 = 0 by unfold Val_X9_above; decide]
    have b1 : vlb 0 (klv 0) ≤ 1 := by decide
    have h1 : kOK 0 := (by unfold kOK; decide)
    refine ⟨pr0 Q h1 (by omega), by show klv 0 < klv 3; decide, fun r1 g1 p1 => ?_⟩
    obtain ⟨P1, F1, t1, Q1, B1⟩ := po0 Q h1 (by omega) p1
    exact mk0 Q (fun e he => by rw [vo_03]; have u1 := P1 e (by omega); exact ⟨by rw [u1.1], u1.2⟩) F1 (Or.inl (by decide))
  · have vv : vlb 0 (klv 4) = 3 := by decide
    rw [vv] at ht
    simp only [wp_X9_swingsBy, pI_iff]
    refine ⟨fun q => absurd q (by decide), fun q => absurd q (by decide), fun _ => ?_⟩
    rw [show Val_X9_above f 4 = 1 by unfold Val_X9_above; decide]
    have b1 : vlb 0 (klv 1) ≤ 2 := by decide
    have h1 : kOK 1 := (by unfold kOK; decide)
    refine ⟨pr0 Q h1 (by omega), by show klv 1 < klv 4; decide, fun r1 g1 p1 => ?_⟩
    obtain ⟨P1, F1, t1, Q1, B1⟩ := po0 Q h1 (by omega) p1
    exact mk0 Q (fun e he => by rw [vo_04]; have u1 := P1 e (by omega); exact ⟨by rw [u1.1], u1.2⟩) F1 (Or.inl (by decide))
  · have vv : vlb 0 (klv 5) = 3 := by decide
    rw [vv] at ht
    simp only [wp_X9_swingsBy, pI_iff]
    refine ⟨fun q => absurd q (by decide), fun q => absurd q (by decide), fun _ => ?_⟩
    rw [show Val_X9_above f 5 = 2 by unfold Val_X9_above; decide]
    have b1 : vlb 0 (klv 2) ≤ 2 := by decide
    have h1 : kOK 2 := (by unfold kOK; decide)
    refine ⟨pr0 Q h1 (by omega), by show klv 2 < klv 5; decide, fun r1 g1 p1 => ?_⟩
    obtain ⟨P1, F1, t1, Q1, B1⟩ := po0 Q h1 (by omega) p1
    exact mk0 Q (fun e he => by rw [vo_05]; have u1 := P1 e (by omega); exact ⟨by rw [u1.1], u1.2⟩) F1 (Or.inl (by decide))
  · have vv : vlb 0 (klv 6) = 3 := by decide
    rw [vv] at ht
    simp only [wp_X9_swingsBy, pI_iff]
    refine ⟨fun q => absurd q (by decide), fun q => absurd q (by decide), fun _ => ?_⟩
    rw [show Val_X9_above f 6 = 3 by unfold Val_X9_above; decide]
    have b1 : vlb 0 (klv 3) ≤ 2 := by decide
    have h1 : kOK 3 := (by unfold kOK; decide)
    refine ⟨pr0 Q h1 (by omega), by show klv 3 < klv 6; decide, fun r1 g1 p1 => ?_⟩
    obtain ⟨P1, F1, t1, Q1, B1⟩ := po0 Q h1 (by omega) p1
    exact mk0 Q (fun e he => by rw [vo_06]; have u1 := P1 e (by omega); exact ⟨by rw [u1.1], u1.2⟩) F1 (Or.inl (by decide))
set_option maxHeartbeats 800000 in
theorem vc_X9_fallsBy : vcS_X9_fallsBy := by
  intro f a1 a2 hp
  obtain ⟨hk, v21, hK0, t, ht, h20⟩ := hp
  have w0 : awt 0 = 0 := by decide
  have w1 : awt 1 = 1 := by decide
  have w2 : awt 2 = 0 := by decide
  have w3 : awt 3 = 2 := by decide
  have c0 : klv 0 = 0 := by decide
  have c1 : klv 1 = 1 := by decide
  have c2 : klv 2 = 1 := by decide
  have c3 : klv 3 = 1 := by decide
  have c4 : klv 4 = 2 := by decide
  have c5 : klv 5 = 2 := by decide
  have c6 : klv 6 = 2 := by decide
  have k2' := klv2 hk
  obtain ⟨K, eK⟩ : ∃ K, K = f 1 (fl4 (ix (f 0 21))) := ⟨_, rfl⟩
  have Q : voQ f K (f 0 21) (f 1 (fl4 (ix (f 0 21)) + 1)) t := ⟨by rw [eK]; exact hK0, v21, rfl, eK.symm, rfl, h20⟩
  have k2 := klv2 Q.1
  generalize f 0 21 = n at Q v21 eK
  refine ⟨by show klv a1 < 4; omega, ?_⟩
  clear hK0 v21 eK
  rcases hk with hk | hk | hk | hk | hk | hk | hk <;> subst hk
  · have vv : vlb 2 (klv 0) = 1 := by decide
    rw [vv] at ht
    simp only [wp_X9_fallsBy, pI_iff]
    refine ⟨fun _ => ?_, fun q => absurd q (by decide), fun q => absurd q (by decide), fun q => absurd trivial (q.1)⟩
    refine ⟨ranP Q (by omega) _, fun g0 p0 => ?_⟩
    obtain ⟨Q0, F0, T0⟩ := ranQ Q (by omega) p0
    rw [(ofQ Q0).2]
    exact ⟨(ofQ Q0).1, mk2 Q (fun e he => by rw [vo_20];  exact ⟨rfl, T0⟩) F0 (Or.inr (fun d => ⟨rfl, T0⟩))⟩
  · have vv : vlb 2 (klv 1) = 2 := by decide
    rw [vv] at ht
    simp only [wp_X9_fallsBy, pI_iff]
    refine ⟨fun q => absurd q (by decide), fun q => absurd q (by decide), fun q => absurd q (by decide), fun _ => ?_⟩
    rw [show Val_X9_above f 1 = 0 by unfold Val_X9_above; decide]
    have b1 : vlb 2 (klv 0) ≤ 1 := by decide
    have h1 : kOK 0 := (by unfold kOK; decide)
    refine ⟨pr2 Q h1 (by omega), by show klv 0 < klv 1; decide, fun r1 g1 p1 => ?_⟩
    obtain ⟨P1, F1, t1, Q1, B1⟩ := po2 Q h1 (by omega) p1
    exact mk2 Q (fun e he => by rw [vo_21]; have u1 := P1 e (by omega); exact ⟨by rw [u1.1], u1.2⟩) F1 (Or.inl (by decide))
  · have vv : vlb 2 (klv 2) = 2 := by decide
    rw [vv] at ht
    simp only [wp_X9_fallsBy, pI_iff]
    refine ⟨fun q => absurd q (by decide), fun q => absurd q (by decide), fun q => absurd q (by decide), fun _ => ?_⟩
    rw [show Val_X9_above f 2 = 0 by unfold Val_X9_above; decide]
    have b1 : vlb 2 (klv 0) ≤ 1 := by decide
    have h1 : kOK 0 := (by unfold kOK; decide)
    refine ⟨pr2 Q h1 (by omega), by show klv 0 < klv 2; decide, fun r1 g1 p1 => ?_⟩
    obtain ⟨P1, F1, t1, Q1, B1⟩ := po2 Q h1 (by omega) p1
    exact mk2 Q (fun e he => by rw [vo_22]; have u1 := P1 e (by omega); exact ⟨by rw [u1.1], u1.2⟩) F1 (Or.inl (by decide))
  · have vv : vlb 2 (klv 3) = 2 := by decide
    rw [vv] at ht
    simp only [wp_X9_fallsBy, pI_iff]
    refine ⟨fun q => absurd q (by decide), fun _ => ?_, fun q => absurd q (by decide), fun q => absurd trivial (q.2.1)⟩
    refine ⟨ranP Q (by omega) _, fun g0 p0 => ?_⟩
    obtain ⟨Q0, F0, T0⟩ := ranQ Q (by omega) p0
    rw [show Val_X9_above g0 3 = 0 by unfold Val_X9_above; decide]
    have b1 : vlb 2 (klv 0) ≤ 1 := by decide
    have h1 : kOK 0 := (by unfold kOK; decide)
    refine ⟨pr2 Q0 h1 (by omega), by show klv 0 < klv 3; decide, fun r1 g1 p1 => ?_⟩
    obtain ⟨P1, F1, t1, Q1, B1⟩ := po2 Q0 h1 (by omega) p1
    exact mk2 Q (fun e he => by rw [vo_23]; have u1 := P1 e (by omega); exact ⟨by rw [u1.1], (trA_app T0 u1.2)⟩) (voF_t F0 F1) (Or.inl (by decide))
  · have vv : vlb 2 (klv 4) = 3 := by decide
    rw [vv] at ht
    simp only [wp_X9_fallsBy, pI_iff]
    refine ⟨fun q => absurd q (by decide), fun q => absurd q (by decide), fun q => absurd q (by decide), fun _ => ?_⟩
    rw [show Val_X9_above f 4 = 1 by unfold Val_X9_above; decide]
    have b1 : vlb 2 (klv 1) ≤ 2 := by decide
    have h1 : kOK 1 := (by unfold kOK; decide)
    refine ⟨pr2 Q h1 (by omega), by show klv 1 < klv 4; decide, fun r1 g1 p1 => ?_⟩
    obtain ⟨P1, F1, t1, Q1, B1⟩ := po2 Q h1 (by omega) p1
    exact mk2 Q (fun e he => by rw [vo_24]; have u1 := P1 e (by omega); exact ⟨by rw [u1.1], u1.2⟩) F1 (Or.inl (by decide))
  · have vv : vlb 2 (klv 5) = 3 := by decide
    rw [vv] at ht
    simp only [wp_X9_fallsBy, pI_iff]
    refine ⟨fun q => absurd q (by decide), fun q => absurd q (by decide), fun q => absurd q (by decide), fun _ => ?_⟩
    rw [show Val_X9_above f 5 = 2 by unfold Val_X9_above; decide]
    have b1 : vlb 2 (klv 2) ≤ 2 := by decide
    have h1 : kOK 2 := (by unfold kOK; decide)
    refine ⟨pr2 Q h1 (by omega), by show klv 2 < klv 5; decide, fun r1 g1 p1 => ?_⟩
    obtain ⟨P1, F1, t1, Q1, B1⟩ := po2 Q h1 (by omega) p1
    exact mk2 Q (fun e he => by rw [vo_25]; have u1 := P1 e (by omega); exact ⟨by rw [u1.1], u1.2⟩) F1 (Or.inl (by decide))
  · have vv : vlb 2 (klv 6) = 3 := by decide
    rw [vv] at ht
    simp only [wp_X9_fallsBy, pI_iff]
    refine ⟨fun q => absurd q (by decide), fun q => absurd q (by decide), fun _ => ?_, fun q => absurd trivial (q.2.2)⟩
    refine ⟨ranP Q (by omega) _, fun g0 p0 => ?_⟩
    obtain ⟨Q0, F0, T0⟩ := ranQ Q (by omega) p0
    rw [show Val_X9_above g0 6 = 3 by unfold Val_X9_above; decide]
    have b1 : vlb 2 (klv 3) ≤ 2 := by decide
    have h1 : kOK 3 := (by unfold kOK; decide)
    refine ⟨pr2 Q0 h1 (by omega), by show klv 3 < klv 6; decide, fun r1 g1 p1 => ?_⟩
    obtain ⟨P1, F1, t1, Q1, B1⟩ := po2 Q0 h1 (by omega) p1
    rw [Q1.2.2.1]
    exact mk2 Q (fun e he => by rw [vo_26]; have u1 := P1 e (by omega); exact ⟨by rw [u1.1], (trA_app T0 u1.2)⟩) (voF_t F0 F1) (Or.inl (by decide))
set_option maxHeartbeats 800000 in
theorem vc_X9_fliesBy : vcS_X9_fliesBy := by
  intro f a1 a2 hp
  obtain ⟨hk, v21, hK0, t, ht, h20⟩ := hp
  have w0 : awt 0 = 0 := by decide
  have w1 : awt 1 = 1 := by decide
  have w2 : awt 2 = 0 := by decide
  have w3 : awt 3 = 2 := by decide
  have c0 : klv 0 = 0 := by decide
  have c1 : klv 1 = 1 := by decide
  have c2 : klv 2 = 1 := by decide
  have c3 : klv 3 = 1 := by decide
  have c4 : klv 4 = 2 := by decide
  have c5 : klv 5 = 2 := by decide
  have c6 : klv 6 = 2 := by decide
  have k2' := klv2 hk
  obtain ⟨K, eK⟩ : ∃ K, K = f 1 (fl4 (ix (f 0 21))) := ⟨_, rfl⟩
  have Q : voQ f K (f 0 21) (f 1 (fl4 (ix (f 0 21)) + 1)) t := ⟨by rw [eK]; exact hK0, v21, rfl, eK.symm, rfl, h20⟩
  have k2 := klv2 Q.1
  generalize f 0 21 = n at Q v21 eK
  refine ⟨by show klv a1 < 4; omega, ?_⟩
  clear hK0 v21 eK
  rcases hk with hk | hk | hk | hk | hk | hk | hk <;> subst hk
  · have vv : vlb 1 (klv 0) = 4 := by decide
    rw [vv] at ht
    simp only [wp_X9_fliesBy, pI_iff]
    refine ⟨fun _ => ?_, fun q => absurd q (by decide), fun q => absurd q (by decide), fun q => absurd trivial (q.1)⟩
    refine ⟨ranP Q (by omega) _, fun g0 p0 => ?_⟩
    obtain ⟨Q0, F0, T0⟩ := ranQ Q (by omega) p0
    rw [(ownQ Q0).2]
    have b1 : vlb 0 (klv K) ≤ 3 := vlbM (l2 := 2) k2 (by decide)
    have h1 : kOK K := Q0.1
    refine ⟨(ownQ Q0).1, pr0 Q0 h1 (by omega), fun r1 g1 p1 => ?_⟩
    obtain ⟨P1, F1, t1, Q1, B1⟩ := po0 Q0 h1 (by omega) p1
    exact mk1 Q (fun e he => by rw [vo_10]; have u1 := P1 e (by omega); exact ⟨by rw [u1.1], (trA_app T0 u1.2)⟩) (voF_t F0 F1) (Or.inl (by decide))
  · have vv : vlb 1 (klv 1) = 8 := by decide
    rw [vv] at ht
    simp only [wp_X9_fliesBy, pI_iff]
    refine ⟨fun q => absurd q (by decide), fun q => absurd q (by decide), fun q => absurd q (by decide), fun _ => ?_⟩
    rw [show Val_X9_above f 1 = 0 by unfold Val_X9_above; decide]
    have b1 : vlb 1 (klv 0) ≤ 4 := by decide
    have h1 : kOK 0 := (by unfold kOK; decide)
    refine ⟨pr1 Q h1 (by omega), by show klv 0 < klv 1; decide, fun r1 g1 p1 => ?_⟩
    obtain ⟨P1, F1, t1, Q1, B1⟩ := po1 Q h1 (by omega) p1
    exact mk1 Q (fun e he => by rw [vo_11]; have u1 := P1 e (by omega); exact ⟨by rw [u1.1], u1.2⟩) F1 (Or.inl (by decide))
  · have vv : vlb 1 (klv 2) = 8 := by decide
    rw [vv] at ht
    simp only [wp_X9_fliesBy, pI_iff]
    refine ⟨fun q => absurd q (by decide), fun _ => ?_, fun q => absurd q (by decide), fun q => absurd trivial (q.2.1)⟩
    refine ⟨ranP Q (by omega) _, fun g0 p0 => ?_⟩
    obtain ⟨Q0, F0, T0⟩ := ranQ Q (by omega) p0
    rw [show Val_X9_above g0 2 = 0 by unfold Val_X9_above; decide]
    have b1 : vlb 1 (klv 0) ≤ 4 := by decide
    have h1 : kOK 0 := (by unfold kOK; decide)
    refine ⟨pr1 Q0 h1 (by omega), by show klv 0 < klv 2; decide, fun r1 g1 p1 => ?_⟩
    obtain ⟨P1, F1, t1, Q1, B1⟩ := po1 Q0 h1 (by omega) p1
    rw [(ownQ Q1).2]
    have b2 : vlb 2 (klv K) ≤ 3 := vlbM (l2 := 2) k2 (by decide)
    have h2 : kOK K := Q1.1
    refine ⟨(ownQ Q1).1, pr2 Q1 h2 (by omega), fun r2 g2 p2 => ?_⟩
    obtain ⟨P2, F2, t2, Q2, B2⟩ := po2 Q1 h2 (by omega) p2
    exact mk1 Q (fun e he => by rw [vo_12]; have u1 := P1 e (by omega); have u2 := P2 e (by omega); exact ⟨by rw [u1.1]; rw [u2.1], (trA_app T0 (trA_app u1.2 u2.2))⟩) (voF_t F0 (voF_t F1 F2)) (Or.inl (by decide))
  · have vv : vlb 1 (klv 3) = 8 := by decide
    rw [vv] at ht
    simp only [wp_X9_fliesBy, pI_iff]
    refine ⟨fun q => absurd q (by decide), fun q => absurd q (by decide), fun q => absurd q (by decide), fun _ => ?_⟩
    rw [show Val_X9_above f 3 = 0 by unfold Val_X9_above; decide]
    have b1 : vlb 1 (klv 0) ≤ 4 := by decide
    have h1 : kOK 0 := (by unfold kOK; decide)
    refine ⟨pr1 Q h1 (by omega), by show klv 0 < klv 3; decide, fun r1 g1 p1 => ?_⟩
    obtain ⟨P1, F1, t1, Q1, B1⟩ := po1 Q h1 (by omega) p1
    exact mk1 Q (fun e he => by rw [vo_13]; have u1 := P1 e (by omega); exact ⟨by rw [u1.1], u1.2⟩) F1 (Or.inl (by decide))
  · have vv : vlb 1 (klv 4) = 9 := by decide
    rw [vv] at ht
    simp only [wp_X9_fliesBy, pI_iff]
    refine ⟨fun q => absurd q (by decide), fun q => absurd q (by decide), fun q => absurd q (by decide), fun _ => ?_⟩
    rw [show Val_X9_above f 4 = 1 by unfold Val_X9_above; decide]
    have b1 : vlb 1 (klv 1) ≤ 8 := by decide
    have h1 : kOK 1 := (by unfold kOK; decide)
    refine ⟨pr1 Q h1 (by omega), by show klv 1 < klv 4; decide, fun r1 g1 p1 => ?_⟩
    obtain ⟨P1, F1, t1, Q1, B1⟩ := po1 Q h1 (by omega) p1
    exact mk1 Q (fun e he => by rw [vo_14]; have u1 := P1 e (by omega); exact ⟨by rw [u1.1], u1.2⟩) F1 (Or.inl (by decide))
  · have vv : vlb 1 (klv 5) = 9 := by decide
    rw [vv] at ht
    simp only [wp_X9_fliesBy, pI_iff]
    refine ⟨fun q => absurd q (by decide), fun q => absurd q (by decide), fun _ => ?_, fun q => absurd trivial (q.2.2)⟩
    refine ⟨ranP Q (by omega) _, fun g0 p0 => ?_⟩
    obtain ⟨Q0, F0, T0⟩ := ranQ Q (by omega) p0
    rw [show Val_X9_above g0 5 = 2 by unfold Val_X9_above; decide]
    have b1 : vlb 1 (klv 2) ≤ 8 := by decide
    have h1 : kOK 2 := (by unfold kOK; decide)
    refine ⟨pr1 Q0 h1 (by omega), by show klv 2 < klv 5; decide, fun r1 g1 p1 => ?_⟩
    obtain ⟨P1, F1, t1, Q1, B1⟩ := po1 Q0 h1 (by omega) p1
    exact mk1 Q (fun e he => by rw [vo_15]; have u1 := P1 e (by omega); exact ⟨by rw [u1.1], (trA_app T0 u1.2)⟩) (voF_t F0 F1) (Or.inl (by decide))
  · have vv : vlb 1 (klv 6) = 9 := by decide
    rw [vv] at ht
    simp only [wp_X9_fliesBy, pI_iff]
    refine ⟨fun q => absurd q (by decide), fun q => absurd q (by decide), fun q => absurd q (by decide), fun _ => ?_⟩
    rw [show Val_X9_above f 6 = 3 by unfold Val_X9_above; decide]
    have b1 : vlb 1 (klv 3) ≤ 8 := by decide
    have h1 : kOK 3 := (by unfold kOK; decide)
    refine ⟨pr1 Q h1 (by omega), by show klv 3 < klv 6; decide, fun r1 g1 p1 => ?_⟩
    obtain ⟨P1, F1, t1, Q1, B1⟩ := po1 Q h1 (by omega) p1
    exact mk1 Q (fun e he => by rw [vo_16]; have u1 := P1 e (by omega); exact ⟨by rw [u1.1], u1.2⟩) F1 (Or.inl (by decide))
set_option maxHeartbeats 800000 in
theorem vc_X9_tellsBy : vcS_X9_tellsBy := by
  intro f a1 a2 hp
  obtain ⟨hk, v21, hK0, t, ht, h20⟩ := hp
  have w0 : awt 0 = 0 := by decide
  have w1 : awt 1 = 1 := by decide
  have w2 : awt 2 = 0 := by decide
  have w3 : awt 3 = 2 := by decide
  have c0 : klv 0 = 0 := by decide
  have c1 : klv 1 = 1 := by decide
  have c2 : klv 2 = 1 := by decide
  have c3 : klv 3 = 1 := by decide
  have c4 : klv 4 = 2 := by decide
  have c5 : klv 5 = 2 := by decide
  have c6 : klv 6 = 2 := by decide
  have k2' := klv2 hk
  obtain ⟨K, eK⟩ : ∃ K, K = f 1 (fl4 (ix (f 0 21))) := ⟨_, rfl⟩
  have Q : voQ f K (f 0 21) (f 1 (fl4 (ix (f 0 21)) + 1)) t := ⟨by rw [eK]; exact hK0, v21, rfl, eK.symm, rfl, h20⟩
  have k2 := klv2 Q.1
  generalize f 0 21 = n at Q v21 eK
  refine ⟨by show klv a1 < 4; omega, ?_⟩
  clear hK0 v21 eK
  rcases hk with hk | hk | hk | hk | hk | hk | hk <;> subst hk
  · have vv : vlb 3 (klv 0) = 13 := by decide
    rw [vv] at ht
    simp only [wp_X9_tellsBy, pI_iff]
    refine ⟨fun _ => ?_, fun q => absurd q (by decide), fun q => absurd q (by decide), fun q => absurd trivial (q.1)⟩
    refine ⟨ranP Q (by omega) _, fun g0 p0 => ?_⟩
    obtain ⟨Q0, F0, T0⟩ := ranQ Q (by omega) p0
    rw [(ownQ Q0).2]
    have b1 : vlb 1 (klv K) ≤ 9 := vlbM (l2 := 2) k2 (by decide)
    have h1 : kOK K := Q0.1
    refine ⟨(ownQ Q0).1, pr1 Q0 h1 (by omega), fun r1 g1 p1 => ?_⟩
    obtain ⟨P1, F1, t1, Q1, B1⟩ := po1 Q0 h1 (by omega) p1
    rw [(ownQ Q1).2]
    have b2 : vlb 2 (klv K) ≤ 3 := vlbM (l2 := 2) k2 (by decide)
    have h2 : kOK K := Q1.1
    refine ⟨(ownQ Q1).1, pr2 Q1 h2 (by omega), fun r2 g2 p2 => ?_⟩
    obtain ⟨P2, F2, t2, Q2, B2⟩ := po2 Q1 h2 (by omega) p2
    exact mk3 Q (fun e he => by rw [vo_30]; have u1 := P1 e (by omega); have u2 := P2 e (by omega); exact ⟨by rw [u1.1]; rw [u2.1], (trA_app T0 (trA_app u1.2 u2.2))⟩) (voF_t F0 (voF_t F1 F2)) (Or.inl (by decide))
  · have vv : vlb 3 (klv 1) = 13 := by decide
    rw [vv] at ht
    simp only [wp_X9_tellsBy, pI_iff]
    refine ⟨fun q => absurd q (by decide), fun q => absurd q (by decide), fun q => absurd q (by decide), fun _ => ?_⟩
    rw [show Val_X9_above f 1 = 0 by unfold Val_X9_above; decide]
    have b1 : vlb 3 (klv 0) ≤ 13 := by decide
    have h1 : kOK 0 := (by unfold kOK; decide)
    refine ⟨pr3 Q h1 (by omega), by show klv 0 < klv 1; decide, fun r1 g1 p1 => ?_⟩
    obtain ⟨P1, F1, t1, Q1, B1⟩ := po3 Q h1 (by omega) p1
    exact mk3 Q (fun e he => by rw [vo_31]; have u1 := P1 e (by omega); exact ⟨by rw [u1.1], u1.2⟩) F1 (Or.inl (by decide))
  · have vv : vlb 3 (klv 2) = 13 := by decide
    rw [vv] at ht
    simp only [wp_X9_tellsBy, pI_iff]
    refine ⟨fun q => absurd q (by decide), fun q => absurd q (by decide), fun q => absurd q (by decide), fun _ => ?_⟩
    rw [show Val_X9_above f 2 = 0 by unfold Val_X9_above; decide]
    have b1 : vlb 3 (klv 0) ≤ 13 := by decide
    have h1 : kOK 0 := (by unfold kOK; decide)
    refine ⟨pr3 Q h1 (by omega), by show klv 0 < klv 2; decide, fun r1 g1 p1 => ?_⟩
    obtain ⟨P1, F1, t1, Q1, B1⟩ := po3 Q h1 (by omega) p1
    exact mk3 Q (fun e he => by rw [vo_32]; have u1 := P1 e (by omega); exact ⟨by rw [u1.1], u1.2⟩) F1 (Or.inl (by decide))
  · have vv : vlb 3 (klv 3) = 13 := by decide
    rw [vv] at ht
    simp only [wp_X9_tellsBy, pI_iff]
    refine ⟨fun q => absurd q (by decide), fun q => absurd q (by decide), fun q => absurd q (by decide), fun _ => ?_⟩
    rw [show Val_X9_above f 3 = 0 by unfold Val_X9_above; decide]
    have b1 : vlb 3 (klv 0) ≤ 13 := by decide
    have h1 : kOK 0 := (by unfold kOK; decide)
    refine ⟨pr3 Q h1 (by omega), by show klv 0 < klv 3; decide, fun r1 g1 p1 => ?_⟩
    obtain ⟨P1, F1, t1, Q1, B1⟩ := po3 Q h1 (by omega) p1
    exact mk3 Q (fun e he => by rw [vo_33]; have u1 := P1 e (by omega); exact ⟨by rw [u1.1], u1.2⟩) F1 (Or.inl (by decide))
  · have vv : vlb 3 (klv 4) = 23 := by decide
    rw [vv] at ht
    simp only [wp_X9_tellsBy, pI_iff]
    refine ⟨fun q => absurd q (by decide), fun _ => ?_, fun q => absurd q (by decide), fun q => absurd trivial (q.2.1)⟩
    refine ⟨ranP Q (by omega) _, fun g0 p0 => ?_⟩
    obtain ⟨Q0, F0, T0⟩ := ranQ Q (by omega) p0
    rw [show Val_X9_above g0 4 = 1 by unfold Val_X9_above; decide]
    have b1 : vlb 3 (klv 1) ≤ 13 := by decide
    have h1 : kOK 1 := (by unfold kOK; decide)
    refine ⟨pr3 Q0 h1 (by omega), by show klv 1 < klv 4; decide, fun r1 g1 p1 => ?_⟩
    obtain ⟨P1, F1, t1, Q1, B1⟩ := po3 Q0 h1 (by omega) p1
    rw [(ownQ Q1).2]
    have b2 : vlb 0 (klv K) ≤ 3 := vlbM (l2 := 2) k2 (by decide)
    have h2 : kOK K := Q1.1
    refine ⟨(ownQ Q1).1, pr0 Q1 h2 (by omega), fun r2 g2 p2 => ?_⟩
    obtain ⟨P2, F2, t2, Q2, B2⟩ := po0 Q1 h2 (by omega) p2
    exact mk3 Q (fun e he => by rw [vo_34]; have u1 := P1 e (by omega); have u2 := P2 e (by omega); exact ⟨by rw [u1.1]; rw [u2.1], (trA_app T0 (trA_app u1.2 u2.2))⟩) (voF_t F0 (voF_t F1 F2)) (Or.inl (by decide))
  · have vv : vlb 3 (klv 5) = 23 := by decide
    rw [vv] at ht
    simp only [wp_X9_tellsBy, pI_iff]
    refine ⟨fun q => absurd q (by decide), fun q => absurd q (by decide), fun q => absurd q (by decide), fun _ => ?_⟩
    rw [show Val_X9_above f 5 = 2 by unfold Val_X9_above; decide]
    have b1 : vlb 3 (klv 2) ≤ 13 := by decide
    have h1 : kOK 2 := (by unfold kOK; decide)
    refine ⟨pr3 Q h1 (by omega), by show klv 2 < klv 5; decide, fun r1 g1 p1 => ?_⟩
    obtain ⟨P1, F1, t1, Q1, B1⟩ := po3 Q h1 (by omega) p1
    exact mk3 Q (fun e he => by rw [vo_35]; have u1 := P1 e (by omega); exact ⟨by rw [u1.1], u1.2⟩) F1 (Or.inl (by decide))
  · have vv : vlb 3 (klv 6) = 23 := by decide
    rw [vv] at ht
    simp only [wp_X9_tellsBy, pI_iff]
    refine ⟨fun q => absurd q (by decide), fun q => absurd q (by decide), fun _ => ?_, fun q => absurd trivial (q.2.2)⟩
    refine ⟨ranP Q (by omega) _, fun g0 p0 => ?_⟩
    obtain ⟨Q0, F0, T0⟩ := ranQ Q (by omega) p0
    rw [(ownQ Q0).2]
    have b1 : vlb 1 (klv K) ≤ 9 := vlbM (l2 := 2) k2 (by decide)
    have h1 : kOK K := Q0.1
    refine ⟨(ownQ Q0).1, pr1 Q0 h1 (by omega), fun r1 g1 p1 => ?_⟩
    obtain ⟨P1, F1, t1, Q1, B1⟩ := po1 Q0 h1 (by omega) p1
    rw [show Val_X9_above g1 6 = 3 by unfold Val_X9_above; decide]
    have b2 : vlb 3 (klv 3) ≤ 13 := by decide
    have h2 : kOK 3 := (by unfold kOK; decide)
    refine ⟨pr3 Q1 h2 (by omega), by show klv 3 < klv 6; decide, fun r2 g2 p2 => ?_⟩
    obtain ⟨P2, F2, t2, Q2, B2⟩ := po3 Q1 h2 (by omega) p2
    exact mk3 Q (fun e he => by rw [vo_36]; have u1 := P1 e (by omega); have u2 := P2 e (by omega); exact ⟨by rw [u1.1]; rw [u2.1], (trA_app T0 (trA_app u1.2 u2.2))⟩) (voF_t F0 (voF_t F1 F2)) (Or.inl (by decide))
theorem vc_X9_voice : vcS_X9_voice := by
  intro f a1 a2 a3 hp
  unfold Pre_X9_voice at hp
  have bad : ¬ (isF f a1 ∧ inP a2 0 3) → wp_X9_voice_L20 f (pI (Post_X9_voice f a1 a2 a3)) := fun h => by
    have R : RE_voice f a1 a2 a3 = er f 1 := by unfold RE_voice; rw [if_neg h]
    simp only [wp_X9_voice_L20, pI_iff]
    exact ⟨pf1 f, fun r f p => by unfold Post_X9_voice; rw [R]; exact fi1 p⟩
  simp only [wp_X9_voice, in_0_3]
  refine ⟨fun h => bad fun q => isFw h q.1, fun h => ⟨fun h2 => ?_, fun h2 => bad fun q => (by rw [if_pos q.2] at h2; cases h2)⟩⟩
  obtain ⟨iF, v6, i0, i6, i7⟩ := isFv hp h
  have c2 : inP a2 0 3 := Classical.byContradiction fun hn => h2 (if_neg hn)
  have fb := fl3B hp.1 iF
  obtain ⟨g, hg⟩ : ∃ g, g = up2 (up2 f 0 20 0) 0 21 a1 := ⟨_, rfl⟩
  have g1 : ∀ a, ¬ a = 0 → g a = f a := fun a ha => by rw [hg, up2_row _ _ _ _ _ ha, up2_row _ _ _ _ _ ha]
  have g0 : ∀ j, ¬ j = 20 → ¬ j = 21 → g 0 j = f 0 j := fun j x y => by rw [hg, up2_off _ _ y, up2_off _ _ x]
  have Q : voQ g (f 1 (fl4 (ix a1))) a1 (f 1 (fl4 (ix a1) + 1)) 0 := ⟨kOK6 fb.2.2.1, v6, by rw [hg, up2_at], by rw [g1 1 (by decide)], by rw [g1 1 (by decide)], by rw [hg, up2_off _ _ (by decide), up2_at]; rfl⟩
  rw [← hg]
  have R : RE_voice f a1 a2 a3 = ((voM f a1 a2 a3).1, trcF f (voM f a1 a2 a3).2) := by unfold RE_voice; rw [if_pos ⟨iF, c2⟩]
  have fin : ∀ r f1, r = (voM f a1 a2 a3).1 → trA g f1 0 20 6 (voM f a1 a2 a3).2 → voF g f1 → pI (Post_X9_voice f a1 a2 a3) (some (.int r)) f1 := by
    intro r f1 hr hT hF
    have len : (voM f a1 a2 a3).2.length ≤ 40 := by
      have := vo_len (n := a1) (m := f 1 (fl4 (ix a1) + 1)) Q.1 12 a2 (f 1 (fl4 (ix a1))) a3 (by unfold actOK; have := c2.1; have := c2.2; grind) Q.1
      have v4 := vlb40 (a := a2) (klv2 Q.1)
      unfold voM; omega
    obtain ⟨t1, t2, t3, t4⟩ := hT 0 Q.2.2.2.2.2 (by omega)
    rw [pI_iff]; unfold Post_X9_voice; rw [R]
    have r1 : ∀ a, ¬ a = 0 → ¬ a = 6 → f1 a = trcF f (voM f a1 a2 a3).2 a := fun a x y => by
      rw [hF.1 a x y, g1 a x]; unfold trcF; rw [if_neg y, if_neg x]
    have r0 : ∀ j, ¬ j = 20 → ¬ j = 21 → f1 0 j = trcF f (voM f a1 a2 a3).2 0 j := fun j x y => by
      rw [hF.2 j x, g0 j x y]; unfold trcF; rw [if_neg (by decide), if_pos rfl, updN _ _ _ x]
    refine ⟨hr, r1 1 (by decide) (by decide), r1 2 (by decide) (by decide), r1 3 (by decide) (by decide), funext fun j => ?_, r1 7 (by decide) (by decide), r1 8 (by decide) (by decide), r1 9 (by decide) (by decide), r0 2 (by decide) (by decide), r0 10 (by decide) (by decide), ?_⟩
    · show f1 6 j = if j < (voM f a1 a2 a3).2.length then (voM f a1 a2 a3).2.getD j 0 else f 6 j
      by_cases q : j < (voM f a1 a2 a3).2.length
      · rw [if_pos q, ← t3 j q, Nat.zero_add]
      · rw [if_neg q, t4 j (by omega), g1 6 (by decide)]
    · rw [t1, Nat.zero_add]; rfl
  have oQ := ownQ Q
  refine ⟨oQ.1, ?_⟩
  rw [oQ.2]
  have k2 := klv2 Q.1
  have w0 : awt 0 = 0 := by decide
  have w1 : awt 1 = 1 := by decide
  have w2 : awt 2 = 0 := by decide
  have w3 : awt 3 = 2 := by decide
  refine ⟨fun n0 => ⟨fun n1 => ⟨fun n2 => ?_, fun n2 => ?_⟩, fun n1 => ?_⟩, fun n0 => ?_⟩
  · have e3 : a2 = 3 := by have := c2.1; have := c2.2; grind
    refine ⟨pr3 Q Q.1 (vlb40 k2), fun r f1 p => ?_⟩
    obtain ⟨P, F, -⟩ := po3 Q Q.1 (vlb40 k2) p
    obtain ⟨u1, u2⟩ := P 10 (by omega)
    subst e3
    exact fin r f1 u1 u2 F
  · refine ⟨pr2 Q Q.1 (vlb40 k2), fun r f1 p => ?_⟩
    obtain ⟨P, F, -⟩ := po2 Q Q.1 (vlb40 k2) p
    obtain ⟨u1, u2⟩ := P 10 (by omega)
    subst n2
    exact fin r f1 u1 u2 F
  · refine ⟨pr1 Q Q.1 (vlb40 k2), fun r f1 p => ?_⟩
    obtain ⟨P, F, -⟩ := po1 Q Q.1 (vlb40 k2) p
    obtain ⟨u1, u2⟩ := P 10 (by omega)
    subst n1
    exact fin r f1 u1 u2 F
  · refine ⟨pr0 Q Q.1 (vlb40 k2), fun r f1 p => ?_⟩
    obtain ⟨P, F, -⟩ := po0 Q Q.1 (vlb40 k2) p
    obtain ⟨u1, u2⟩ := P 10 (by omega)
    subst n0
    exact fin r f1 u1 u2 F
set_option maxHeartbeats 200000 in
theorem vc_X9_trace : vcS_X9_trace := by
  unfold vcS_X9_trace
  simp only [wp_X9_trace, pI_iff, pV_iff, pL_iff, Post_X9_trace, Pre_X9_trace, tn0, tn1, tn2, tn3, tn4, tn5, tn6, tn7, tn8, tn9, tn10, tn12, tn18, tn40, tn50, tn60, tn90, tn92, tn112, tn212, tnn1, ni0, ni1, ni2, ni3, ni4, ni5, ni6, ni7, er1, er2, er3, er4, er5, lg_cmp_lt, lg_cmp_le, lg_cmp_gt, lg_cmp_ge, lg_cmp_eq, in_m99_299, in_0_1, in_0_19999, in_0_2, in_0_200, in_0_3, in_0_30, in_0_4, in_0_6, in_0_60, in_0_69, in_0_9, in_0_99, in_1_200, in_1_3, in_1_40, in_1_5, in_1_60, in_1_8, in_4_40, in_0e, RE_trace]
  intros
  (repeat' (first | with_reducible apply And.intro | with_reducible intro _)) <;> (try first | apply pR_some | apply pR_none) <;> first | grind [txb, pT, eqM, Val_X9_in, Post_X9_finds, Pre_X9_finds, up2_ap, cpr_ap, vp1, vp2, vp3, vp4, vp5, vp6, vp20, vp40, vp50, vp60, vp160, vp264, tnc, nIX, nIc, tncA, tncS, tncM, l56, eqM_rfl, up2_row, InvF, InvF0, dF1, dF2, sw0, sw1, InvT]
theorem vc_X9_sheet : vcS_X9_sheet := by
  intro f0 a1 a2 a3 hp
  unfold Pre_X9_sheet at hp
  have sV : Val_X9_isSheet f0 a1 = if inP a1 0 3 then 1 else 0 := rfl
  have bad : ¬ (inP a1 0 3 ∧ (a2 = 0 ∨ a2 = 8 ∨ a2 = 16 ∨ a2 = 32)) → wp_X9_sheet_L29 f0 (pI (Post_X9_sheet f0 a1 a2 a3)) := fun h => by
    have R : RE_sheet f0 a1 a2 a3 = er f0 1 := by unfold RE_sheet; rw [if_neg h]
    simp only [wp_X9_sheet_L29, pI_iff]
    exact ⟨pf1 f0, fun r f p => by unfold Post_X9_sheet; rw [R]; exact fi1 p⟩
  simp only [wp_X9_sheet]
  refine ⟨fun h => bad fun q => (by rw [sV, if_pos q.1] at h; cases h), fun h => ?_⟩
  have c : inP a1 0 3 := Classical.byContradiction fun hn => h (by rw [sV, if_neg hn])
  have si := shI hp c.1 c.2
  have main : (a2 = 0 ∨ a2 = 8 ∨ a2 = 16 ∨ a2 = 32) → wp_X9_sheet_L35 f0 a1 a2 a3 (pI (Post_X9_sheet f0 a1 a2 a3)) := by
    intro cb
    have R : RE_sheet f0 a1 a2 a3 = if ¬ a2 = 0 ∧ a3 < 0 then er f0 3 else if ¬ a2 = 0 ∧ 40 < a3 then er f0 1 else (1, fun a => if a = 7 then upd (f0 7) (ix a1) a2 else if a = 8 then upd (f0 8) (ix a1) (if a2 = 0 then 0 else a3) else if a = 9 then (fun j => if 40 * ix a1 ≤ j ∧ j < 40 * ix a1 + 40 then 0 else f0 9 j) else f0 a) := by
      unfold RE_sheet; rw [if_pos ⟨c, cb⟩]
    have good : ¬ (¬ a2 = 0 ∧ a3 < 0) → ¬ (¬ a2 = 0 ∧ 40 < a3) → wp_X9_sheet_L65 f0 a1 a2 a3 (pI (Post_X9_sheet f0 a1 a2 a3)) := by
      intro g1 g2
      rw [if_neg g1, if_neg g2] at R
      have lp : ∀ v : Int32, v = (if a2 = 0 then 0 else a3) → wp_X9_sheet_L86 (up2 f0 7 a1.toNatClampNeg a2) a1 v a1 (pI (Post_X9_sheet f0 a1 a2 a3)) := by
        intro v hv
        simp only [wp_X9_sheet_L86, wp_X9_sheet_L90]
        refine ⟨si.2.1, fun (f : Fn) (x1 x4 : Int32) => x1 = a1 ∧ ∃ k : Nat, k ≤ 40 ∧ x4 = nI k ∧ ∀ a j, f a j = if a = 9 ∧ 40 * ix a1 ≤ j ∧ j < 40 * ix a1 + k then 0 else up2 (up2 f0 7 a1.toNatClampNeg a2) 8 a1.toNatClampNeg v a j, fun _ _ x4 => 100 - x4.toNatClampNeg, ⟨rfl, 0, by omega, rfl, fun a j => by rw [if_neg (by omega)]⟩, ?_⟩
        rintro f x1 x4 ⟨rfl, k, hk, rfl, hI⟩
        simp only [wpb_X9_sheet_L90, pI_iff]
        refine ⟨fun h3 => ?_, fun h3 => ?_⟩
        · have h3' : nI 40 ≤ nI k := h3
          rw [nI_leI (by decide) (by omega)] at h3'
          have : k = 40 := by omega
          subst this
          unfold Post_X9_sheet
          rw [R]
          refine ⟨rfl, ?_⟩
          have e : f = fun a => if a = 7 then upd (f0 7) (ix x1) a2 else if a = 8 then upd (f0 8) (ix x1) (if a2 = 0 then 0 else a3) else if a = 9 then (fun j => if 40 * ix x1 ≤ j ∧ j < 40 * ix x1 + 40 then 0 else f0 9 j) else f0 a := by
            funext a j
            rw [hI, ← hv]
            simp only [up2_ap, upd]
            by_cases e7 : a = 7
            · subst e7; simp; rfl
            · by_cases e8 : a = 8
              · subst e8; simp; rfl
              · by_cases e9 : a = 9
                · subst e9; simp
                · simp [e7, e8, e9]
          rw [e]; exact eqM_rfl _
        · have h3' : ¬ nI 40 ≤ nI k := h3
          rw [nI_leI (by decide) (by omega)] at h3'
          have s4 := sh40 (a := x1) (i := nI k) c.1 c.2 (Int32.not_lt.mp (nI_pos (by omega))) (nI_lt (b := 40) (by omega) (by omega))
          rw [s4.2, nI_clamp (by omega)]
          refine ⟨s4.1, ⟨trivial, k + 1, by omega, by rw [nI_1], fun a j => ?_⟩, ?_⟩
          · rw [up2_ap, hI]
            have : ix x1 = x1.toNatClampNeg := rfl
            grind
          · rw [nI_1, nI_clamp (by omega)]; omega
      simp only [wp_X9_sheet_L65]
      exact ⟨si.2.1, fun h2 => lp _ (by rw [if_neg h2]), fun h2 => lp _ (by rw [if_pos h2])⟩
    have l49 : ¬ (¬ a2 = 0 ∧ a3 < 0) → wp_X9_sheet_L49 f0 a1 a2 a3 (pI (Post_X9_sheet f0 a1 a2 a3)) := by
      intro g1
      simp only [wp_X9_sheet_L49, pI_iff]
      refine ⟨fun h2 => good g1 (fun q => q.1 h2), fun h2 => ⟨fun h3 => good g1 (fun q => Int32.not_lt.mpr h3 q.2), fun h3 => ⟨pf1 f0, fun r f p => ?_⟩⟩⟩
      rw [if_neg g1, if_pos ⟨h2, Int32.not_le.mp h3⟩] at R
      unfold Post_X9_sheet; rw [R]; exact fi1 p
    simp only [wp_X9_sheet_L35, pI_iff]
    refine ⟨fun h2 => l49 (fun q => q.1 h2), fun h2 => ⟨fun h3 => l49 (fun q => Int32.not_lt.mpr h3 q.2), fun h3 => ⟨pf3 f0, fun r f p => ?_⟩⟩⟩
    rw [if_pos ⟨h2, Int32.not_le.mp h3⟩] at R
    unfold Post_X9_sheet; rw [R]; exact fi3 p
  exact ⟨fun e => main (Or.inl e), fun n1 => ⟨fun e => main (Or.inr (Or.inl e)), fun n2 => ⟨fun e => main (Or.inr (Or.inr (Or.inl e))), fun n3 => ⟨fun e => main (Or.inr (Or.inr (Or.inr e))), fun n4 => bad fun q => by rcases q.2 with e | e | e | e; exact n1 e; exact n2 e; exact n3 e; exact n4 e⟩⟩⟩⟩
set_option maxHeartbeats 400000 in
theorem vc_X9_put : vcS_X9_put := by
  intro f a1 a2 a3 hp
  unfold Pre_X9_put at hp
  simp only [wp_X9_put, wp_X9_put_L95, pI_iff]
  have e1 : ∀ r f1, Post_X9_finds f 1 r f1 → r = (er f 1).1 ∧ eqM (er f 1).2 f1 := fun r f1 p => fi1 p
  have e2 : ∀ r f1, Post_X9_finds f 2 r f1 → r = (er f 2).1 ∧ eqM (er f 2).2 f1 := fun r f1 p => fi2 p
  unfold Post_X9_put
  have sV : Val_X9_isSheet f a1 = if inP a1 0 3 then 1 else 0 := rfl
  by_cases hs : inP a1 0 3
  · have si := shI hp hs.1 hs.2
    have sN : ¬ Val_X9_isSheet f a1 = 0 := by rw [sV, if_pos hs]; decide
    refine ⟨fun _ => ⟨si.2.1, fun h7 => ⟨si.2.1, fun hi => ?_, fun hi => ?_⟩, fun h7 => ⟨pf2 f, fun r f1 p => ?_⟩⟩, fun h => absurd h sN⟩
    · rw [in_0e] at hi
      have hi2 : inP a2 0 (f 8 (ix a1) - 1) := Classical.byContradiction fun hn => hi (if_neg hn)
      have s4 := sh40 hs.1 hs.2 hi2.1 (by have := hi2.2; have := si.2.2; grind)
      have R : RE_put f a1 a2 a3 = (1, up2 f 9 (40 * ix a1 + ix a2) (narI (f 7 (ix a1)) a3)) := by
        unfold RE_put; rw [if_pos hs, if_neg h7, if_pos hi2]
      rw [R, s4.2]
      refine ⟨si.2.1, fun h8 => ⟨si.2.1, fun h16 => ⟨s4.1, rfl, ?_⟩, fun h16 => ⟨s4.1, rfl, ?_⟩⟩, fun h8 => ⟨s4.1, rfl, ?_⟩⟩
      · have : narI (f 7 (ix a1)) a3 = a3 := by unfold narI; rw [if_neg h8, if_neg h16]
        rw [this]; exact eqM_rfl _
      · have : narI (f 7 (ix a1)) a3 = a3.toInt16.toInt32 := by unfold narI; rw [if_neg h8, if_pos h16]
        rw [this]; exact eqM_rfl _
      · have : narI (f 7 (ix a1)) a3 = a3.toInt8.toInt32 := by unfold narI; rw [if_pos h8]
        rw [this]; exact eqM_rfl _
    · rw [in_0e] at hi
      have hi2 : ¬ inP a2 0 (f 8 (ix a1) - 1) := fun hn => by rw [if_pos hn] at hi; cases hi
      have R : RE_put f a1 a2 a3 = er f 1 := by unfold RE_put; rw [if_pos hs, if_neg h7, if_neg hi2]
      rw [R]; exact ⟨pf1 f, e1⟩
    · have R : RE_put f a1 a2 a3 = er f 2 := by unfold RE_put; rw [if_pos hs, if_pos h7]
      rw [R]; exact e2 r f1 p
  · have sN : Val_X9_isSheet f a1 = 0 := by rw [sV, if_neg hs]
    have R : RE_put f a1 a2 a3 = er f 1 := by unfold RE_put; rw [if_neg hs]
    rw [R]
    exact ⟨fun h => absurd sN h, fun _ => ⟨pf1 f, e1⟩⟩
set_option maxHeartbeats 400000 in
theorem vc_X9_move : vcS_X9_move := by
  intro f0 a1 a2 a3 a4 a5 hp
  unfold Pre_X9_move at hp
  have sV : ∀ x, Val_X9_isSheet f0 x = if inP x 0 3 then 1 else 0 := fun x => rfl
  have b14 : ¬ (inP a1 0 3 ∧ inP a3 0 3) → wp_X9_move_L14 f0 (pI (Post_X9_move f0 a1 a2 a3 a4 a5)) := fun h => by
    have R : RE_move f0 a1 a2 a3 a4 a5 = er f0 1 := by unfold RE_move; rw [if_neg h]
    simp only [wp_X9_move_L14, pI_iff]
    exact ⟨pf1 f0, fun r f p => by unfold Post_X9_move; rw [R]; exact fi1 p⟩
  simp only [wp_X9_move]
  refine ⟨fun h => b14 fun q => (by rw [sV, if_pos q.1] at h; cases h), fun h => ⟨fun h2 => ?_, fun h2 => b14 fun q => (by rw [sV, if_pos q.2] at h2; cases h2)⟩⟩
  have c1 : inP a1 0 3 := Classical.byContradiction fun hn => h (by rw [sV, if_neg hn])
  have c3 : inP a3 0 3 := Classical.byContradiction fun hn => h2 (by rw [sV, if_neg hn])
  have s1 := shI hp c1.1 c1.2
  have s3 := shI hp c3.1 c3.2
  have R0 : RE_move f0 a1 a2 a3 a4 a5 = if f0 7 (ix a1) = 0 ∨ f0 7 (ix a3) = 0 then er f0 2 else if ¬ f0 7 (ix a1) = f0 7 (ix a3) then er f0 5 else if a5 < 0 ∨ a2 < 0 ∨ a4 < 0 ∨ f0 8 (ix a1) - a2 < a5 ∨ f0 8 (ix a3) - a4 < a5 then er f0 1 else (a5, fun a => if a = 9 then (fun q => if 40 * ix a3 + ix a4 ≤ q ∧ q < 40 * ix a3 + ix a4 + ix a5 then f0 9 (40 * ix a1 + ix a2 + (q - (40 * ix a3 + ix a4))) else f0 9 q) else f0 a) := by
    unfold RE_move; rw [if_pos ⟨c1, c3⟩]
  have b38 : (f0 7 (ix a1) = 0 ∨ f0 7 (ix a3) = 0) → wp_X9_move_L38 f0 (pI (Post_X9_move f0 a1 a2 a3 a4 a5)) := fun h => by
    rw [if_pos h] at R0
    simp only [wp_X9_move_L38, pI_iff]
    exact ⟨pf2 f0, fun r f p => by unfold Post_X9_move; rw [R0]; exact fi2 p⟩
  refine ⟨s1.2.1, fun h3 => b38 (Or.inl h3), fun h3 => ⟨s3.2.1, fun h4 => ⟨s1.2.1, s3.2.1, fun h5 => ?_, fun h5 => ?_⟩, fun h4 => b38 (Or.inr h4)⟩⟩
  rotate_left
  · rw [if_neg (by rintro (q | q); exact h3 q; exact h4 q), if_pos h5] at R0
    refine ⟨pf5 f0, fun r f p => ?_⟩
    rw [pI_iff]; unfold Post_X9_move; rw [R0]; exact fi5 p
  rw [if_neg (by rintro (q | q); exact h3 q; exact h4 q), if_neg (fun q => q h5)] at R0
  have b106 : (a5 < 0 ∨ a2 < 0 ∨ a4 < 0 ∨ f0 8 (ix a1) - a2 < a5 ∨ f0 8 (ix a3) - a4 < a5) → wp_X9_move_L106 f0 (pI (Post_X9_move f0 a1 a2 a3 a4 a5)) := fun h => by
    rw [if_pos h] at R0
    simp only [wp_X9_move_L106, pI_iff]
    exact ⟨pf1 f0, fun r f p => by unfold Post_X9_move; rw [R0]; exact fi1 p⟩
  refine ⟨fun g1 => b106 (Or.inl g1), fun g1 => ⟨fun g2 => b106 (Or.inr (Or.inl g2)), fun g2 => ⟨fun g3 => b106 (Or.inr (Or.inr (Or.inl g3))), fun g3 => ⟨s1.2.1, fun g4 => b106 (Or.inr (Or.inr (Or.inr (Or.inl g4)))), fun g4 => ⟨s3.2.1, fun g5 => ?_, fun g5 => b106 (Or.inr (Or.inr (Or.inr (Or.inr (Int32.not_le.mp g5)))))⟩⟩⟩⟩⟩
  rw [if_neg (by rintro (q | q | q | q | q); exact g1 q; exact g2 q; exact g3 q; exact g4 q; exact Int32.not_lt.mpr g5 q)] at R0
  obtain ⟨m1, m1h, m1e⟩ : ∃ n : Nat, n ≤ 40 ∧ f0 8 (ix a1) = nI n := nI_of2 (M := 40) (n := 40) (by decide) (Int32.not_lt.mpr s1.2.2.1) s1.2.2.2
  obtain ⟨m3, m3h, m3e⟩ : ∃ n : Nat, n ≤ 40 ∧ f0 8 (ix a3) = nI n := nI_of2 (M := 40) (n := 40) (by decide) (Int32.not_lt.mpr s3.2.2.1) s3.2.2.2
  have g4' : a5 ≤ nI m1 - a2 := by rw [← m1e]; exact Int32.not_lt.mp g4
  have g5' : a5 ≤ nI m3 - a4 := by rw [← m3e]; exact g5
  have mm1 : nI m1 ≤ 40 := nI_le (b := 40) m1h (by omega)
  have mm3 : nI m3 ≤ 40 := nI_le (b := 40) m3h (by omega)
  have q1 := Int32.not_lt.mp g1
  have q2 := Int32.not_lt.mp g2
  have q3 := Int32.not_lt.mp g3
  have p1 : 0 ≤ nI m1 := Int32.not_lt.mp (nI_pos (by omega))
  have p3 : 0 ≤ nI m3 := Int32.not_lt.mp (nI_pos (by omega))
  have bd2 : a2 + a5 ≤ 40 ∧ a2 ≤ 40 ∧ a5 ≤ 40 := by grind
  have bd4 : a4 + a5 ≤ 40 ∧ a4 ≤ 40 := by grind
  obtain ⟨i2, i2h, rfl⟩ := nI_of2 (M := 40) (n := 40) (by decide) g2 bd2.2.1
  obtain ⟨i4, i4h, rfl⟩ := nI_of2 (M := 40) (n := 40) (by decide) g3 bd4.2
  obtain ⟨n, nh, rfl⟩ := nI_of2 (M := 40) (n := 40) (by decide) g1 bd2.2.2
  have s2n : i2 + n ≤ 40 := by
    have := bd2.1
    rw [nI_add] at this
    have : nI (i2 + n) ≤ nI 40 := this
    rwa [nI_leI (by omega) (by decide)] at this
  have s4n : i4 + n ≤ 40 := by
    have := bd4.1
    rw [nI_add] at this
    have : nI (i4 + n) ≤ nI 40 := this
    rwa [nI_leI (by omega) (by decide)] at this
  have ixn : ∀ x : Nat, x ≤ 40 → ix (nI x) = x := fun x hx => nI_clamp (by omega)
  rw [ixn _ i2h, ixn _ i4h, ixn _ nh] at R0
  have at1 : ∀ k, k < n → vp_in (40 * a1 + nI i2 + nI k) 160 ∧ (40 * a1 + nI i2 + nI k).toNatClampNeg = 40 * ix a1 + i2 + k := fun k hk => by
    have s := sh40 (a := a1) (i := nI (i2 + k)) c1.1 c1.2 (Int32.not_lt.mp (nI_pos (by omega))) (nI_lt (b := 40) (by omega) (by omega))
    have e : 40 * a1 + nI i2 + nI k = 40 * a1 + nI (i2 + k) := by rw [← nI_add]; grind
    rw [e]
    refine ⟨s.1, ?_⟩
    rw [s.2, nI_clamp (by omega)]; show 40 * ix a1 + (i2 + k) = _; omega
  have at3 : ∀ k, k < n → vp_in (40 * a3 + nI i4 + nI k) 160 ∧ (40 * a3 + nI i4 + nI k).toNatClampNeg = 40 * ix a3 + i4 + k := fun k hk => by
    have s := sh40 (a := a3) (i := nI (i4 + k)) c3.1 c3.2 (Int32.not_lt.mp (nI_pos (by omega))) (nI_lt (b := 40) (by omega) (by omega))
    have e : 40 * a3 + nI i4 + nI k = 40 * a3 + nI (i4 + k) := by rw [← nI_add]; grind
    rw [e]
    refine ⟨s.1, ?_⟩
    rw [s.2, nI_clamp (by omega)]; show 40 * ix a3 + (i4 + k) = _; omega
  simp only [wp_X9_move_L115]
  refine ⟨fun (f : Fn) (x1 x2 x3 x4 x5 x6 : Int32) => x1 = a1 ∧ x2 = nI i2 ∧ x3 = a3 ∧ x4 = nI i4 ∧ x5 = nI n ∧ (∀ a, ¬ a = 10 → f a = f0 a) ∧ ∃ k : Nat, k ≤ n ∧ x6 = nI k ∧ ∀ j, j < k → f 10 j = f0 9 (40 * ix a1 + i2 + j), fun _ _ _ _ _ _ x6 => 100 - x6.toNatClampNeg, ⟨rfl, rfl, rfl, rfl, rfl, fun _ _ => rfl, 0, by omega, rfl, fun j hj => by omega⟩, ?_⟩
  rintro f x1 x2 x3 x4 x5 x6 ⟨rfl, rfl, rfl, rfl, rfl, hf, k, hk, rfl, hI⟩
  simp only [wpb_X9_move_L115]
  rw [nI_leI (by omega) (by omega)]
  refine ⟨fun h6 => ?_, fun h6 => ?_⟩
  · have : k = n := by omega
    subst this
    simp only [wp_X9_move_L152]
    refine ⟨fun (f : Fn) (x3' x4 x5 x6 : Int32) => x3' = x3 ∧ x4 = nI i4 ∧ x5 = nI k ∧ (∀ a, ¬ a = 10 → ¬ a = 9 → f a = f0 a) ∧ (∀ j, j < k → f 10 j = f0 9 (40 * ix x1 + i2 + j)) ∧ ∃ m : Nat, m ≤ k ∧ x6 = nI m ∧ ∀ q, f 9 q = if 40 * ix x3 + i4 ≤ q ∧ q < 40 * ix x3 + i4 + m then f0 9 (40 * ix x1 + i2 + (q - (40 * ix x3 + i4))) else f0 9 q, fun _ _ _ _ x6 => 100 - x6.toNatClampNeg, ⟨rfl, rfl, rfl, fun a x y => hf a x, hI, 0, by omega, rfl, fun q => by rw [if_neg (by omega), hf 9 (by decide)]⟩, ?_⟩
    rintro f5 x3' x4 x5 x6 ⟨rfl, rfl, rfl, hf5, hI5, m, hm, rfl, hM⟩
    simp only [wpb_X9_move_L152, pI_iff]
    rw [nI_leI (by omega) (by omega)]
    refine ⟨fun h7 => ?_, fun h7 => ?_⟩
    · have : m = k := by omega
      subst this
      unfold Post_X9_move
      rw [R0]
      refine ⟨rfl, ?_⟩
      have r : ∀ a, ¬ a = 9 → (fun a => if a = 9 then (fun q => if 40 * ix x3' + i4 ≤ q ∧ q < 40 * ix x3' + i4 + m then f0 9 (40 * ix x1 + i2 + (q - (40 * ix x3' + i4))) else f0 9 q) else f0 a : Fn) a = f0 a := fun a ha => if_neg ha
      refine ⟨?_, ?_, ?_, ?_, ?_, ?_, funext fun q => hM q, ?_, ?_, ?_⟩ <;> (dsimp only) <;> first | exact hf5 _ (by decide) (by decide) | exact congrFun (hf5 0 (by decide) (by decide)) _
    · have t3 := at3 m (by omega)
      rw [t3.2, nI_clamp (by omega)]
      refine ⟨vp_in_nI (by omega) (by omega), t3.1, ⟨trivial, trivial, trivial, fun a x y => by rw [up2_row _ _ _ _ _ y]; exact hf5 a x y, fun j hj => by rw [up2_row _ _ _ _ _ (by decide)]; exact hI5 j hj, m + 1, by omega, by rw [nI_1], fun q => ?_⟩, ?_⟩
      · rw [up2_ap, if_pos rfl, hM, hI5 m (by omega)]
        generalize 40 * ix x3' + i4 = A
        by_cases e : q = A + m
        · rw [if_pos e, if_pos (by omega), e, show A + m - A = m by omega]
        · rw [if_neg e]
          by_cases e2 : A ≤ q ∧ q < A + m
          · rw [if_pos e2, if_pos (by omega)]
          · rw [if_neg e2, if_neg (by omega)]
      · rw [nI_1, nI_clamp (by omega)]; omega
  · have t1 := at1 k (by omega)
    rw [t1.2, nI_clamp (by omega)]
    refine ⟨t1.1, vp_in_nI (by omega) (by omega), ⟨trivial, trivial, trivial, trivial, trivial, fun a x => by rw [up2_row _ _ _ _ _ x]; exact hf a x, k + 1, by omega, by rw [nI_1], fun j hj => ?_⟩, ?_⟩
    · rw [up2_ap, if_pos rfl, hf 9 (by decide)]
      by_cases e : j = k
      · rw [if_pos e, e]
      · rw [if_neg e]; exact hI j (by omega)
    · rw [nI_1, nI_clamp (by omega)]; omega
theorem vc_X9_turns : vcS_X9_turns := by
  intro f0 a1 hp
  unfold Pre_X9_turns at hp
  have sV : Val_X9_isSheet f0 a1 = if inP a1 0 3 then 1 else 0 := rfl
  simp only [wp_X9_turns, wp_X9_turns_L30, pI_iff]
  refine ⟨fun h => ?_, fun h => ⟨pf1 f0, fun r f p => ?_⟩⟩
  rotate_left
  · have c : ¬ inP a1 0 3 := fun q => by rw [sV, if_pos q] at h; cases h
    have R : RE_turns f0 a1 = er f0 1 := by unfold RE_turns; rw [if_neg c]
    unfold Post_X9_turns; rw [R]; exact fi1 p
  have c : inP a1 0 3 := Classical.byContradiction fun hn => h (by rw [sV, if_neg hn])
  have si := shI hp c.1 c.2
  refine ⟨si.2.1, fun h7 => ?_, fun h7 => ⟨pf2 f0, fun r f p => ?_⟩⟩
  rotate_left
  · have R : RE_turns f0 a1 = er f0 2 := by unfold RE_turns; rw [if_pos c, if_pos h7]
    unfold Post_X9_turns; rw [R]; exact fi2 p
  obtain ⟨m, m40, hm⟩ : ∃ n : Nat, n ≤ 40 ∧ f0 8 (ix a1) = nI n := nI_of2 (M := 40) (n := 40) (by decide) (Int32.not_lt.mpr si.2.2.1) si.2.2.2
  obtain ⟨n, n1, n2, n3⟩ := n6 hp
  have R : RE_turns f0 a1 = (nI (trnN f0 (ix a1) m).1, (trnN f0 (ix a1) m).2) := by
    unfold RE_turns; rw [if_pos c, if_neg h7, hm, show ix (nI m) = m from nI_clamp (by omega)]
  refine ⟨fun (f : Fn) (x1 x2 : Int32) => x1 = a1 ∧ ∃ k : Nat, k ≤ m ∧ x2 = nI k ∧ (trnN f0 (ix a1) k).1 = k ∧ f = (trnN f0 (ix a1) k).2, fun _ _ x2 => 100 - x2.toNatClampNeg, ⟨rfl, 0, by omega, rfl, rfl, rfl⟩, ?_⟩
  rintro f x1 x2 ⟨rfl, k, hk, rfl, h1, rfl⟩
  obtain ⟨tr, t0⟩ := trn_k (g := f0) (s := ix x1) k
  simp only [wpb_X9_turns_L30, pI_iff]
  have e8 : (trnN f0 (ix x1) k).2 8 x1.toNatClampNeg = nI m := by rw [tr 8 (by decide)]; exact hm
  have out : trnN f0 (ix x1) m = trnN f0 (ix x1) k → Post_X9_turns f0 x1 (nI k) (trnN f0 (ix x1) k).2 := fun e => by
    unfold Post_X9_turns
    rw [R, e, h1]; exact ⟨rfl, eqM_rfl _⟩
  rw [e8, t0, n2, nI_leI (by omega) (by omega), nI_leI (by omega) (by omega)]
  refine ⟨si.2.1, fun h3 => out (by rw [show m = k by omega]), fun h3 => ⟨fun h4 => out (trn_z h1 (fun q => ?_) m (by omega)), fun h4 => ?_⟩⟩
  · rw [n2, nI_ltI (by omega) (by omega)] at q; omega
  · have s4 := sh40 (a := x1) (i := nI k) c.1 c.2 (Int32.not_lt.mp (nI_pos (by omega))) (nI_lt (b := 40) (by omega) (by omega))
    have e9 : (trnN f0 (ix x1) k).2 9 (40 * x1 + nI k).toNatClampNeg = f0 9 (40 * ix x1 + k) := by
      rw [s4.2, nI_clamp (by omega), tr 9 (by decide)]
    rw [e9, in_1_3]
    refine ⟨s4.1, fun h5 => out (trn_z h1 (fun q => ?_) m (by omega)), fun h5 => ⟨s4.1, ⟨vp_in_nI (by omega) (by omega), by unfold vp_in; decide⟩, fun f11 p => ⟨⟨trivial, k + 1, by omega, by rw [nI_1], ?_, ?_⟩, ?_⟩⟩⟩
    · rw [if_pos q.2] at h5; cases h5
    · have q : inP (f0 9 (40 * ix x1 + k)) 1 3 := Classical.byContradiction fun hn => h5 (if_neg hn)
      rw [trn_s, if_pos ⟨h1, by rw [n2]; exact nI_lt (by omega) (by omega), q⟩]
    · have q : inP (f0 9 (40 * ix x1 + k)) 1 3 := Classical.byContradiction fun hn => h5 (if_neg hn)
      rw [trn_s, if_pos ⟨h1, by rw [n2]; exact nI_lt (by omega) (by omega), q⟩]
      unfold Post_X9_sets at p
      rw [p, show ix (nI k) = k from nI_clamp (by omega)]; rfl
    · rw [nI_1, nI_clamp (by omega), nI_clamp (by omega)]; omega
theorem vc_X9_judge : vcS_X9_judge := by
  intro f0 a1 hp
  unfold Pre_X9_judge at hp
  have sV : Val_X9_isSheet f0 a1 = if inP a1 0 3 then 1 else 0 := rfl
  simp only [wp_X9_judge, wp_X9_judge_L30, pI_iff]
  refine ⟨fun h => ?_, fun h => ⟨pf1 f0, fun r f p => ?_⟩⟩
  rotate_left
  · have c : ¬ inP a1 0 3 := fun q => by rw [sV, if_pos q] at h; cases h
    have R : RE_judge f0 a1 = er f0 1 := by unfold RE_judge; rw [if_neg c]
    unfold Post_X9_judge; rw [R]; exact fi1 p
  have c : inP a1 0 3 := Classical.byContradiction fun hn => h (by rw [sV, if_neg hn])
  have si := shI hp c.1 c.2
  refine ⟨si.2.1, fun h7 => ?_, fun h7 => ⟨pf2 f0, fun r f p => ?_⟩⟩
  rotate_left
  · have R : RE_judge f0 a1 = er f0 2 := by unfold RE_judge; rw [if_pos c, if_pos h7]
    unfold Post_X9_judge; rw [R]; exact fi2 p
  obtain ⟨m, m40, hm⟩ : ∃ n : Nat, n ≤ 40 ∧ f0 8 (ix a1) = nI n := nI_of2 (M := 40) (n := 40) (by decide) (Int32.not_lt.mpr si.2.2.1) si.2.2.2
  obtain ⟨n, n1, n2, n3⟩ := n6 hp
  have R : RE_judge f0 a1 = (if nI (jdgN f0 (ix a1) m) = nI m ∧ nI (jdgN f0 (ix a1) m) = f0 1 0 then -1 else nI (jdgN f0 (ix a1) m), f0) := by
    unfold RE_judge; rw [if_pos c, if_neg h7, hm, show ix (nI m) = m from nI_clamp (by omega)]
  refine ⟨fun (f : Fn) (x1 x2 : Int32) => f = f0 ∧ x1 = a1 ∧ ∃ k : Nat, k ≤ m ∧ x2 = nI k ∧ jdgN f0 (ix a1) k = k, fun _ _ x2 => 100 - x2.toNatClampNeg, ⟨rfl, rfl, 0, by omega, rfl, rfl⟩, ?_⟩
  rintro f x1 x2 ⟨rfl, rfl, k, hk, rfl, h1⟩
  simp only [wpb_X9_judge_L30]
  have e8 : f 8 x1.toNatClampNeg = nI m := hm
  have out : jdgN f (ix x1) m = k → wp_X9_judge_L76 f x1 (nI k) (pI (Post_X9_judge f x1)) := fun e => by
    simp only [wp_X9_judge_L76, pI_iff, e8]
    unfold Post_X9_judge
    rw [R, e]
    refine ⟨si.2.1, fun h => ⟨?_, eqM_rfl _⟩, fun h => ⟨fun h2 => ⟨?_, eqM_rfl _⟩, fun h2 => ⟨?_, eqM_rfl _⟩⟩⟩
    · dsimp only; rw [if_neg (fun q => h q.1)]
    · dsimp only; rw [if_neg (fun q => h2 q.2)]
    · dsimp only; rw [if_pos ⟨h, h2⟩]
  rw [e8, n2, nI_leI (by omega) (by omega), nI_leI (by omega) (by omega)]
  refine ⟨si.2.1, fun h3 => out (by rw [show m = k by omega]; exact h1), fun h3 => ⟨fun h4 => out (jdg_z h1 (fun q => ?_) m (by omega)), fun h4 => ?_⟩⟩
  · rw [n2, nI_ltI (by omega) (by omega)] at q; omega
  · have s4 := sh40 (a := x1) (i := nI k) c.1 c.2 (Int32.not_lt.mp (nI_pos (by omega))) (nI_lt (b := 40) (by omega) (by omega))
    have e9 : f 9 (40 * x1 + nI k).toNatClampNeg = f 9 (40 * ix x1 + k) := by
      rw [s4.2, nI_clamp (by omega)]
    have eo : Val_X9_of f (nI k) 3 = f 1 (fl4 k + 3) := by
      unfold Val_X9_of; rw [show ix (nI k) = k from nI_clamp (by omega)]; rfl
    rw [e9, eo]
    refine ⟨s4.1, ⟨vp_in_nI (by omega) (by omega), by unfold vp_in; decide⟩, fun h5 => out (jdg_z h1 (fun q => h5 q.2) m (by omega)), fun h5 => ⟨⟨trivial, trivial, k + 1, by omega, by rw [nI_1], ?_⟩, ?_⟩⟩
    · rw [jdg_s, if_pos ⟨h1, by rw [n2]; exact nI_lt (by omega) (by omega), h5⟩]
    · rw [nI_1, nI_clamp (by omega), nI_clamp (by omega)]; omega
theorem vc_X9_image : vcS_X9_image := by
  intro f0 hp
  simp only [wp_X9_image, wp_X9_image_L2]
  refine ⟨fun (f : Fn) (x1 : Int32) => ∃ k : Nat, k ≤ 264 ∧ x1 = nI k ∧ f = cpr f0 2 1 k, fun _ x1 => 300 - x1.toNatClampNeg, ⟨0, by omega, rfl, (cpr_0 _ _ _).symm⟩, ?_⟩
  rintro f x1 ⟨k, hk, rfl, rfl⟩
  simp only [wpb_X9_image_L2, pI_iff]
  refine ⟨fun h => ?_, fun h => ?_⟩
  · have h' : nI 264 ≤ nI k := h
    rw [nI_leI (by decide) (by omega)] at h'
    have : k = 264 := by omega
    subst this
    unfold Post_X9_image
    have e : (RE_image f0).2 = up2 (cpr f0 2 1 264) 0 2 (cpr f0 2 1 264 0 2 + 1) := by
      funext a j
      unfold RE_image
      rw [up2_ap, cpr_row _ _ _ _ _ (show ¬ (0 : Nat) = 2 by decide)]
      by_cases a2 : a = 2
      · subst a2; rw [if_neg (show ¬ (2 : Nat) = 0 by decide), cpr_ap, if_pos rfl]; rfl
      · by_cases a0 : a = 0
        · subst a0; rw [if_pos rfl, cpr_row _ _ _ _ _ (show ¬ (0 : Nat) = 2 by decide)]; rfl
        · rw [if_neg a0, cpr_row _ _ _ _ _ a2]; simp only [if_neg a2, if_neg a0]
    rw [e]
    refine ⟨?_, eqM_rfl _⟩
    rw [cpr_row _ _ _ _ _ (show ¬ (0 : Nat) = 2 by decide)]; rfl
  · have h' : ¬ nI 264 ≤ nI k := h
    rw [nI_leI (by decide) (by omega)] at h'
    rw [nI_clamp (by omega)]
    refine ⟨vp_in_nI (by omega) (by omega), vp_in_nI (by omega) (by omega), ⟨k + 1, by omega, by rw [nI_1], cpr_s _ _ _ _⟩, ?_⟩
    rw [nI_1, nI_clamp (by omega)]; omega
theorem vc_X9_restore : vcS_X9_restore := by
  intro f0 hp
  simp only [wp_X9_restore, wp_X9_restore_L15, pI_iff]
  refine ⟨fun h0 => ?_, fun h0 => ⟨pf2 f0, fun r f p => ?_⟩⟩
  rotate_left
  · have R : RE_restore f0 = er f0 2 := by unfold RE_restore; rw [if_pos h0]
    unfold Post_X9_restore; rw [R]; exact fi2 p
  have R : RE_restore f0 = (f0 2 1, cpr f0 1 2 264) := by unfold RE_restore; rw [if_neg h0]; rfl
  refine ⟨fun (f : Fn) (x1 : Int32) => ∃ k : Nat, k ≤ 264 ∧ x1 = nI k ∧ f = cpr f0 1 2 k, fun _ x1 => 300 - x1.toNatClampNeg, ⟨0, by omega, rfl, (cpr_0 _ _ _).symm⟩, ?_⟩
  rintro f x1 ⟨k, hk, rfl, rfl⟩
  simp only [wpb_X9_restore_L15, pI_iff]
  refine ⟨fun h => ?_, fun h => ?_⟩
  · have h' : nI 264 ≤ nI k := h
    rw [nI_leI (by decide) (by omega)] at h'
    have : k = 264 := by omega
    subst this
    unfold Post_X9_restore
    rw [R]
    refine ⟨?_, eqM_rfl _⟩
    rw [cpr_ap, if_pos rfl, if_pos (by decide)]
  · have h' : ¬ nI 264 ≤ nI k := h
    rw [nI_leI (by decide) (by omega)] at h'
    rw [nI_clamp (by omega)]
    refine ⟨vp_in_nI (by omega) (by omega), vp_in_nI (by omega) (by omega), ⟨k + 1, by omega, by rw [nI_1], cpr_s _ _ _ _⟩, ?_⟩
    rw [nI_1, nI_clamp (by omega)]; omega
set_option maxHeartbeats 200000 in
theorem vc_X9_tell : vcS_X9_tell := by
  unfold vcS_X9_tell
  simp only [wp_X9_tell, pI_iff, pV_iff, pL_iff, Post_X9_tell, Pre_X9_tell, tn0, tn1, tn2, tn3, tn4, tn5, tn6, tn7, tn8, tn9, tn10, tn12, tn18, tn40, tn50, tn60, tn90, tn92, tn112, tn212, tnn1, ni0, ni1, ni2, ni3, ni4, ni5, ni6, ni7, er1, er2, er3, er4, er5, lg_cmp_lt, lg_cmp_le, lg_cmp_gt, lg_cmp_ge, lg_cmp_eq, in_m99_299, in_0_1, in_0_19999, in_0_2, in_0_200, in_0_3, in_0_30, in_0_4, in_0_6, in_0_60, in_0_69, in_0_9, in_0_99, in_1_200, in_1_3, in_1_40, in_1_5, in_1_60, in_1_8, in_4_40, in_0e, RE_tell]
  intros
  (repeat' (first | with_reducible apply And.intro | with_reducible intro _)) <;> (try first | apply pR_some | apply pR_none) <;> first | grind [txb, pT, eqM, Post_X9_finds, Pre_X9_finds, up2_ap, cpr_ap, vp1, vp2, vp3, vp4, vp5, vp6, vp20, vp40, vp50, vp60, vp160, vp264, tnc, nIX, nIc, tncA, tncS, tncM, l56, eqM_rfl, up2_row, InvF, InvF0, dF1, dF2, sw0, sw1, InvT]
theorem vc_X9_check : vcS_X9_check := by
  intro f0 hp
  unfold Pre_X9_check at hp
  have hd := hp.1
  obtain ⟨n, n20, hn⟩ : ∃ n : Nat, n ≤ 20 ∧ f0 1 10 = nI n := by
    obtain ⟨-, -, -, -, -, -, -, -, -, -, h, -⟩ := hd; exact h
  simp only [wp_X9_check, wp_X9_check_L18]
  have f1 : up2 f0 1 10 0 1 = upd (f0 1) 10 0 := up2_same _ _ _ _
  have R : RE_check f0 = (match fst (chkP f0) n with | some k => 1 + nI k | none => 0, up2 f0 1 10 0) := by
    unfold RE_check; rw [hn, show ix (nI n) = n from nI_clamp (by omega)]; rfl
  refine ⟨fun (f : Fn) (x1 x2 : Int32) => f = up2 f0 1 10 0 ∧ x1 = nI n ∧ ∃ k : Nat, k ≤ n ∧ x2 = nI k ∧ fst (chkP f0) k = none, fun _ _ x2 => 100 - x2.toNatClampNeg, ⟨rfl, hn, 0, by omega, rfl, rfl⟩, ?_⟩
  rintro f x1 x2 ⟨rfl, rfl, k, hk, rfl, hF⟩
  simp only [wpb_X9_check_L18, pI_iff]
  rw [nI_leI (by omega) (by omega)]
  refine ⟨fun h => ?_, fun h => ?_⟩
  · have : k = n := by omega
    subst this
    unfold Post_X9_check
    rw [R, hF]; exact ⟨rfl, eqM_rfl _⟩
  · have e92 : ((92 : Int32) + nI k).toNatClampNeg = 92 + k := by
      show (nI 92 + nI k).toNatClampNeg = _
      rw [nI_add, nI_clamp (by omega)]
    have v92 : vp_in ((92 : Int32) + nI k) 264 := by
      show vp_in (nI 92 + nI k) 264
      rw [nI_add]; exact vp_in_nI (by omega) (by omega)
    have es : ∀ s, s < 2 → ∀ j, j < 3 → upd (f0 1) 10 0 (12 + 3 * s + j) = f0 1 (12 + 3 * s + j) := fun s hs j hj => updN _ _ _ (by omega)
    have eb : Val_X9_barOf (up2 f0 1 10 0) 0 (up2 f0 1 10 0 1 1 + nI k) = swV (sw3 (f0 1) 0) (f0 1 1 + nI k) := by
      unfold Val_X9_barOf
      rw [f1, updN _ _ _ (by decide)]
      have : sw3 (upd (f0 1) 10 0) (ix 0) = sw3 (f0 1) 0 := by
        show sw3 (upd (f0 1) 10 0) 0 = _
        unfold sw3
        rw [updN _ _ _ (by decide), updN _ _ _ (by decide), updN _ _ _ (by decide)]
      rw [this]
    have e0 : up2 f0 1 10 0 1 (92 + k) = f0 1 (92 + k) := up2_off _ _ (by omega)
    rw [eb, e92, e0]
    refine ⟨v92, ⟨by unfold vp_in; decide, by rw [f1]; exact swOKc (swO hd).1 (es 0 (by decide)), by rw [f1]; exact swOKc (swO hd).2 (es 1 (by decide))⟩, fun h2 => ⟨⟨trivial, trivial, k + 1, by omega, by rw [nI_1], ?_⟩, ?_⟩, fun h2 => ?_⟩
    · rw [fst_s _ _ hF, if_neg]
      unfold chkP
      rw [h2]; simp
    · rw [nI_1, nI_clamp (by omega), nI_clamp (by omega)]; omega
    · have : fst (chkP f0) n = some k := fst_h hF (by unfold chkP; exact decide_eq_true h2) (by omega)
      unfold Post_X9_check
      rw [R, this]; exact ⟨rfl, eqM_rfl _⟩
set_option maxHeartbeats 200000 in
theorem vc_X9_count : vcS_X9_count := by
  unfold vcS_X9_count
  simp only [wp_X9_count, pI_iff, pV_iff, pL_iff, Post_X9_count, Pre_X9_count, tn0, tn1, tn2, tn3, tn4, tn5, tn6, tn7, tn8, tn9, tn10, tn12, tn18, tn40, tn50, tn60, tn90, tn92, tn112, tn212, tnn1, ni0, ni1, ni2, ni3, ni4, ni5, ni6, ni7, er1, er2, er3, er4, er5, lg_cmp_lt, lg_cmp_le, lg_cmp_gt, lg_cmp_ge, lg_cmp_eq, in_m99_299, in_0_1, in_0_19999, in_0_2, in_0_200, in_0_3, in_0_30, in_0_4, in_0_6, in_0_60, in_0_69, in_0_9, in_0_99, in_1_200, in_1_3, in_1_40, in_1_5, in_1_60, in_1_8, in_4_40, in_0e, RE_count]
  intros
  (repeat' (first | with_reducible apply And.intro | with_reducible intro _)) <;> (try first | apply pR_some | apply pR_none) <;> first | grind [txb, pT, eqM, Post_X9_finds, Pre_X9_finds, up2_ap, cpr_ap, vp1, vp2, vp3, vp4, vp5, vp6, vp20, vp40, vp50, vp60, vp160, vp264, tnc, nIX, nIc, tncA, tncS, tncM, l56, eqM_rfl, up2_row, InvF, InvF0, dF1, dF2, sw0, sw1, InvT]
set_option maxHeartbeats 200000 in
theorem vc_X9_told : vcS_X9_told := by
  unfold vcS_X9_told
  simp only [wp_X9_told, pI_iff, pV_iff, pL_iff, Post_X9_told, Pre_X9_told, tn0, tn1, tn2, tn3, tn4, tn5, tn6, tn7, tn8, tn9, tn10, tn12, tn18, tn40, tn50, tn60, tn90, tn92, tn112, tn212, tnn1, ni0, ni1, ni2, ni3, ni4, ni5, ni6, ni7, er1, er2, er3, er4, er5, lg_cmp_lt, lg_cmp_le, lg_cmp_gt, lg_cmp_ge, lg_cmp_eq, in_m99_299, in_0_1, in_0_19999, in_0_2, in_0_200, in_0_3, in_0_30, in_0_4, in_0_6, in_0_60, in_0_69, in_0_9, in_0_99, in_1_200, in_1_3, in_1_40, in_1_5, in_1_60, in_1_8, in_4_40, in_0e, RE_told]
  intros
  (repeat' (first | with_reducible apply And.intro | with_reducible intro _)) <;> (try first | apply pR_some | apply pR_none) <;> first | grind [txb, pT, eqM, Val_X9_in, Post_X9_finds, Pre_X9_finds, up2_ap, cpr_ap, vp1, vp2, vp3, vp4, vp5, vp6, vp20, vp40, vp50, vp60, vp160, vp264, tnc, nIX, nIc, tncA, tncS, tncM, l56, eqM_rfl, up2_row, InvF, InvF0, dF1, dF2, sw0, sw1, InvT]
theorem VCt_m2 : VC_m2 := ⟨vc_X9_isSo, vc_X9_isSheet, vc_X9_phases, vc_X9_late, vc_X9_seed, vc_X9_ran, vc_X9_own, vc_X9_swingsBy, vc_X9_fallsBy, vc_X9_fliesBy, vc_X9_tellsBy, vc_X9_voice, vc_X9_trace, vc_X9_sheet, vc_X9_put, vc_X9_move, vc_X9_turns, vc_X9_judge, vc_X9_image, vc_X9_restore, vc_X9_tell, vc_X9_check, vc_X9_count, vc_X9_told, trivial⟩
