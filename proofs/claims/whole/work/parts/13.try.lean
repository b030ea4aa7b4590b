theorem heldW {m : Nat} (h1 : 1 ≤ m) (h : m < 1000) : heldI (nI m) 1 60 = minI 60 (nI m) ∧ ∃ q : Nat, 1 ≤ q ∧ q ≤ 60 ∧ minI 60 (nI m) = nI q := by
  have a : ¬ nI m < 1 := by
    show ¬ nI m < nI 1
    rw [nI_ltI (by omega) (by decide)]; omega
  unfold heldI minI
  rw [if_neg a]
  by_cases q : 60 < m
  · have c : (60 : Int32) < nI m := nI_lt (a := 60) q (by omega)
    have d : ¬ nI m < 60 := by rw [Int32.not_lt]; exact Int32.le_of_lt c
    rw [if_pos c, if_neg d]
    exact ⟨rfl, 60, by omega, by omega, rfl⟩
  · have c : ¬ (60 : Int32) < nI m := by
      show ¬ nI 60 < nI m
      rw [nI_ltI (by decide) (by omega)]; exact q
    rw [if_neg c]
    by_cases e : m = 60
    · subst e
      exact ⟨rfl, 60, by omega, by omega, rfl⟩
    · have d : nI m < 60 := nI_lt (b := 60) (by omega) (by omega)
      rw [if_pos d]
      exact ⟨rfl, m, h1, by omega, rfl⟩
theorem vc_X9_pumped : vcS_X9_pumped := by
  intro f0 a1 a2 hp
  unfold Pre_X9_pumped at hp
  have hd := hp.1
  have h10 := (InvF hp).2
  simp only [wp_X9_pumped, wp_X9_pumped_L15, pI_iff]
  have bad : ¬ (isF f0 a1 ∧ inP a2 1 60) → RE_pumped f0 a1 a2 = er f0 1 := fun h => by unfold RE_pumped; rw [if_neg h]
  have fin : ¬ (isF f0 a1 ∧ inP a2 1 60) → Pre_X9_finds f0 1 ∧ ∀ (r3 : Int32) (f4 : Fn), Post_X9_finds f0 1 r3 f4 → Post_X9_pumped f0 a1 a2 r3 f4 := fun h => ⟨pf1 _, fun r3 f4 p => by unfold Post_X9_pumped; rw [bad h]; exact fi1 p⟩
  refine ⟨fun h => fin fun q => isFw h q.1, fun h => ⟨fun h2 => ?_, fun h2 => fin fun q => ?_⟩⟩
  rotate_left
  · unfold Val_X9_isSpan at h2
    rw [if_pos q.2] at h2
    cases h2
  obtain ⟨iF, v6, i0, i6, i7⟩ := isFv hp h
  have sp : inP a2 1 60 := Classical.byContradiction fun hn => h2 (by unfold Val_X9_isSpan; rw [if_neg hn])
  have good : RE_pumped f0 a1 a2 = RE_o f0 (fst (pmpP (VM (f0 1) (ix a1)) (ix a2)) 60) := by unfold RE_pumped; rw [if_pos ⟨iF, sp⟩]
  obtain ⟨pp, w, xx, -, -, w1, w2, -, -, hw, -⟩ := hd.1
  simp only [wp_X9_pumped_L35]
  refine ⟨fun (f : Fn) (x1 x2 x3 x4 x5 : Int32) => x1 = a1 ∧ x2 = a2 ∧ x3 = f0 1 13 ∧ (∃ v, frG (up2 f0 1 13 v) f) ∧ ∃ k : Nat, k ≤ 60 ∧ x5 = nI k ∧ (x4 = -1 ∧ fst (pmpP (VM (f0 1) (ix a1)) (ix a2)) k = none ∨ ∃ j, j < 60 ∧ x4 = nI j ∧ fst (pmpP (VM (f0 1) (ix a1)) (ix a2)) 60 = some j), fun _ _ _ _ _ x5 => 100 - x5.toNatClampNeg, ⟨rfl, rfl, rfl, ⟨_, frUs f0 13⟩, 0, by omega, rfl, Or.inl ⟨rfl, rfl⟩⟩, ?_⟩
  rintro f x1 x2 x3 x4 x5 ⟨rfl, rfl, rfl, ⟨v, hf⟩, k, hk, rfl, hx⟩
  simp only [wpb_X9_pumped_L35, wp_X9_pumped_L79, wp_X9_pumped_L87]
  have rm := resM hf
  have out : ∀ o, fst (pmpP (VM (f0 1) (ix x1)) (ix x2)) 60 = o → (0 ≤ oI o → pI (Post_X9_pumped f0 x1 x2) (some (.int (oI o))) (up2 f 1 13 (f0 1 13))) ∧ (¬ 0 ≤ oI o → Pre_X9_finds (up2 f 1 13 (f0 1 13)) 2 ∧ ∀ (r10 : Int32) (f11 : Fn), Post_X9_finds (up2 f 1 13 (f0 1 13)) 2 r10 f11 → pI (Post_X9_pumped f0 x1 x2) (some (.int r10)) f11) := fun o ho => by
    subst ho
    refine ⟨fun h => ?_, fun h => ⟨pf2 _, fun r f p => ?_⟩⟩
    · rw [pI_iff]; unfold Post_X9_pumped
      rw [good, REo_p h]; exact ⟨rfl, rm⟩
    · rw [pI_iff]; unfold Post_X9_pumped
      rw [good, REo_n (by omega) h]; exact fin2 rm p
  refine ⟨fun h3 => ?_, fun h3 => ⟨fun h4 => ?_, fun h4 => ?_⟩⟩
  · have h3' : nI 59 < nI k := h3
    rw [nI_ltI (by decide) (by omega)] at h3'
    have : k = 60 := by omega
    subst this
    rcases hx with ⟨rfl, h5⟩ | ⟨j, j1, rfl, h5⟩
    · exact out none h5
    · exact out (some j) h5
  · rcases hx with ⟨rfl, h5⟩ | ⟨j, j1, rfl, h5⟩
    · exact absurd h4 (by decide)
    · exact out (some j) h5
  · rcases hx with ⟨rfl, h5⟩ | ⟨j, j1, rfl, h5⟩
    rotate_left
    · exact absurd (Int32.not_lt.mp (nI_pos (n := j) (by omega))) h4
    have h3' : ¬ nI 59 < nI k := h3
    rw [nI_ltI (by decide) (by omega)] at h3'
    have mm : 100 - (nI k + 1).toNatClampNeg < 100 - (nI k).toNatClampNeg := by
      rw [nI_1, nI_clamp (by omega), nI_clamp (by omega)]; omega
    have e13 : f0 1 13 = nI w := hw
    obtain ⟨H, hH0⟩ : ∃ H, H = Val_X9_held f (f0 1 13 + nI k) 1 60 := ⟨_, rfl⟩
    rw [← hH0]
    have hH : H = minI 60 (vN (VM (f0 1) (ix x1)) 1 + nI k) := by
      rw [hH0]
      show heldI (f0 1 13 + nI k) 1 60 = minI 60 (f0 1 13 + nI k)
      rw [e13, nI_add]
      exact (heldW (by omega) (by omega)).1
    have hdH : dOK (upd (f0 1) 13 H) := by
      rw [hH]
      show dOK (upd (f0 1) 13 (minI 60 (f0 1 13 + nI k)))
      rw [e13, nI_add]
      obtain ⟨q, q1, q2, q3⟩ := (heldW (m := w + k) (by omega) (by omega)).2
      rw [q3]
      exact dOK13 hd q q1 q2
    have r1 := row1 hf H
    have go : ∀ (r15 : Int32) (f16 : Fn), Post_X9_hasNext (up2 f 1 13 H) x1 x2 r15 f16 → r15 = bI (pmpP (VM (f0 1) (ix x1)) (ix x2) k) ∧ frG (up2 f0 1 13 H) f16 := fun r15 f16 p => by
      obtain ⟨p1, p2⟩ := p
      refine ⟨?_, row1g hf p1⟩
      rw [VMtE (by rw [up2_row _ _ _ _ _ (by decide), hf.2 10 (by decide), up2_row _ _ _ _ _ (by decide)]; exact h10), r1, VM13 hd] at p2
      rw [p2, hH]; rfl
    refine ⟨⟨by rw [r1]; exact hdH, v6, Int32.not_lt.mpr sp.2, by have := sp.1; grind⟩, fun r15 f16 p => ?_⟩
    obtain ⟨e, g⟩ := go r15 f16 p
    refine ⟨fun h6 => ⟨⟨trivial, trivial, trivial, ⟨_, g⟩, k + 1, by omega, by rw [nI_1], Or.inl ⟨trivial, ?_⟩⟩, mm⟩, fun h6 => ⟨⟨trivial, trivial, trivial, ⟨_, g⟩, k + 1, by omega, by rw [nI_1], Or.inr ⟨k, by omega, rfl, ?_⟩⟩, mm⟩⟩
    · rw [fst_s _ _ h5, if_neg]
      rw [e] at h6
      rw [bI_0 h6]; decide
    · rw [e] at h6
      exact fst_h h5 (bI_1 h6) (by omega)

