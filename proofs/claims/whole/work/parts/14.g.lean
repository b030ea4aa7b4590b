/-! THE CLAIM OUT OF ONE WALK OF THE LAW'S BODY. Your part is whole_start (and what it stands on); all else here is the same for every law, but numbers. -/
def R_law : String := "CatchBarsLaw"
def lw_P (b : Addr) (xs : List Int32) (args : Array Value) (s : State) : Prop := args = #[.ref b] ∧ s.IntsAt b xs ∧ xs.length ≤ 3072 ∧ (Jvm.Cond.and given_1 narrow_1).before args s = true
def lw_Q (_ : Array Value) (s : State) (o : Outcome) (t : State) : Prop := o = .returned (some (.int 1)) ∧ Framed s o t [] 600000 7302250
def lw_Z (below : List Frame) (a : Array Value) (s : State) : State → Prop := fun t => ∃ o, t.status = .running ∧ Ended t below o ∧ lw_Q a s o t
/-- the law's own end, with 1 on the stack, nothing written that was there before, its room as the claim has it -/
theorem lw_ret {p : Program} {l : Launch} {e : Env} {s : State} {m : MethodId} {below : List Frame} {meth : Method} {c : Code} {b : Nat} (hx : p.tables.exec = Jvm.exec) (hb : c.code = code) (hr : meth.sig.returnType = ret) (hlocks : meth.locks = false) {pc : Nat} {H : Heap} {ls : Array Slot} (hdg : decode code pc = .ok (.ireturn, 1)) : W p l e room_1 s m #[Value.ref b] below meth c H [] 600000 7302250 (lw_Z below #[Value.ref b] s) (F0 m pc ls [.int 1]) := by
  intro T hT X
  obtain ⟨fs, hret, hrun, hended, hW, hframe⟩ := X.leave (v := some (.int 1)) (hlocks := hlocks) (fun h => by rw [hr] at h; cases h)
  have hmeth' : T.vm.method? m = some meth := X.method'
  refine ⟨T.setFrames fs, ?_, .returned (some (.int 1)), hrun, hended, rfl, ⟨_, rfl⟩, hW, hframe⟩
  jvm_step X.here [X.here.top, hx, hb, hdg, hmeth', hr, ret, narrow_b1]
  (try refine ⟨rfl, ?_⟩); (try refine ⟨rfl, ?_⟩)
  first | (intro acts; rw [hret _ acts rfl rfl rfl]) | rw [hret _ _ rfl rfl rfl]
  exact Steps.refl _
/-- what holds at the law's entry: the machine, the code, the tables' words (any of lw_tbl by 'hts w (by decide +kernel)'), the script of L ints xs at the cell b, what the Statement gives of the start (any of its parts by flat_of_before) -/
def lw_At (p : Program) (s : State) (m : MethodId) (meth : Method) (c : Code) (b L : Nat) (xs : Nat → Int32) : Prop :=
  p.tables.exec = Jvm.exec ∧ c.code = code ∧ meth.sig.returnType = ret ∧ c.maxLocals = 4 ∧ s.vm.findClass R_law = some m.cls ∧ (∀ w ∈ lw_tbl, w.before #[Value.ref b] s = true) ∧ va_X b L xs s s.heap ∧ b < s.heap.size ∧ meth.locks = false ∧ (Jvm.Cond.and given_1 narrow_1).before #[Value.ref b] s = true
theorem sixI {i L : Nat} (hL : L ≤ 3072) (hi : i ≤ 3072) (h : ¬ nI L - 6 < nI i) : i + 6 ≤ L := by
  have e : (nI L - 6).toInt = (L : Int) - 6 := by
    rw [Int32.toInt_sub, nI_toInt (by omega), show (6 : Int32).toInt = 6 by decide]
    exact Int.bmod_eq_of_le (by omega) (by omega)
  have h2 : (nI i).toInt ≤ (nI L - 6).toInt := Int32.le_iff_toInt_le.mp (Int32.not_lt.mp h)
  rw [e, nI_toInt (by omega)] at h2
  omega
set_option maxHeartbeats 4000000 in
set_option maxRecDepth 100000 in
/-- THE LAW'S LOOP: at its head, with i ints read, class and reference are coupled -/
theorem law_loop {Y : Yt} {EC EM : Ev} {b L : Nat} {xs : Nat → Int32} (C : CY Y RL cL_law 4) (X : LX Y EC EM b L xs) (hL : L ≤ 3072) (hend : ∀ (f g : Fn) (x : Int32), IG Y 68 sLW (WW EC EM f g) (LV EC EM b x) 1555 []) : ∀ (n i : Nat) (f g : Fn), i ≤ L → L + 1 ≤ i + n → Cpl f g → InvM g → IG Y 68 sLW (WW EC EM f g) (LV EC EM b (nI i)) 18 []
  | 0, i, f, g, hi, hn, hC, hM => absurd hn (by omega)
  | n + 1, i, f, g, hi, hn, hC, hM => by
    refine i_iload_n C rfl dL_law_18 rfl ?_
    refine i_aload_n C rfl dL_law_19 rfl ?_
    refine i_slen C X.2.2.2.2.2.2.1 X.2.2.2.2.2.2.2 (X.2.2.2.2.2.1 b X.2.2.2.2.2.2.2) dL_law_20 rfl ?_
    refine i_bipush (v := (6 : Int32)) C (by decide) dL_law_21 rfl ?_
    refine i_isub C dL_law_23 rfl ?_
    refine i_icmp_gt (tgt := 1555) C dL_law_24 (by decide) rfl (fun _ => hend f g _) (fun h => ?_)
    have h6 : i + 6 ≤ L := sixI hL (by omega) h
    refine i_aload_n C rfl dL_law_27 rfl ?_
    refine i_iload_n C rfl dL_law_28 rfl ?_
    refine i_cell C X (vp_in_nI (by omega) (by omega)) dL_law_29 rfl ?_
    refine i_bipush (v := (63 : Int32)) C (by decide) dL_law_30 rfl ?_
    refine i_iand C dL_law_32 rfl ?_
    have hcont : ∀ f' g' : Fn, Cpl f' g' → InvM g' → IG Y 68 sLW (WW EC EM f' g') (LV EC EM b (nI i)) 1549 [] := fun f' g' c' m' => by
      refine i_iinc (v := nI (i + 6)) (lv' := LV EC EM b (nI (i + 6))) C dL_law_1549 rfl (nI_add i 6) (by decide) rfl rfl ?_
      exact i_goto C dL_law_1552 (by decide) (law_loop C X hL hend n (i + 6) f' g' h6 (by omega) c' m')
    obtain ⟨j, hj, e⟩ := pk_andE (xs (nI i).toNatClampNeg) (m := 63) 6 (by decide)
    rw [e]
    match j, hj with
    | 0, _ => exact i_tableIn (off := 175) C dL_law_33 (by decide +kernel) (by decide +kernel) (by decide +kernel) (by decide) (law_c0 C X h6 hL hC hM hcont)
    | 1, _ => exact i_tableIn (off := 218) C dL_law_33 (by decide +kernel) (by decide +kernel) (by decide +kernel) (by decide) (law_c1 C X h6 hL hC hM hcont)
    | 2, _ => exact i_tableIn (off := 251) C dL_law_33 (by decide +kernel) (by decide +kernel) (by decide +kernel) (by decide) (law_c2 C X h6 hL hC hM hcont)
    | 3, _ => exact i_tableIn (off := 284) C dL_law_33 (by decide +kernel) (by decide +kernel) (by decide +kernel) (by decide) (law_c3 C X h6 hL hC hM hcont)
    | 4, _ => exact i_tableIn (off := 307) C dL_law_33 (by decide +kernel) (by decide +kernel) (by decide +kernel) (by decide) (law_c4 C X h6 hL hC hM hcont)
    | 5, _ => exact i_tableIn (off := 340) C dL_law_33 (by decide +kernel) (by decide +kernel) (by decide +kernel) (by decide) (law_c5 C X h6 hL hC hM hcont)
    | 6, _ => exact i_tableIn (off := 373) C dL_law_33 (by decide +kernel) (by decide +kernel) (by decide +kernel) (by decide) (law_c6 C X h6 hL hC hM hcont)
    | 7, _ => exact i_tableIn (off := 406) C dL_law_33 (by decide +kernel) (by decide +kernel) (by decide +kernel) (by decide) (law_c7 C X h6 hL hC hM hcont)
    | 8, _ => exact i_tableIn (off := 439) C dL_law_33 (by decide +kernel) (by decide +kernel) (by decide +kernel) (by decide) (law_c8 C X h6 hL hC hM hcont)
    | 9, _ => exact i_tableIn (off := 502) C dL_law_33 (by decide +kernel) (by decide +kernel) (by decide +kernel) (by decide) (law_c9 C X h6 hL hC hM hcont)
    | 10, _ => exact i_tableIn (off := 525) C dL_law_33 (by decide +kernel) (by decide +kernel) (by decide +kernel) (by decide) (law_c10 C X h6 hL hC hM hcont)
    | 11, _ => exact i_tableIn (off := 578) C dL_law_33 (by decide +kernel) (by decide +kernel) (by decide +kernel) (by decide) (law_c11 C X h6 hL hC hM hcont)
    | 12, _ => exact i_tableIn (off := 601) C dL_law_33 (by decide +kernel) (by decide +kernel) (by decide +kernel) (by decide) (law_c12 C X h6 hL hC hM hcont)
    | 13, _ => exact i_tableIn (off := 624) C dL_law_33 (by decide +kernel) (by decide +kernel) (by decide +kernel) (by decide) (law_c13 C X h6 hL hC hM hcont)
    | 14, _ => exact i_tableIn (off := 647) C dL_law_33 (by decide +kernel) (by decide +kernel) (by decide +kernel) (by decide) (law_c14 C X h6 hL hC hM hcont)
    | 15, _ => exact i_tableIn (off := 660) C dL_law_33 (by decide +kernel) (by decide +kernel) (by decide +kernel) (by decide) (law_c15 C X h6 hL hC hM hcont)
    | 16, _ => exact i_tableIn (off := 703) C dL_law_33 (by decide +kernel) (by decide +kernel) (by decide +kernel) (by decide) (law_c16 C X h6 hL hC hM hcont)
    | 17, _ => exact i_tableIn (off := 746) C dL_law_33 (by decide +kernel) (by decide +kernel) (by decide +kernel) (by decide) (law_c17 C X h6 hL hC hM hcont)
    | 18, _ => exact i_tableIn (off := 779) C dL_law_33 (by decide +kernel) (by decide +kernel) (by decide +kernel) (by decide) (law_c18 C X h6 hL hC hM hcont)
    | 19, _ => exact i_tableIn (off := 822) C dL_law_33 (by decide +kernel) (by decide +kernel) (by decide +kernel) (by decide) (law_c19 C X h6 hL hC hM hcont)
    | 20, _ => exact i_tableIn (off := 855) C dL_law_33 (by decide +kernel) (by decide +kernel) (by decide +kernel) (by decide) (law_c20 C X h6 hL hC hM hcont)
    | 21, _ => exact i_tableIn (off := 888) C dL_law_33 (by decide +kernel) (by decide +kernel) (by decide +kernel) (by decide) (law_c21 C X h6 hL hC hM hcont)
    | 22, _ => exact i_tableIn (off := 941) C dL_law_33 (by decide +kernel) (by decide +kernel) (by decide +kernel) (by decide) (law_c22 C X h6 hL hC hM hcont)
    | 23, _ => exact i_tableIn (off := 1005) C dL_law_33 (by decide +kernel) (by decide +kernel) (by decide +kernel) (by decide) (law_c23 C X h6 hL hC hM hcont)
    | 24, _ => exact i_tableIn (off := 1048) C dL_law_33 (by decide +kernel) (by decide +kernel) (by decide +kernel) (by decide) (law_c24 C X h6 hL hC hM hcont)
    | 25, _ => exact i_tableIn (off := 1091) C dL_law_33 (by decide +kernel) (by decide +kernel) (by decide +kernel) (by decide) (law_c25 C X h6 hL hC hM hcont)
    | 26, _ => exact i_tableIn (off := 1124) C dL_law_33 (by decide +kernel) (by decide +kernel) (by decide +kernel) (by decide) (law_c26 C X h6 hL hC hM hcont)
    | 27, _ => exact i_tableIn (off := 1147) C dL_law_33 (by decide +kernel) (by decide +kernel) (by decide +kernel) (by decide) (law_c27 C X h6 hL hC hM hcont)
    | 28, _ => exact i_tableIn (off := 1190) C dL_law_33 (by decide +kernel) (by decide +kernel) (by decide +kernel) (by decide) (law_c28 C X h6 hL hC hM hcont)
    | 29, _ => exact i_tableIn (off := 1213) C dL_law_33 (by decide +kernel) (by decide +kernel) (by decide +kernel) (by decide) (law_c29 C X h6 hL hC hM hcont)
    | 30, _ => exact i_tableIn (off := 1256) C dL_law_33 (by decide +kernel) (by decide +kernel) (by decide +kernel) (by decide) (law_c30 C X h6 hL hC hM hcont)
    | 31, _ => exact i_tableIn (off := 1299) C dL_law_33 (by decide +kernel) (by decide +kernel) (by decide +kernel) (by decide) (law_c31 C X h6 hL hC hM hcont)
    | 32, _ => exact i_tableIn (off := 1362) C dL_law_33 (by decide +kernel) (by decide +kernel) (by decide +kernel) (by decide) (law_c32 C X h6 hL hC hM hcont)
    | 33, _ => exact i_tableIn (off := 1385) C dL_law_33 (by decide +kernel) (by decide +kernel) (by decide +kernel) (by decide) (law_c33 C X h6 hL hC hM hcont)
    | 34, _ => exact i_tableIn (off := 1408) C dL_law_33 (by decide +kernel) (by decide +kernel) (by decide +kernel) (by decide) (law_c34 C X h6 hL hC hM hcont)
    | 35, _ => exact i_tableIn (off := 1421) C dL_law_33 (by decide +kernel) (by decide +kernel) (by decide +kernel) (by decide) (law_c35 C X h6 hL hC hM hcont)
    | 36, _ => exact i_tableIn (off := 1434) C dL_law_33 (by decide +kernel) (by decide +kernel) (by decide +kernel) (by decide) (law_c36 C X h6 hL hC hM hcont)
    | 37, _ => exact i_tableIn (off := 1457) C dL_law_33 (by decide +kernel) (by decide +kernel) (by decide +kernel) (by decide) (law_c37 C X h6 hL hC hM hcont)
    | 38, _ => exact i_tableIn (off := 1470) C dL_law_33 (by decide +kernel) (by decide +kernel) (by decide +kernel) (by decide) (law_c38 C X h6 hL hC hM hcont)
    | 39, _ => exact i_tableIn (off := 1493) C dL_law_33 (by decide +kernel) (by decide +kernel) (by decide +kernel) (by decide) (law_c39 C X h6 hL hC hM hcont)
    | q + 40, hq =>
      refine i_tableOut C dL_law_33 (Or.inr ?_) (by decide) (hcont f g hC hM)
      rw [nI_toInt (by omega)]
      omega
def nwI : List Nat := [84, 89, 91, 93, 130, 134, 136, 138, 139, 140, 142, 143, 145, 156, 157, 159, 161, 162, 164, 165, 167, 168, 170, 173, 175, 176, 178, 180, 182, 184, 186, 188, 190, 192, 194, 239, 241, 250, 252, 280, 282, 298, 303, 306, 321, 326, 328, 330, 331, 376]
theorem nwE : NW = nwI.filterMap (fun i => lw_tbl[i]?) := by decide +kernel
theorem nwT {w : Cond} (h : w ∈ NW) : w ∈ lw_tbl := by
  rw [nwE] at h
  obtain ⟨i, -, hi⟩ := List.mem_filterMap.mp h
  exact List.mem_of_getElem? hi
theorem aoF : Cond.arrayOver (.object RX0) ∈ lw_tbl := List.mem_of_getElem? (i := 102) (by decide +kernel)
theorem aoS : Cond.arrayOver (.object RX3) ∈ lw_tbl := List.mem_of_getElem? (i := 319) (by decide +kernel)
theorem lySt : Cond.laysStatic "CatchBars$Voices" "BODIES" "[I" ∈ lw_tbl := List.mem_of_getElem? (i := 747) (by decide +kernel)
theorem knD {s : State} {args : Array Value} (hts : ∀ w ∈ GW, w.before args s = true) : ∃ D : va_G, ∀ (k : Nat) (q : vw_C), vwCl[k]? = some q → u_Kn s q.1 q.2.1 q.2.2 (D.1 k) (D.2 k) := by
  have h : ∀ k : Nat, ∃ p : ClassId × (Nat → Nat), ∀ q : vw_C, vwCl[k]? = some q → u_Kn s q.1 q.2.1 q.2.2 p.1 p.2 := by
    intro k
    match k with
    | 0 => obtain ⟨c, i, h⟩ := u_known hts gwi0 (hts _ tw_74); exact ⟨(c, i), fun q hq => by cases hq; exact h⟩
    | 1 => obtain ⟨c, i, h⟩ := u_known hts gwi1 (hts _ tw_49); exact ⟨(c, i), fun q hq => by cases hq; exact h⟩
    | 2 => obtain ⟨c, i, h⟩ := u_known hts gwi2 (hts _ tw_218); exact ⟨(c, i), fun q hq => by cases hq; exact h⟩
    | 3 => obtain ⟨c, i, h⟩ := u_known hts gwi3 (hts _ tw_265); exact ⟨(c, i), fun q hq => by cases hq; exact h⟩
    | 4 => obtain ⟨c, i, h⟩ := u_known hts gwi4 (hts _ tw_28); exact ⟨(c, i), fun q hq => by cases hq; exact h⟩
    | 5 => obtain ⟨c, i, h⟩ := u_known hts gwi5 (hts _ tw_178); exact ⟨(c, i), fun q hq => by cases hq; exact h⟩
    | 6 => obtain ⟨c, i, h⟩ := u_known hts gwi6 (hts _ tw_242); exact ⟨(c, i), fun q hq => by cases hq; exact h⟩
    | 7 => obtain ⟨c, i, h⟩ := u_known hts gwi7 (hts _ tw_22); exact ⟨(c, i), fun q hq => by cases hq; exact h⟩
    | 8 => obtain ⟨c, i, h⟩ := u_known hts gwi8 (hts _ tw_14); exact ⟨(c, i), fun q hq => by cases hq; exact h⟩
    | 9 => obtain ⟨c, i, h⟩ := u_known hts gwi9 (hts _ tw_789); exact ⟨(c, i), fun q hq => by cases hq; exact h⟩
    | n + 10 => exact ⟨(0, fun _ => 0), fun q hq => by simp [vwCl] at hq⟩
  obtain ⟨F, hF⟩ := Classical.axiomOfChoice h
  exact ⟨(fun k => (F k).1, fun k => (F k).2), hF⟩
theorem arrI {s : State} {args : Array Value} (h : (Cond.arrayClass .int).before args s = true) : ∃ cA : ClassId, ArrOfT s cA .int ∧ va_RA s cA .int := by
  obtain ⟨c, k, comp, h1, h2, h3⟩ := Cond.arrayClass_spec h
  exact ⟨c, fun N z => ⟨(fun k h => by cases h), k, h2, comp, h3⟩, h1⟩
theorem arrO {s : State} {args : Array Value} {C : String} (h : (Cond.arrayOver (.object C)).before args s = true) : ∃ cA : ClassId, ArrOfT s cA (.object C) ∧ va_RA s cA (.object C) := by
  obtain ⟨comp, c, k, h1, h2, h3, h4, h5⟩ := Cond.arrayOver_spec h
  exact ⟨c, fun N z => ⟨(fun k h => by cases h), k, h3, comp, h4⟩, k, comp, h3, h4, h1, h5⟩
theorem KI0 {s : State} {args : Array Value} (hts : ∀ w ∈ lw_tbl, w.before args s = true) : ∃ (D : va_G) (t : C3), KI D t s := by
  have htG : ∀ w ∈ GW, w.before args s = true := fun w hw => hts w (List.mem_filter.mp hw).1
  obtain ⟨D, hD⟩ := knD htG
  obtain ⟨c1, a1⟩ := arrI (htG _ tw_73)
  obtain ⟨c2, a2⟩ := arrO (hts _ aoF)
  obtain ⟨c3, a3⟩ := arrO (hts _ aoS)
  refine ⟨D, (c1, c2, c3), ⟨hD, fun k q hk => ?_⟩, fun w hw => va_Nw.of (List.all_eq_true.mp NW_tabs w hw) (hts w (nwT hw)), va_AO.of (hts _ aoF), va_AO.of (hts _ aoS)⟩
  match k, hk with
  | 0, hk => cases hk; exact a1
  | 1, hk => cases hk; exact a2
  | 2, hk => cases hk; exact a3
  | n + 3, hk => simp at hk
abbrev tmB : Term := Term.static "CatchBars$Voices" "BODIES" "[I"
theorem bvC : (List.range 28).all (fun j => decide (Cond.eq (Term.elem tmB (.int (Int32.ofNat j))) (.int (BV j)) ∈ flatC (Jvm.Cond.and given_1 narrow_1))) = true := by decide +kernel
theorem statB {s : State} {args : Array Value} {A : Nat → Prop} (hts : ∀ w ∈ lw_tbl, w.before args s = true) (hgv : (Jvm.Cond.and given_1 narrow_1).before args s = true) (hA : ∀ a : Nat, a < s.heap.size → ¬ A a) : ∃ tB : Nat, va_Z "CatchBars$Voices" "BODIES" "[I" (.ref tB) A s s.heap ∧ va_T .int tB 28 (fun j => .int (BV j)) A s s.heap := by
  have hs := flat_of_before _ hgv
  have harr : (Cond.arrayOf tmB .int).before args s = true := hs _ (by decide +kernel)
  have hlen : (Cond.eq (.length tmB) (.int 28)).before args s = true := hs _ (by decide +kernel)
  obtain ⟨t, ht, hT⟩ := va_Tof (tm := tmB) (N := 28) (f := fun j => .int (BV j)) (A := A) (by decide) harr (va_eqt hlen) (fun j hj => va_eqt (hs _ (of_decide_eq_true (List.all_eq_true.mp bvC j (List.mem_range.mpr hj))))) hA
  exact ⟨t, va_Zof (hts _ lySt) (hts _ (List.mem_filter.mp tw_8).1) ht hA, hT⟩
theorem va_Dl {A : Nat → Prop} {w1 w2 : va_W} (h : va_D A (w1 ++ w2)) : va_D A w1 ∧ va_D A w2 := by
  obtain ⟨h1, h2⟩ := va_Dn.mp h
  rw [List.map_append] at h1
  have h3 := List.nodup_append.mp h1
  exact ⟨va_Dn.mpr ⟨h3.1, fun q hq => h2 q (List.mem_append.mpr (Or.inl hq))⟩, va_Dn.mpr ⟨h3.2.1, fun q hq => h2 q (List.mem_append.mpr (Or.inr hq))⟩⟩
theorem EI_of {A : Nat → Prop} {E : Ev} {la : List CD} {f : Fn} (h : va_D A (cw E la f)) : EI E la ∧ ∀ q, EA E la q → A q := by
  refine ⟨fun i j hi hj e => ?_, fun q hq => ?_⟩
  · exact h.1 i j _ _ (cw_get (List.getElem?_eq_getElem hi)) (cw_get (List.getElem?_eq_getElem hj)) e
  · obtain ⟨x, hx, rfl⟩ := List.mem_map.mp (EA_mem (f := f).mp hq)
    exact (va_Dn.mp h).2 x hx
theorem KK_of {E : Ev} {la : List CD} {f : Fn} {t : C3} {s : State} {args : Array Value} {tB : Nat} (hK : KI E.1 t s) (h1 : E.2.2.1 = t.1) (h2 : E.2.2.2.1 0 = t.2.1) (h3 : E.2.2.2.1 1 = t.2.2) (hD : va_D (fun q : Nat => s.heap.size ≤ q) (cw E la f)) (hZ : va_Z "CatchBars$Voices" "BODIES" "[I" (.ref E.2.2.2.2) (fun q : Nat => s.heap.size ≤ q) s s.heap) (hT : va_T .int E.2.2.2.2 28 (fun j => .int (BV j)) (fun q : Nat => s.heap.size ≤ q) s s.heap) : KK E la s := by
  obtain ⟨hI, hA⟩ := EI_of hD
  refine ⟨?_, hZ.narrow hA, hT.narrow hA, hK.2.1, hI⟩
  have e : tysE E = [(t.1, .int), (t.2.1, .object RX0), (t.2.2, .object RX3)] := by
    unfold tysE
    rw [h1, h2, h3]
  rw [e]
  exact hK.1
/-- what the world's addresses are may be used -/
theorem i_D {Y : Yt} {k sl : Nat} {ws : va_W} {lv : List (Nat × Value)} {pc : Nat} {st : List Value} (g : va_D (yA Y) ws → IG Y k sl ws lv pc st) : IG Y k sl ws lv pc st := by
  obtain ⟨p, l, e, R, s, m, args, below, meth, c, D, t, n', A, Q⟩ := Y
  intro H locs ls hP hD hS hl
  exact g hD H locs ls hP hD hS hl
set_option maxHeartbeats 4000000 in
set_option maxRecDepth 100000 in
theorem law_walk {Y : Yt} {b L tB : Nat} {xs : Nat → Int32} (C : CY Y RL cL_law 4) (hR : yR Y = room_1) (hAe : yA Y = fun q : Nat => (yS Y).heap.size ≤ q) (hK : KI (yD Y) (yc Y) (yS Y)) (hZ : va_Z "CatchBars$Voices" "BODIES" "[I" (.ref tB) (fun q : Nat => (yS Y).heap.size ≤ q) (yS Y) (yS Y).heap) (hT : va_T .int tB 28 (fun j => .int (BV j)) (fun q : Nat => (yS Y).heap.size ≤ q) (yS Y) (yS Y).heap) (hX : va_X b L xs (yS Y) (yS Y).heap) (hbl : b < (yS Y).heap.size) (hL : L ≤ 3072)
    (hend : ∀ (ws : va_W) (lv : List (Nat × Value)), IG Y 68 sLW ws lv 1555 []) : IG Y 0 0 [] [(0, .ref b)] 0 [] := by
  have hF : ∀ a, a ≤ 2048 → a ≤ (yR Y).frames := by rw [hR]; exact fun _ h => h
  have hL40 : ∀ a, a ≤ 84000 → a ≤ (yR Y).locals := by rw [hR]; exact fun _ h => h
  have hkc : ∀ a, a ≤ 68 → a ≤ (yR Y).cells := by rw [hR]; exact fun _ h => Nat.le_trans h (Nat.le_of_ble_eq_true rfl)
  have hks : ∀ a, a ≤ 1915 → a ≤ (yR Y).slots := by rw [hR]; exact fun _ h => Nat.le_trans h (Nat.le_of_ble_eq_true rfl)
  refine i_new (Cn := RX8) (T := TX8) (N := 8) (ci := 8) (fs := [.null, .null, .null, .null, .null, .null, .null, .int 0]) (ty := tyX8) C gwi8 tyX8_ok tw_13 tw_14 tw_1 rfl (lt_s (lt_s (lt_s (lt_s (lt_s (lt_s (lt_s (lt_s lt_0 rfl) rfl) rfl) rfl) rfl) rfl) rfl) rfl) (hkc _ (Nat.le_of_ble_eq_true rfl)) (hks _ (Nat.le_of_ble_eq_true rfl)) dL_law_0 rfl (fun a => ?_)
  refine i_dup C rfl dL_law_3 rfl ?_
  refine i_callI (na := 0) (As := []) (wr := []) C tw_15 tw_16 tw_1 tw_17 (by decide) rfl ⟨hF _ (Nat.le_of_ble_eq_true rfl), hL40 _ (Nat.le_of_ble_eq_true rfl)⟩ rfl (Nat.le_of_ble_eq_true rfl) (cX8 a) ⟨hkc _ (Nat.le_of_ble_eq_true rfl), hks _ (Nat.le_of_ble_eq_true rfl)⟩ dL_law_4 rfl (fun q1 => ?_) rfl
  refine i_astore_n (lv' := [(1, .ref a), (0, .ref b)]) C dL_law_7 (by decide) rfl rfl ?_
  refine i_new (Cn := RX9) (T := TX9) (N := 26) (ci := 9) (fs := [.null, .null, .int 0, .null, .int 0, .int 0, .int 0, .int 0, .int 0, .null, .int 0, .int 0, .int 0, .int 0, .int 0, .int 0, .long 0, .int 0, .null, .null, .int 0, .int 0, .null, .null, .null, .null]) (ty := tyX9) C gwi9 tyX9_ok tw_788 tw_789 tw_10 rfl (lt_s (lt_s (lt_s (lt_s (lt_s (lt_s (lt_s (lt_s (lt_s (lt_s (lt_s (lt_s (lt_s (lt_s (lt_s (lt_s (lt_s (lt_s (lt_s (lt_s (lt_s (lt_s (lt_s (lt_s (lt_s (lt_s lt_0 rfl) rfl) rfl) rfl) rfl) rfl) rfl) rfl) rfl) rfl) rfl) rfl) rfl) rfl) rfl) rfl) rfl) rfl) rfl) rfl) rfl) rfl) rfl) rfl) rfl) rfl) (hkc _ (Nat.le_of_ble_eq_true rfl)) (hks _ (Nat.le_of_ble_eq_true rfl)) dL_law_8 rfl (fun a2 => ?_)
  refine i_dup C rfl dL_law_11 rfl ?_
  refine i_callI (na := 0) (As := []) (wr := [] ++ wsX8 (yc Y) a q1) C tw_790 tw_791 tw_10 tw_792 (by decide) rfl ⟨hF _ (Nat.le_of_ble_eq_true rfl), hL40 _ (Nat.le_of_ble_eq_true rfl)⟩ rfl (Nat.le_of_ble_eq_true rfl) (cX9 a2) ⟨hkc _ (Nat.le_of_ble_eq_true rfl), hks _ (Nat.le_of_ble_eq_true rfl)⟩ dL_law_12 rfl (fun q2 => ?_) rfl
  refine i_astore_n (lv' := [(2, .ref a2), (1, .ref a), (0, .ref b)]) C dL_law_15 (by decide) rfl rfl ?_
  refine i_iconst (v := (0 : Int32)) C (by decide) dL_law_16 rfl ?_
  refine i_istore_n (lv' := [(3, .int 0), (2, .ref a2), (1, .ref a), (0, .ref b)]) C dL_law_17 (by decide) rfl rfl ?_
  have pm : (([] ++ wsX8 (yc Y) a q1) ++ wsX9 (yc Y) a2 q2).Perm (WW (mkE (yD Y) (yc Y) tB (adC a q1)) (mkE (yD Y) (yc Y) tB (adM a2 q2)) fC0 gM0) := (permC (yD Y) (yc Y) tB a q1).append ((permM (yD Y) (yc Y) tB a2 q2).trans (by rw [List.append_nil]))
  refine i_perm pm ?_
  have go : va_D (yA Y) (WW (mkE (yD Y) (yc Y) tB (adC a q1)) (mkE (yD Y) (yc Y) tB (adM a2 q2)) fC0 gM0) → IG Y 68 sLW (WW (mkE (yD Y) (yc Y) tB (adC a q1)) (mkE (yD Y) (yc Y) tB (adM a2 q2)) fC0 gM0) (LV (mkE (yD Y) (yc Y) tB (adC a q1)) (mkE (yD Y) (yc Y) tB (adM a2 q2)) b (nI 0)) 18 [] := by
    intro hD
    rw [hAe] at hD
    have hD1 := (va_Dl hD).1
    have hD2 := (va_Dl (va_Dl hD).2).1
    have X : LX Y (mkE (yD Y) (yc Y) tB (adC a q1)) (mkE (yD Y) (yc Y) tB (adM a2 q2)) b L xs := ⟨rfl, rfl, KK_of (args := #[]) (tB := tB) hK rfl rfl rfl hD1 hZ hT, KK_of (args := #[]) (tB := tB) hK rfl rfl rfl hD2 hZ hT, hR, fun q hq => by rw [hAe]; exact Nat.not_le.mpr hq, hX, hbl⟩
    exact law_loop C X hL (fun f g x => hend _ _) (L + 1) 0 fC0 gM0 (Nat.zero_le L) (by omega) Cpl0 Inv0
  rw [nI_0] at go
  exact i_D go
set_option maxHeartbeats 4000000 in
set_option maxRecDepth 100000 in
/-- YOUR PART: from the entry, for every script of at most 3072 ints, the law comes to its end with true ('hflags': the launch's flags, for a law that throws: no stack traces) -/
theorem whole_start {p : Program} {e : Env} {s : State} {m : MethodId} {below : List Frame} {meth : Method} {c : Code} (l : Launch) (hflags : l.flags = flags0) {b L : Nat} {xs : Nat → Int32} (hL : L ≤ 3072) (C0 : lw_At p s m meth c b L xs) : W p l e room_1 s m #[Value.ref b] below meth c s.heap [] 0 0 (lw_Z below #[Value.ref b] s) (entryFrame m ([Value.ref b] : List Value).toArray 4) := by
  obtain ⟨hx, hb, hr, hml, hown, hts, hX, hbl, hlocks, hgv⟩ := C0
  have htG : ∀ w ∈ GW, w.before #[Value.ref b] s = true := fun w hw => hts w (List.mem_filter.mp hw).1
  obtain ⟨D, t, hK⟩ := KI0 hts
  obtain ⟨tB, hZ, hT⟩ := statB (A := fun q : Nat => s.heap.size ≤ q) hts hgv (fun a ha => Nat.not_le.mpr ha)
  have hl := lv_entry ([.ref b]) (n := 4) (Nat.le_of_ble_eq_true rfl)
  rw [lg_entry_eq]
  generalize (lg_sl ([.ref b]) ++ List.replicate (4 - (lg_sl ([.ref b])).length) Slot.unset).toArray = ls at hl ⊢
  have hl : lv_has ls 4 [(0, .ref b)] := hl
  have C : CY (p, l, e, room_1, s, m, #[Value.ref b], below, meth, c, D, t, 4, (fun q : Nat => s.heap.size ≤ q), lw_Z below #[Value.ref b] s) RL cL_law 4 := ⟨hx, hb, hml, hown, htG, hK, fun q h => h, rfl⟩
  refine law_walk C rfl rfl hK hZ hT hX hbl hL (fun ws lv => ?_) s.heap [] ls (fun k q h => by simp at h) ⟨fun i j p q h => by simp at h, fun k q h => by simp at h⟩ va_S.rf hl
  refine i_iconst (v := (1 : Int32)) C (by decide) dL_law_1555 rfl ?_
  intro H locs ls hP hD hS hl
  refine va_forget (fun q hq => hS.2.2 q hq) ?_
  refine W.widen (k := 600000) (n := 7302250) (Nat.le_of_ble_eq_true rfl) (Nat.le_of_ble_eq_true rfl) ?_
  exact lw_ret hx hb hr hlocks dL_law_1556
