/-! calls out of the law -/
theorem cw_fst (E : Ev) (la : List CD) (f f' : Fn) : (cw E la f).map Prod.fst = (cw E la f').map Prod.fst := by
  apply List.ext_getElem?
  intro i
  simp only [cw, List.getElem?_map, List.getElem?_mapIdx, Option.map_map]
  rfl
theorem EA_mem {E : Ev} {la : List CD} {f : Fn} {a : Nat} : EA E la a ↔ a ∈ (cw E la f).map Prod.fst := by
  constructor
  · rintro ⟨k, hk, rfl⟩
    refine List.mem_map.mpr ⟨(E.2.1 k, cel E (f k) la[k]), List.mem_of_getElem? (i := k) ?_, rfl⟩
    exact cw_get (List.getElem?_eq_getElem hk)
  · intro h
    obtain ⟨x, hx, rfl⟩ := List.mem_map.mp h
    obtain ⟨i, hi⟩ := List.getElem?_of_mem hx
    simp only [cw, List.getElem?_mapIdx, Option.map_eq_some_iff] at hi
    obtain ⟨d, h1, rfl⟩ := hi
    exact ⟨i, (List.getElem?_eq_some_iff.mp h1).1, rfl⟩
section LWC
variable {Y : Yt} {own : String} {cc : ByteArray} {n k sl : Nat} {lv : List (Nat × Value)} {pc q : Nat} {st : List Value}
theorem i_sld {ws : va_W} {b L : Nat} {xs : Nat → Int32} {x : Int32} (C : CY Y own cc n) (hX : va_X b L xs (yS Y) (yS Y).heap) (hbl : b < (yS Y).heap.size) (hbA : ¬ yA Y b) (hi : vp_in x L) (hd : decode cc pc = .ok (.iaload, 1)) (hq : pc + 1 = q) (g : IG Y k sl ws lv q (.int (xs x.toNatClampNeg) :: st)) : IG Y k sl ws lv pc (.int x :: .ref b :: st) := by
  obtain ⟨p, l, e, R9, s, m, args, below, meth, c, D, t, n', A, Q⟩ := Y
  obtain ⟨hx, hb, hml, hown, hts, hK, hA, rfl⟩ := C
  subst hq
  intro H locs ls hP hD hS hl
  exact va_sld hx hb hX hbl hbA hS hi hd (g H locs ls hP hD hS hl)
theorem i_slen {ws : va_W} {b L : Nat} {xs : Nat → Int32} (C : CY Y own cc n) (hX : va_X b L xs (yS Y) (yS Y).heap) (hbl : b < (yS Y).heap.size) (hbA : ¬ yA Y b) (hd : decode cc pc = .ok (.arraylength, 1)) (hq : pc + 1 = q) (g : IG Y k sl ws lv q (.int (nI L) :: st)) : IG Y k sl ws lv pc (.ref b :: st) := by
  obtain ⟨p, l, e, R9, s, m, args, below, meth, c, D, t, n', A, Q⟩ := Y
  obtain ⟨hx, hb, hml, hown, hts, hK, hA, rfl⟩ := C
  subst hq
  intro H locs ls hP hD hS hl
  exact va_slen hx hb hX hbl hbA hS hd (g H locs ls hP hD hS hl)
theorem i_callE {y : MethodName} {b : ByteArray} {n2 : Nat} {ret2 : Option FieldType} {d2 i na ci : Nat} {fl : List Nat} {T : u_T} {N : Nat} {As : List Value} {post : Option Value → Fn → Prop} {E : Ev} {la : List CD} {f : Fn} {wl wr : va_W} (C : CY Y own cc n) (hE : E.1 = yD Y) (hKK : KK E la (yS Y)) (hAs : ∀ q, q < (yS Y).heap.size → ¬ yA Y q) (hce : k ≤ (yR Y).cells ∧ sl ≤ (yR Y).slots) (hR : d2 + 1 ≤ (yR Y).frames ∧ 8 + (n2 + 11) + 40 * d2 ≤ (yR Y).locals) (hL : Cond.methodLink own i y ∈ GW) (hin : Cond.instanceMethod y ∈ GW) (hse : Cond.selects y.cls y y ∈ GW) (hi : Cond.initialized y.cls ∈ GW) (hco : Cond.code y b n2 ret2 ∈ GW) (hy : y.cls ≠ "java/lang/invoke/MethodHandle" ∧ y.cls ≠ "java/lang/invoke/VarHandle" ∧ (parseMethodDescriptor y.desc).map (fun d => d.parameters.length) = some na) (hna : As.length = na) (hst : (st.map fun v => v.category).sum ≤ 8) (hk : la[0]? = some (.inl (ci, fl))) (hc : vwCl[ci]? = some (y.cls, T, N)) (hct : CT (yl Y) E la y b n2 ret2 d2 (.ref (E.2.1 0) :: As) f post) (hd : decode cc pc = .ok (.invokevirtual i, 3)) (hq : pc + 3 = q) (gk : ∀ (v : Option Value) (f' : Fn), post v f' → IG Y k sl (wl ++ (cw E la f' ++ wr)) lv q (v.toList ++ st)) {st0 : List Value} (h0 : st0 = As.reverse ++ .ref (E.2.1 0) :: st) : IG Y k sl (wl ++ (cw E la f ++ wr)) lv pc st0 := by
  subst h0
  obtain ⟨p, l, e, R, s, m, args, below, meth, c, D, t, n', A, Q⟩ := Y
  obtain ⟨hx, hb, hml, hown, hts, hK, hA, rfl⟩ := C
  subst hq
  have hE : E.1 = D := hE
  subst hE
  intro H locs ls hP hD hS hl
  have hPm := va_Pm.mp hP
  have hPE : va_P E.1 vwCl (cw E la f) H := va_Pm.mpr fun x hx => hPm x (List.mem_append.mpr (Or.inr (List.mem_append.mpr (Or.inl hx))))
  have hSE : va_S (EA E la) s.heap H [] := ⟨hS.1, fun q h1 _ => hS.2.1 q h1 (hAs q h1), fun _ h => by cases h⟩
  have hEA : ∀ q, EA E la q → A q := fun q hq => by
    obtain ⟨x, hx, rfl⟩ := List.mem_map.mp (EA_mem (f := f).mp hq)
    exact (va_Dn.mp hD).2 x (List.mem_append.mpr (Or.inr (List.mem_append.mpr (Or.inl hx))))
  have hnd := (va_Dn.mp hD).1
  rw [List.map_append, List.map_append] at hnd
  have hout : ∀ x, x ∈ wl ∨ x ∈ wr → ¬ EA E la x.1 := by
    intro x hx hq
    have hm := EA_mem (f := f).mp hq
    rcases hx with hx | hx
    · have := (List.nodup_append.mp hnd).2.2 x.1 (List.mem_map.mpr ⟨x, hx, rfl⟩) x.1 (List.mem_append.mpr (Or.inl hm))
      exact this rfl
    · have h2 := (List.nodup_append.mp hnd).2.1
      have := (List.nodup_append.mp h2).2.2 x.1 hm x.1 (List.mem_map.mpr ⟨x, hx, rfl⟩)
      exact this rfl
  have hct : CT l E la y b n2 ret2 d2 (.ref (E.2.1 0) :: As) f post := hct
  have hrun : va_Run p l e R s m args below meth c H locs k sl 0 0 (F0 m pc ls (As.reverse ++ .ref (E.2.1 0) :: st)) st (QC E la post (Value.ref (E.2.1 0) :: As).toArray) (EA E la) := va_runV (As := As) (rest := st) ⟨hx, hb, hml, hown, hts⟩ hct ⟨callB_of na hts (gw_good hco) rfl rfl rfl (hts _ hi) (hts _ hL) hy ⟨hR.1, hR.2⟩, hts _ hin, hts _ hse⟩ ⟨fun a U g mk z => ⟨z.1, z.2.1, KK.blind z.2.2⟩, va_recv hKK.1 hPE hc (cw_get hk), fun U hU hW => ⟨rfl, by rw [hU]; exact hPE, KK.warm hU hW hSE hKK⟩⟩ rfl hna hl.1 rfl (lv_room hst) hd ⟨hce.1, hce.2⟩
  intro T hT X
  obtain ⟨v, st₀, t9, T', L, h0, X', hL2, e1, e2, ⟨⟨v', f', hv, hp, hb2⟩, hz, hk2⟩, st2⟩ := hrun T hT X
  cases hv
  rw [h0] at hz hk2
  have hP' : va_P E.1 vwCl (wl ++ (cw E la f' ++ wr)) T'.heap := va_Pm.mpr fun x hx => by
    have old : (x ∈ wl ∨ x ∈ wr) → va_at E.1 vwCl x T'.heap := fun hw => by
      have hm : x ∈ wl ++ (cw E la f ++ wr) := by
        rcases hw with h | h
        · exact List.mem_append.mpr (Or.inl h)
        · exact List.mem_append.mpr (Or.inr (List.mem_append.mpr (Or.inr h)))
      refine (hPm x hm).kept ?_
      rw [e1]
      exact hk2 x.1 (hPm x hm).lt (hout x hw)
    rcases List.mem_append.mp hx with h | h
    · exact old (Or.inl h)
    · rcases List.mem_append.mp h with h | h
      · rw [e1]; exact va_Pm.mp hb2 x h
      · exact old (Or.inr h)
  have hD' : va_D A (wl ++ (cw E la f' ++ wr)) := by
    refine va_Dn.mpr ⟨?_, fun x hx => ?_⟩
    · rw [List.map_append, List.map_append, cw_fst E la f' f]; exact hnd
    · rcases List.mem_append.mp hx with h | h
      · exact (va_Dn.mp hD).2 x (List.mem_append.mpr (Or.inl h))
      · rcases List.mem_append.mp h with h | h
        · exact hEA _ (EA_mem (f := f').mpr (List.mem_map.mpr ⟨x, h, rfl⟩))
        · exact (va_Dn.mp hD).2 x (List.mem_append.mpr (Or.inr (List.mem_append.mpr (Or.inr h))))
  have hS' : va_S A s.heap T'.heap (locs ++ L) := ⟨Nat.le_trans hS.1 (by rw [e1]; exact hz), fun q h1 h2 => by
      rw [e1, hk2 q (Nat.lt_of_lt_of_le h1 hS.1) (fun z => h2 (hEA q z))]; exact hS.2.1 q h1 h2, fun q hq => by
      rcases List.mem_append.mp hq with h | h
      · exact hS.2.2 q h
      · exact hEA _ (hL2 q h)⟩
  obtain ⟨t2, a1, b1⟩ := gk v f' hp T'.heap (locs ++ L) ls hP' hD' hS' hl T' rfl X'
  exact ⟨t2, st2 t2 a1, b1⟩
end LWC
/-- what the law's walk knows -/
def LX (Y : Yt) (EC EM : Ev) (b L : Nat) (xs : Nat → Int32) : Prop := EC.1 = yD Y ∧ EM.1 = yD Y ∧ KK EC layC (yS Y) ∧ KK EM layM (yS Y) ∧ yR Y = room_1 ∧ (∀ q, q < (yS Y).heap.size → ¬ yA Y q) ∧ va_X b L xs (yS Y) (yS Y).heap ∧ b < (yS Y).heap.size
abbrev WW (EC EM : Ev) (f g : Fn) : va_W := cw EC layC f ++ (cw EM layM g ++ [])
abbrev LV (EC EM : Ev) (b : Nat) (x : Int32) : List (Nat × Value) := [(3, .int x), (2, .ref (EM.2.1 0)), (1, .ref (EC.2.1 0)), (0, .ref b)]
abbrev sLW : Nat := 1915
section LWD
variable {Y : Yt} {EC EM : Ev} {b L : Nat} {xs : Nat → Int32} {lv : List (Nat × Value)} {pc q : Nat} {st : List Value}
theorem i_callC {y : MethodName} {bb : ByteArray} {n2 : Nat} {ret2 : Option FieldType} {d2 i na : Nat} {As : List Value} {post : Option Value → Fn → Prop} {f g : Fn} (C : CY Y RL cL_law 4) (X : LX Y EC EM b L xs) (hd2 : d2 ≤ 100 ∧ n2 ≤ 20) (hL : Cond.methodLink RL i y ∈ GW) (hin : Cond.instanceMethod y ∈ GW) (hse : Cond.selects y.cls y y ∈ GW) (hi : Cond.initialized y.cls ∈ GW) (hco : Cond.code y bb n2 ret2 ∈ GW) (hy : y.cls ≠ "java/lang/invoke/MethodHandle" ∧ y.cls ≠ "java/lang/invoke/VarHandle" ∧ (parseMethodDescriptor y.desc).map (fun d => d.parameters.length) = some na) (hna : As.length = na) (hst : (st.map fun v => v.category).sum ≤ 8) (hcl : y.cls = RX8) (hct : CT (yl Y) EC layC y bb n2 ret2 d2 (.ref (EC.2.1 0) :: As) f post) (hd : decode cL_law pc = .ok (.invokevirtual i, 3)) (hq : pc + 3 = q) (gk : ∀ (v : Option Value) (f' : Fn), post v f' → IG Y 68 sLW (WW EC EM f' g) lv q (v.toList ++ st)) {st0 : List Value} (h0 : st0 = As.reverse ++ .ref (EC.2.1 0) :: st) : IG Y 68 sLW (WW EC EM f g) lv pc st0 := by
  obtain ⟨x1, x2, x3, x4, x5, x6, x7, x8⟩ := X
  refine i_ws (List.nil_append (cw EC layC f ++ (cw EM layM g ++ []))).symm ?_
  refine i_callE (wl := []) (E := EC) (la := layC) (f := f) (wr := cw EM layM g ++ []) C x1 x3 x6 (by rw [x5]; exact ⟨Nat.le_of_ble_eq_true rfl, Nat.le_of_ble_eq_true rfl⟩) (by rw [x5]; show d2 + 1 ≤ 2048 ∧ 8 + (n2 + 11) + 40 * d2 ≤ 84000; omega) hL hin hse hi hco hy hna hst (ci := 8) rfl (T := TX8) (N := 8) (by rw [hcl]; rfl) hct hd hq (fun v f' hp => ?_) h0
  exact i_ws (List.nil_append (cw EC layC f' ++ (cw EM layM g ++ []))) (gk v f' hp)
theorem i_callM {y : MethodName} {bb : ByteArray} {n2 : Nat} {ret2 : Option FieldType} {d2 i na : Nat} {As : List Value} {post : Option Value → Fn → Prop} {f g : Fn} (C : CY Y RL cL_law 4) (X : LX Y EC EM b L xs) (hd2 : d2 ≤ 100 ∧ n2 ≤ 20) (hL : Cond.methodLink RL i y ∈ GW) (hin : Cond.instanceMethod y ∈ GW) (hse : Cond.selects y.cls y y ∈ GW) (hi : Cond.initialized y.cls ∈ GW) (hco : Cond.code y bb n2 ret2 ∈ GW) (hy : y.cls ≠ "java/lang/invoke/MethodHandle" ∧ y.cls ≠ "java/lang/invoke/VarHandle" ∧ (parseMethodDescriptor y.desc).map (fun d => d.parameters.length) = some na) (hna : As.length = na) (hst : (st.map fun v => v.category).sum ≤ 8) (hcl : y.cls = RX9) (hct : CT (yl Y) EM layM y bb n2 ret2 d2 (.ref (EM.2.1 0) :: As) g post) (hd : decode cL_law pc = .ok (.invokevirtual i, 3)) (hq : pc + 3 = q) (gk : ∀ (v : Option Value) (g' : Fn), post v g' → IG Y 68 sLW (WW EC EM f g') lv q (v.toList ++ st)) {st0 : List Value} (h0 : st0 = As.reverse ++ .ref (EM.2.1 0) :: st) : IG Y 68 sLW (WW EC EM f g) lv pc st0 := by
  obtain ⟨x1, x2, x3, x4, x5, x6, x7, x8⟩ := X
  exact i_callE (wl := cw EC layC f) (E := EM) (la := layM) (f := g) (wr := []) C x2 x4 x6 (by rw [x5]; exact ⟨Nat.le_of_ble_eq_true rfl, Nat.le_of_ble_eq_true rfl⟩) (by rw [x5]; show d2 + 1 ≤ 2048 ∧ 8 + (n2 + 11) + 40 * d2 ≤ 84000; omega) hL hin hse hi hco hy hna hst (ci := 9) rfl (T := TX9) (N := 26) (by rw [hcl]; rfl) hct hd hq gk h0
/-- a cell of the script -/
theorem i_cell {ws : va_W} {x : Int32} (C : CY Y RL cL_law 4) (X : LX Y EC EM b L xs) (hi : vp_in x L) (hd : decode cL_law pc = .ok (.iaload, 1)) (hq : pc + 1 = q) {k sl : Nat} (g : IG Y k sl ws lv q (.int (xs x.toNatClampNeg) :: st)) : IG Y k sl ws lv pc (.int x :: .ref b :: st) :=
  i_sld C X.2.2.2.2.2.2.1 X.2.2.2.2.2.2.2 (X.2.2.2.2.2.1 b X.2.2.2.2.2.2.2) hi hd hq g
end LWD
theorem lg_same {x : Int64} : lg_cmp x x = 0 := by
  unfold lg_cmp
  rw [if_neg (Int64.lt_irrefl), if_pos rfl]
theorem lg_eq {x y : Int64} (h : x = y) : lg_cmp x y = 0 := by rw [h]; exact lg_same
