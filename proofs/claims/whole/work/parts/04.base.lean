/-! a system of fixed objects: its state is a function of place and slot; worlds, contracts, one row an instruction -/
abbrev Fn : Type := Nat → Nat → Int32
def up2 (f : Fn) (k j : Nat) (v : Int32) : Fn := fun a => if a = k then upd (f a) j v else f a
theorem up2_same (f : Fn) (k j : Nat) (v : Int32) : up2 f k j v k = upd (f k) j v := by simp [up2]
theorem up2_ne (f : Fn) {k j : Nat} {v : Int32} {a : Nat} (h : a ≠ k) : up2 f k j v a = f a := by simp [up2, h]
def mk64 (a b : Int32) : Int64 := Int64.ofBitVec (a.toBitVec ++ b.toBitVec)
def hi64 (v : Int64) : Int32 := Int32.ofBitVec (v.toBitVec.extractLsb' 32 32)
def lo64 (v : Int64) : Int32 := Int32.ofBitVec (v.toBitVec.extractLsb' 0 32)
theorem mk64_hl (v : Int64) : mk64 (hi64 v) (lo64 v) = v := by
  apply Int64.toBitVec_inj.mp
  simp only [mk64, hi64, lo64, Int64.toBitVec_ofBitVec, Int32.toBitVec_ofBitVec]
  apply BitVec.eq_of_getLsbD_eq
  intro i hi
  rw [BitVec.getLsbD_append]
  by_cases h : i < 32
  · simp [h]
  · have h2 : i - 32 < 32 := by omega
    have h3 : 32 + (i - 32) = i := by omega
    simp [h, h2, h3]
abbrev CD : Type := (Nat × List Nat) ⊕ (Nat ⊕ (Nat × List Nat))
abbrev Ev : Type := va_G × (Nat → Nat) × ClassId × (Nat → ClassId) × Nat
def fvl (ad : Nat → Nat) (r : Nat → Int32) (j c : Nat) : Value := if c = 0 then .int (r j) else if c = 1 then .long (mk64 (r j) (r (j + 100))) else .ref (ad (c - 2))
def cel (E : Ev) (r : Nat → Int32) (d : CD) : va_E := match d with
  | .inl (ci, fl) => .inr (ci, fl.mapIdx (fvl E.2.1 r))
  | .inr (.inl n) => .inl (E.2.2.1, n, .inl r)
  | .inr (.inr (w, rs)) => .inl (E.2.2.2.1 w, rs.length, .inr (.inr (.inr (.inr (fun i => (rs[i]?).map E.2.1)))))
def cw (E : Ev) (la : List CD) (f : Fn) : va_W := la.mapIdx (fun k d => (E.2.1 k, cel E (f k) d))
theorem cw_get {E : Ev} {la : List CD} {f : Fn} {k : Nat} {d : CD} (h : la[k]? = some d) : (cw E la f)[k]? = some (E.2.1 k, cel E (f k) d) := by
  simp [cw, List.getElem?_mapIdx, h]
theorem cw_set {E : Ev} {la : List CD} {f f' : Fn} {k : Nat} {d : CD} (h : la[k]? = some d) (hf : ∀ a, a ≠ k → f' a = f a) : (cw E la f).set k (E.2.1 k, cel E (f' k) d) = cw E la f' := by
  apply List.ext_getElem?
  intro i
  by_cases hi : i = k
  · subst hi
    have hl : i < (cw E la f).length := by simp [cw]; exact (List.getElem?_eq_some_iff.mp h).1
    rw [List.getElem?_set_self hl, cw_get h]
  · rw [List.getElem?_set_ne (Ne.symm hi)]
    simp [cw, List.getElem?_mapIdx, hf i hi]
def EA (E : Ev) (la : List CD) : Nat → Prop := fun q => ∃ k, k < la.length ∧ q = E.2.1 k
def EI (E : Ev) (la : List CD) : Prop := ∀ i j, i < la.length → j < la.length → E.2.1 i = E.2.1 j → i = j
theorem cw_D {E : Ev} {la : List CD} (hi : EI E la) (f : Fn) : va_D (EA E la) (cw E la f) := by
  have key : ∀ (k : Nat) (q : Nat × va_E), (cw E la f)[k]? = some q → k < la.length ∧ q.1 = E.2.1 k := by
    intro k q hq
    simp only [cw, List.getElem?_mapIdx, Option.map_eq_some_iff] at hq
    obtain ⟨d, h1, h2⟩ := hq
    refine ⟨(List.getElem?_eq_some_iff.mp h1).1, ?_⟩
    rw [← h2]
  refine ⟨fun i j p q h1 h2 h3 => ?_, fun k q h => ?_⟩
  · obtain ⟨a1, a2⟩ := key i p h1
    obtain ⟨b1, b2⟩ := key j q h2
    exact hi i j a1 b1 (by rw [← a2, ← b2, h3])
  · obtain ⟨a1, a2⟩ := key k q h
    exact ⟨k, a1, a2⟩
def tysE (E : Ev) : List (ClassId × FieldType) := [(E.2.2.1, .int), (E.2.2.2.1 0, .object RX0), (E.2.2.2.1 1, .object RX3)]
def BV (j : Nat) : Int32 := ([10, 20, 0, 0, 0, 0, 0, 11, 0, 30, 0, 0, 60, 0, 12, 0, 0, 40, 0, 0, 70, 13, 0, 0, 0, 50, 0, 71] : List Int32).getD j 0
def KK (E : Ev) (la : List CD) (U : State) : Prop := va_K E.1 vwCl (tysE E) U ∧ va_Z "CatchBars$Voices" "BODIES" "[I" (.ref E.2.2.2.2) (EA E la) U U.heap ∧ va_T .int E.2.2.2.2 28 (fun j => .int (BV j)) (EA E la) U U.heap ∧ (∀ w ∈ NW, va_Nw w U) ∧ EI E la
def isNest : Cond → Bool
  | .fieldLinkNest .. => true
  | .methodLinkNest .. => true
  | _ => false
theorem NW_nest : NW.all isNest = true := by decide +kernel
theorem NW_tabs : NW.all (fun w => w.onTables) = true := by decide +kernel
theorem nw_warm {s U : State} (hW : s.WarmedH U.vm) {w : Cond} (hn : isNest w = true) (h : va_Nw w s) : va_Nw w U := by
  cases w <;> first | exact va_Nw.warmF hW h | exact va_Nw.warmM hW h | (simp [isNest] at hn)
theorem KK.warm {E : Ev} {la : List CD} {s U : State} {H : Heap} {locs : List Loc} (hU : U.heap = H) (hW : s.WarmedH U.vm) (hS : va_S (EA E la) s.heap H locs) (h : KK E la s) : KK E la U := by
  obtain ⟨h1, h2, h3, h4, h5⟩ := h
  subst hU
  exact ⟨va_K.moved hW.alike h1, (va_Z.moved hW.alike h2).kept hS.2.1, (va_T.moved hW.alike h3).kept hS.2.1, fun w hw => nw_warm hW (List.all_eq_true.mp NW_nest w hw) (h4 w hw), h5⟩
theorem KK.blind {E : Ev} {la : List CD} {a : Array Value} {U : State} {g : JFrame} {mk : MethodId} (h : KK E la U) : KK E la (U.calling g mk a) := by
  obtain ⟨h1, h2, h3, h4, h5⟩ := h
  exact ⟨va_K.moved (u := U) (U := U.calling g mk a) (Vm.Alike.refl U.vm) h1, va_Z.moved (u := U) (U := U.calling g mk a) (Vm.Alike.refl U.vm) h2, va_T.moved (u := U) (U := U.calling g mk a) (Vm.Alike.refl U.vm) h3, fun w hw => va_Nw.same (u := U) (U := U.calling g mk a) (List.all_eq_true.mp NW_tabs w hw) rfl (h4 w hw), h5⟩
def rmD (d : Nat) : Room := { frames := d, cells := 0, slots := 0, locals := 40 * d }
def QC (E : Ev) (la : List CD) (post : Option Value → Fn → Prop) : Array Value → State → Outcome → State → Prop := fun _ st oc t => (∃ (v : Option Value) (f' : Fn), oc = .returned v ∧ post v f' ∧ va_P E.1 vwCl (cw E la f') t.heap) ∧ va_F (EA E la) st t
def PC (E : Ev) (la : List CD) (av : List Value) (f : Fn) : Array Value → State → Prop := va_Pc av (fun U => va_P E.1 vwCl (cw E la f) U.heap ∧ KK E la U)
/-- a method's contract over the worlds of a layout: depth d of calls below it -/
def CT (l : Launch) (E : Ev) (la : List CD) (y : MethodName) (b : ByteArray) (n : Nat) (ret : Option FieldType) (d : Nat) (av : List Value) (f : Fn) (post : Option Value → Fn → Prop) : Prop :=
  Met l y (.code y b n ret :: GW) (rmD d) (PC E la av f) (QC E la post) 0 0 (EA E la)
def pI (p : Int32 → Fn → Prop) : Option Value → Fn → Prop := fun v f => ∃ r : Int32, v = some (.int r) ∧ p r f
def pL (p : Int64 → Fn → Prop) : Option Value → Fn → Prop := fun v f => ∃ r : Int64, v = some (.long r) ∧ p r f
def pV (p : Fn → Prop) : Option Value → Fn → Prop := fun v f => v = none ∧ p f
def pR (ad : Nat → Nat) (p : Option Nat → Fn → Prop) : Option Value → Fn → Prop := fun v f => ∃ r : Option Nat, v = some (va_rf (r.map ad)) ∧ p r f
theorem pI_iff {p : Int32 → Fn → Prop} {r : Int32} {f : Fn} : pI p (some (.int r)) f ↔ p r f := ⟨fun ⟨x, h1, h2⟩ => by cases h1; exact h2, fun h => ⟨r, rfl, h⟩⟩
theorem pL_iff {p : Int64 → Fn → Prop} {r : Int64} {f : Fn} : pL p (some (.long r)) f ↔ p r f := ⟨fun ⟨x, h1, h2⟩ => by cases h1; exact h2, fun h => ⟨r, rfl, h⟩⟩
theorem pV_iff {p : Fn → Prop} {f : Fn} : pV p none f ↔ p f := ⟨fun ⟨_, h2⟩ => h2, fun h => ⟨rfl, h⟩⟩
theorem pR_some {ad : Nat → Nat} {p : Option Nat → Fn → Prop} {k : Nat} {f : Fn} (h : p (some k) f) : pR ad p (some (.ref (ad k))) f := ⟨some k, rfl, h⟩
theorem pR_none {ad : Nat → Nat} {p : Option Nat → Fn → Prop} {f : Fn} (h : p none f) : pR ad p (some .null) f := ⟨none, rfl, h⟩
/-- what a walk stands in -/
abbrev Zt : Type := Program × Launch × Env × State × MethodId × Array Value × List Frame × Method × Code × Ev × List CD × Nat × Nat × (Option Value → Fn → Prop)
def zl : Zt → Launch := fun Z => Z.2.1
def zE : Zt → Ev := fun Z => Z.2.2.2.2.2.2.2.2.2.1
def zad : Zt → Nat → Nat := fun Z => (zE Z).2.1
def ztB : Zt → Nat := fun Z => (zE Z).2.2.2.2
def zp : Zt → Option Value → Fn → Prop := fun Z => Z.2.2.2.2.2.2.2.2.2.2.2.2.2
def GG : Zt → Fn → List (Nat × Value) → Nat → List Value → Prop
  | (p, l, e, s, m, args, below, meth, c, E, la, n, d, post), f, lv, pc, st => ∀ (H : Heap) (locs : List Loc) (ls : Array Slot), va_P E.1 vwCl (cw E la f) H → va_S (EA E la) s.heap H locs → lv_has ls n lv → W p l e (rmD d) s m args below meth c H locs 0 0 (MQ below (QC E la post) args s 0 0 (EA E la)) (F0 m pc ls st)
def CX : Zt → List CD → String → ByteArray → Nat → Option FieldType → Nat → Prop
  | (p, _, _, s, m, args, _, meth, c, E, la, n, d, _), la0, own, cc, n0, ret, d0 => p.tables.exec = Jvm.exec ∧ c.code = cc ∧ c.maxLocals = n ∧ s.vm.findClass own = some m.cls ∧ (∀ w ∈ GW, w.before args s = true) ∧ meth.sig.returnType = ret ∧ meth.locks = false ∧ KK E la s ∧ la = la0 ∧ n = n0 ∧ d = d0
def lk (lv : List (Nat × Value)) (i : Nat) : Option Value := (lv.find? (fun q => q.1 == i)).map (fun q => q.2)
theorem lk_at {ls : Array Slot} {n : Nat} {lv : List (Nat × Value)} (h : lv_has ls n lv) {i : Nat} {v : Value} (hk : lk lv i = some v) : ls[i]? = some (.val v) := by
  unfold lk at hk
  cases hq : lv.find? (fun q => q.1 == i) with
  | none => rw [hq] at hk; cases hk
  | some q =>
    rw [hq] at hk
    cases hk
    have h1 : q.1 = i := by simpa using List.find?_some hq
    rw [← h1]
    exact h.2.2 q (List.mem_of_find?_eq_some hq)
def ls1 (lv : List (Nat × Value)) (i : Nat) (v : Value) : List (Nat × Value) := (i, v) :: lv.filter (fun q => !(q.1 == i) && !(q.1 + 1 == i && q.2.category == 2))
def ls2 (lv : List (Nat × Value)) (i : Nat) (v : Value) : List (Nat × Value) := (i, v) :: lv.filter (fun q => !(q.1 == i) && (!(q.1 == i + 1) && !(q.1 + 1 == i && q.2.category == 2)))
/-- fewer locals -/
theorem g_sub {Z : Zt} {f : Fn} {lv lv' : List (Nat × Value)} {pc : Nat} {st : List Value} (h : ∀ q ∈ lv', q ∈ lv) (g : GG Z f lv' pc st) : GG Z f lv pc st := by
  obtain ⟨p, l, e, s, m, args, below, meth, c, E, la, n, d, post⟩ := Z
  intro H locs ls hP hS hl
  exact g H locs ls hP hS ⟨hl.1, hl.2.1, fun q hq => hl.2.2 q (h q hq)⟩
def lps (lv : List (Nat × Value)) (is : List Nat) : List (Nat × Value) := is.filterMap (fun i => (lk lv i).map (fun v => (i, v)))
theorem g_lps {Z : Zt} {f : Fn} {lv lv' : List (Nat × Value)} {pc : Nat} {st : List Value} (is : List Nat) (h : lps lv is = lv') (g : GG Z f lv' pc st) : GG Z f lv pc st := by
  refine g_sub (fun q hq => ?_) g
  rw [← h] at hq
  obtain ⟨i, -, hi⟩ := List.mem_filterMap.mp hq
  cases hl : lk lv i with
  | none => rw [hl] at hi; cases hi
  | some v =>
    rw [hl] at hi
    cases hi
    unfold lk at hl
    cases hq9 : lv.find? (fun q => q.1 == i) with
    | none => rw [hq9] at hl; cases hl
    | some q9 =>
      rw [hq9] at hl
      cases hl
      have h1 : q9.1 = i := by simpa using List.find?_some hq9
      have := List.mem_of_find?_eq_some hq9
      rw [← h1]
      exact this
theorem g_iconst {Z : Zt} {la : List CD} {own : String} {cc : ByteArray} {n : Nat} {ret : Option FieldType} {d : Nat} {f : Fn} {lv : List (Nat × Value)} {pc q : Nat} {st : List Value} {i : Int} {v : Int32} (C : CX Z la own cc n ret d) (hv : Int32.ofInt i = v) (hd : decode cc pc = .ok (.iconst i, 1)) (hq : pc + 1 = q) (g : GG Z f lv q (.int v :: st)) : GG Z f lv pc (st) := by
  obtain ⟨p, l, e, s, m, args, below, meth, c, E, la', n', d', post⟩ := Z
  obtain ⟨hx, hb, hml, hown, hts, hr, hlk, hK, rfl, rfl, rfl⟩ := C
  subst hq
  intro H locs ls hP hS hl
  exact lv_iconst hx hb hd hv (g H locs ls hP hS hl)
theorem g_bipush {Z : Zt} {la : List CD} {own : String} {cc : ByteArray} {n : Nat} {ret : Option FieldType} {d : Nat} {f : Fn} {lv : List (Nat × Value)} {pc q : Nat} {st : List Value} {i : Int} {v : Int32} (C : CX Z la own cc n ret d) (hv : (Int8.ofInt i).toInt32 = v) (hd : decode cc pc = .ok (.bipush i, 2)) (hq : pc + 2 = q) (g : GG Z f lv q (.int v :: st)) : GG Z f lv pc (st) := by
  obtain ⟨p, l, e, s, m, args, below, meth, c, E, la', n', d', post⟩ := Z
  obtain ⟨hx, hb, hml, hown, hts, hr, hlk, hK, rfl, rfl, rfl⟩ := C
  subst hq
  intro H locs ls hP hS hl
  exact lv_bipush hx hb hd hv (g H locs ls hP hS hl)
theorem g_sipush {Z : Zt} {la : List CD} {own : String} {cc : ByteArray} {n : Nat} {ret : Option FieldType} {d : Nat} {f : Fn} {lv : List (Nat × Value)} {pc q : Nat} {st : List Value} {i : Int} {v : Int32} (C : CX Z la own cc n ret d) (hv : (Int16.ofInt i).toInt32 = v) (hd : decode cc pc = .ok (.sipush i, 3)) (hq : pc + 3 = q) (g : GG Z f lv q (.int v :: st)) : GG Z f lv pc (st) := by
  obtain ⟨p, l, e, s, m, args, below, meth, c, E, la', n', d', post⟩ := Z
  obtain ⟨hx, hb, hml, hown, hts, hr, hlk, hK, rfl, rfl, rfl⟩ := C
  subst hq
  intro H locs ls hP hS hl
  exact lv_sipush hx hb hd hv (g H locs ls hP hS hl)
theorem g_lconst {Z : Zt} {la : List CD} {own : String} {cc : ByteArray} {n : Nat} {ret : Option FieldType} {d : Nat} {f : Fn} {lv : List (Nat × Value)} {pc q : Nat} {st : List Value} {i : Fin 2} {v : Int64} (C : CX Z la own cc n ret d) (hv : Int64.ofNat (i : Nat) = v) (hd : decode cc pc = .ok (.lconst i, 1)) (hq : pc + 1 = q) (g : GG Z f lv q (.long v :: st)) : GG Z f lv pc (st) := by
  obtain ⟨p, l, e, s, m, args, below, meth, c, E, la', n', d', post⟩ := Z
  obtain ⟨hx, hb, hml, hown, hts, hr, hlk, hK, rfl, rfl, rfl⟩ := C
  subst hq
  intro H locs ls hP hS hl
  exact lv_lconst hx hb hd hv (g H locs ls hP hS hl)
theorem g_null {Z : Zt} {la : List CD} {own : String} {cc : ByteArray} {n : Nat} {ret : Option FieldType} {d : Nat} {f : Fn} {lv : List (Nat × Value)} {pc q : Nat} {st : List Value}  (C : CX Z la own cc n ret d)  (hd : decode cc pc = .ok (.aconst_null, 1)) (hq : pc + 1 = q) (g : GG Z f lv q (.null :: st)) : GG Z f lv pc (st) := by
  obtain ⟨p, l, e, s, m, args, below, meth, c, E, la', n', d', post⟩ := Z
  obtain ⟨hx, hb, hml, hown, hts, hr, hlk, hK, rfl, rfl, rfl⟩ := C
  subst hq
  intro H locs ls hP hS hl
  exact lv_null hx hb hd (g H locs ls hP hS hl)
theorem g_iload_n {Z : Zt} {la : List CD} {own : String} {cc : ByteArray} {n : Nat} {ret : Option FieldType} {d : Nat} {f : Fn} {lv : List (Nat × Value)} {pc q : Nat} {st : List Value} {k : Fin 4} {x : Int32} (C : CX Z la own cc n ret d) (hv : lk lv (k : Nat) = some (.int x)) (hd : decode cc pc = .ok (.iload_n k, 1)) (hq : pc + 1 = q) (g : GG Z f lv q (.int x :: st)) : GG Z f lv pc (st) := by
  obtain ⟨p, l, e, s, m, args, below, meth, c, E, la', n', d', post⟩ := Z
  obtain ⟨hx, hb, hml, hown, hts, hr, hlk, hK, rfl, rfl, rfl⟩ := C
  subst hq
  intro H locs ls hP hS hl
  exact lv_iload_n hx hb hd rfl (lk_at hl hv) (g H locs ls hP hS hl)
theorem g_iload {Z : Zt} {la : List CD} {own : String} {cc : ByteArray} {n : Nat} {ret : Option FieldType} {d : Nat} {f : Fn} {lv : List (Nat × Value)} {pc q : Nat} {st : List Value} {k : Nat} {x : Int32} (C : CX Z la own cc n ret d) (hv : lk lv k = some (.int x)) (hd : decode cc pc = .ok (.iload k, 2)) (hq : pc + 2 = q) (g : GG Z f lv q (.int x :: st)) : GG Z f lv pc (st) := by
  obtain ⟨p, l, e, s, m, args, below, meth, c, E, la', n', d', post⟩ := Z
  obtain ⟨hx, hb, hml, hown, hts, hr, hlk, hK, rfl, rfl, rfl⟩ := C
  subst hq
  intro H locs ls hP hS hl
  exact lv_iload hx hb hd (lk_at hl hv) (g H locs ls hP hS hl)
theorem g_lload_n {Z : Zt} {la : List CD} {own : String} {cc : ByteArray} {n : Nat} {ret : Option FieldType} {d : Nat} {f : Fn} {lv : List (Nat × Value)} {pc q : Nat} {st : List Value} {k : Fin 4} {x : Int64} (C : CX Z la own cc n ret d) (hv : lk lv (k : Nat) = some (.long x)) (hd : decode cc pc = .ok (.lload_n k, 1)) (hq : pc + 1 = q) (g : GG Z f lv q (.long x :: st)) : GG Z f lv pc (st) := by
  obtain ⟨p, l, e, s, m, args, below, meth, c, E, la', n', d', post⟩ := Z
  obtain ⟨hx, hb, hml, hown, hts, hr, hlk, hK, rfl, rfl, rfl⟩ := C
  subst hq
  intro H locs ls hP hS hl
  exact lv_lload_n hx hb hd rfl (lk_at hl hv) (g H locs ls hP hS hl)
theorem g_lload {Z : Zt} {la : List CD} {own : String} {cc : ByteArray} {n : Nat} {ret : Option FieldType} {d : Nat} {f : Fn} {lv : List (Nat × Value)} {pc q : Nat} {st : List Value} {k : Nat} {x : Int64} (C : CX Z la own cc n ret d) (hv : lk lv k = some (.long x)) (hd : decode cc pc = .ok (.lload k, 2)) (hq : pc + 2 = q) (g : GG Z f lv q (.long x :: st)) : GG Z f lv pc (st) := by
  obtain ⟨p, l, e, s, m, args, below, meth, c, E, la', n', d', post⟩ := Z
  obtain ⟨hx, hb, hml, hown, hts, hr, hlk, hK, rfl, rfl, rfl⟩ := C
  subst hq
  intro H locs ls hP hS hl
  exact lv_lload hx hb hd (lk_at hl hv) (g H locs ls hP hS hl)
theorem g_aload_n {Z : Zt} {la : List CD} {own : String} {cc : ByteArray} {n : Nat} {ret : Option FieldType} {d : Nat} {f : Fn} {lv : List (Nat × Value)} {pc q : Nat} {st : List Value} {k : Fin 4} {x : Nat} (C : CX Z la own cc n ret d) (hv : lk lv (k : Nat) = some (.ref x)) (hd : decode cc pc = .ok (.aload_n k, 1)) (hq : pc + 1 = q) (g : GG Z f lv q (.ref x :: st)) : GG Z f lv pc (st) := by
  obtain ⟨p, l, e, s, m, args, below, meth, c, E, la', n', d', post⟩ := Z
  obtain ⟨hx, hb, hml, hown, hts, hr, hlk, hK, rfl, rfl, rfl⟩ := C
  subst hq
  intro H locs ls hP hS hl
  exact lv_aload_n hx hb hd rfl (lk_at hl hv) (g H locs ls hP hS hl)
theorem g_aload {Z : Zt} {la : List CD} {own : String} {cc : ByteArray} {n : Nat} {ret : Option FieldType} {d : Nat} {f : Fn} {lv : List (Nat × Value)} {pc q : Nat} {st : List Value} {k : Nat} {x : Nat} (C : CX Z la own cc n ret d) (hv : lk lv k = some (.ref x)) (hd : decode cc pc = .ok (.aload k, 2)) (hq : pc + 2 = q) (g : GG Z f lv q (.ref x :: st)) : GG Z f lv pc (st) := by
  obtain ⟨p, l, e, s, m, args, below, meth, c, E, la', n', d', post⟩ := Z
  obtain ⟨hx, hb, hml, hown, hts, hr, hlk, hK, rfl, rfl, rfl⟩ := C
  subst hq
  intro H locs ls hP hS hl
  exact lv_aload hx hb hd (lk_at hl hv) (g H locs ls hP hS hl)
theorem g_istore_n {Z : Zt} {la : List CD} {own : String} {cc : ByteArray} {n : Nat} {ret : Option FieldType} {d : Nat} {f : Fn} {lv : List (Nat × Value)} {pc q : Nat} {st : List Value} {lv' : List (Nat × Value)} {k : Fin 4} {x : Int32} (C : CX Z la own cc n ret d) (hd : decode cc pc = .ok (.istore_n k, 1)) (hi : (k : Nat) < n) (hs : ls1 lv (k : Nat) (.int x) = lv') (hq : pc + 1 = q) (g : GG Z f lv' q st) : GG Z f lv pc (.int x :: st) := by
  obtain ⟨p, l, e, s, m, args, below, meth, c, E, la', n', d', post⟩ := Z
  obtain ⟨hx, hb, hml, hown, hts, hr, hlk, hK, rfl, rfl, rfl⟩ := C
  subst hq
  intro H locs ls hP hS hl
  exact lv_istore_n hx hb hd rfl hl hi hs (fun ls' h => g H locs ls' hP hS h)
theorem g_istore {Z : Zt} {la : List CD} {own : String} {cc : ByteArray} {n : Nat} {ret : Option FieldType} {d : Nat} {f : Fn} {lv : List (Nat × Value)} {pc q : Nat} {st : List Value} {lv' : List (Nat × Value)} {k : Nat} {x : Int32} (C : CX Z la own cc n ret d) (hd : decode cc pc = .ok (.istore k, 2)) (hi : k < n) (hs : ls1 lv k (.int x) = lv') (hq : pc + 2 = q) (g : GG Z f lv' q st) : GG Z f lv pc (.int x :: st) := by
  obtain ⟨p, l, e, s, m, args, below, meth, c, E, la', n', d', post⟩ := Z
  obtain ⟨hx, hb, hml, hown, hts, hr, hlk, hK, rfl, rfl, rfl⟩ := C
  subst hq
  intro H locs ls hP hS hl
  exact lv_istore hx hb hd hl hi hs (fun ls' h => g H locs ls' hP hS h)
theorem g_lstore_n {Z : Zt} {la : List CD} {own : String} {cc : ByteArray} {n : Nat} {ret : Option FieldType} {d : Nat} {f : Fn} {lv : List (Nat × Value)} {pc q : Nat} {st : List Value} {lv' : List (Nat × Value)} {k : Fin 4} {x : Int64} (C : CX Z la own cc n ret d) (hd : decode cc pc = .ok (.lstore_n k, 1)) (hi : (k : Nat) + 1 < n) (hs : ls2 lv (k : Nat) (.long x) = lv') (hq : pc + 1 = q) (g : GG Z f lv' q st) : GG Z f lv pc (.long x :: st) := by
  obtain ⟨p, l, e, s, m, args, below, meth, c, E, la', n', d', post⟩ := Z
  obtain ⟨hx, hb, hml, hown, hts, hr, hlk, hK, rfl, rfl, rfl⟩ := C
  subst hq
  intro H locs ls hP hS hl
  exact lv_lstore_n hx hb hd rfl hl hi hs (fun ls' h => g H locs ls' hP hS h)
theorem g_lstore {Z : Zt} {la : List CD} {own : String} {cc : ByteArray} {n : Nat} {ret : Option FieldType} {d : Nat} {f : Fn} {lv : List (Nat × Value)} {pc q : Nat} {st : List Value} {lv' : List (Nat × Value)} {k : Nat} {x : Int64} (C : CX Z la own cc n ret d) (hd : decode cc pc = .ok (.lstore k, 2)) (hi : k + 1 < n) (hs : ls2 lv k (.long x) = lv') (hq : pc + 2 = q) (g : GG Z f lv' q st) : GG Z f lv pc (.long x :: st) := by
  obtain ⟨p, l, e, s, m, args, below, meth, c, E, la', n', d', post⟩ := Z
  obtain ⟨hx, hb, hml, hown, hts, hr, hlk, hK, rfl, rfl, rfl⟩ := C
  subst hq
  intro H locs ls hP hS hl
  exact lv_lstore hx hb hd hl hi hs (fun ls' h => g H locs ls' hP hS h)
theorem g_astore_n {Z : Zt} {la : List CD} {own : String} {cc : ByteArray} {n : Nat} {ret : Option FieldType} {d : Nat} {f : Fn} {lv : List (Nat × Value)} {pc q : Nat} {st : List Value} {lv' : List (Nat × Value)} {k : Fin 4} {x : Nat} (C : CX Z la own cc n ret d) (hd : decode cc pc = .ok (.astore_n k, 1)) (hi : (k : Nat) < n) (hs : ls1 lv (k : Nat) (.ref x) = lv') (hq : pc + 1 = q) (g : GG Z f lv' q st) : GG Z f lv pc (.ref x :: st) := by
  obtain ⟨p, l, e, s, m, args, below, meth, c, E, la', n', d', post⟩ := Z
  obtain ⟨hx, hb, hml, hown, hts, hr, hlk, hK, rfl, rfl, rfl⟩ := C
  subst hq
  intro H locs ls hP hS hl
  exact lv_astore_n hx hb hd rfl hl hi hs (fun ls' h => g H locs ls' hP hS h)
theorem g_astore {Z : Zt} {la : List CD} {own : String} {cc : ByteArray} {n : Nat} {ret : Option FieldType} {d : Nat} {f : Fn} {lv : List (Nat × Value)} {pc q : Nat} {st : List Value} {lv' : List (Nat × Value)} {k : Nat} {x : Nat} (C : CX Z la own cc n ret d) (hd : decode cc pc = .ok (.astore k, 2)) (hi : k < n) (hs : ls1 lv k (.ref x) = lv') (hq : pc + 2 = q) (g : GG Z f lv' q st) : GG Z f lv pc (.ref x :: st) := by
  obtain ⟨p, l, e, s, m, args, below, meth, c, E, la', n', d', post⟩ := Z
  obtain ⟨hx, hb, hml, hown, hts, hr, hlk, hK, rfl, rfl, rfl⟩ := C
  subst hq
  intro H locs ls hP hS hl
  exact lv_astore hx hb hd hl hi hs (fun ls' h => g H locs ls' hP hS h)
theorem g_aload_nN {Z : Zt} {la : List CD} {own : String} {cc : ByteArray} {n : Nat} {ret : Option FieldType} {d : Nat} {f : Fn} {lv : List (Nat × Value)} {pc q : Nat} {st : List Value} {k : Fin 4} (C : CX Z la own cc n ret d) (hv : lk lv (k : Nat) = some .null) (hd : decode cc pc = .ok (.aload_n k, 1)) (hq : pc + 1 = q) (g : GG Z f lv q (.null :: st)) : GG Z f lv pc (st) := by
  obtain ⟨p, l, e, s, m, args, below, meth, c, E, la', n', d', post⟩ := Z
  obtain ⟨hx, hb, hml, hown, hts, hr, hlk, hK, rfl, rfl, rfl⟩ := C
  subst hq
  intro H locs ls hP hS hl
  exact lv_aload_nN hx hb hd rfl (lk_at hl hv) (g H locs ls hP hS hl)
theorem g_aloadN {Z : Zt} {la : List CD} {own : String} {cc : ByteArray} {n : Nat} {ret : Option FieldType} {d : Nat} {f : Fn} {lv : List (Nat × Value)} {pc q : Nat} {st : List Value} {k : Nat} (C : CX Z la own cc n ret d) (hv : lk lv k = some .null) (hd : decode cc pc = .ok (.aload k, 2)) (hq : pc + 2 = q) (g : GG Z f lv q (.null :: st)) : GG Z f lv pc (st) := by
  obtain ⟨p, l, e, s, m, args, below, meth, c, E, la', n', d', post⟩ := Z
  obtain ⟨hx, hb, hml, hown, hts, hr, hlk, hK, rfl, rfl, rfl⟩ := C
  subst hq
  intro H locs ls hP hS hl
  exact lv_aloadN hx hb hd (lk_at hl hv) (g H locs ls hP hS hl)
theorem g_astore_nN {Z : Zt} {la : List CD} {own : String} {cc : ByteArray} {n : Nat} {ret : Option FieldType} {d : Nat} {f : Fn} {lv : List (Nat × Value)} {pc q : Nat} {st : List Value} {lv' : List (Nat × Value)} {k : Fin 4} (C : CX Z la own cc n ret d) (hd : decode cc pc = .ok (.astore_n k, 1)) (hi : (k : Nat) < n) (hs : ls1 lv (k : Nat) .null = lv') (hq : pc + 1 = q) (g : GG Z f lv' q st) : GG Z f lv pc (.null :: st) := by
  obtain ⟨p, l, e, s, m, args, below, meth, c, E, la', n', d', post⟩ := Z
  obtain ⟨hx, hb, hml, hown, hts, hr, hlk, hK, rfl, rfl, rfl⟩ := C
  subst hq
  intro H locs ls hP hS hl
  exact lv_astore_nN hx hb hd rfl hl hi hs (fun ls' h => g H locs ls' hP hS h)
theorem g_astoreN {Z : Zt} {la : List CD} {own : String} {cc : ByteArray} {n : Nat} {ret : Option FieldType} {d : Nat} {f : Fn} {lv : List (Nat × Value)} {pc q : Nat} {st : List Value} {lv' : List (Nat × Value)} {k : Nat} (C : CX Z la own cc n ret d) (hd : decode cc pc = .ok (.astore k, 2)) (hi : k < n) (hs : ls1 lv k .null = lv') (hq : pc + 2 = q) (g : GG Z f lv' q st) : GG Z f lv pc (.null :: st) := by
  obtain ⟨p, l, e, s, m, args, below, meth, c, E, la', n', d', post⟩ := Z
  obtain ⟨hx, hb, hml, hown, hts, hr, hlk, hK, rfl, rfl, rfl⟩ := C
  subst hq
  intro H locs ls hP hS hl
  exact lv_astoreN hx hb hd hl hi hs (fun ls' h => g H locs ls' hP hS h)
theorem lk_place {lv : List (Nat × Value)} {i : Nat} {v : Value} (h : lk lv i = some v) : ∃ k : Nat, lv[k]? = some (i, v) := by
  unfold lk at h
  cases hq : lv.find? (fun q => q.1 == i) with
  | none => rw [hq] at h; cases h
  | some q =>
    rw [hq] at h
    cases h
    have h1 : q.1 = i := by simpa using List.find?_some hq
    obtain ⟨k, hk⟩ := List.getElem?_of_mem (List.mem_of_find?_eq_some hq)
    exact ⟨k, by rw [hk, ← h1]⟩
theorem g_iinc {Z : Zt} {la : List CD} {own : String} {cc : ByteArray} {n : Nat} {ret : Option FieldType} {d : Nat} {f : Fn} {lv : List (Nat × Value)} {pc q : Nat} {st : List Value} {lv' : List (Nat × Value)} {k : Nat} {i : Int} {x v : Int32} (C : CX Z la own cc n ret d) (hd : decode cc pc = .ok (.iinc k i, 3)) (hk : lk lv k = some (.int x)) (hv : x + Int32.ofInt i = v) (hi : k < n) (hs : ls1 lv k (.int v) = lv') (hq : pc + 3 = q) (g : GG Z f lv' q st) : GG Z f lv pc st := by
  obtain ⟨p, l, e, s, m, args, below, meth, c, E, la', n', d', post⟩ := Z
  obtain ⟨hx, hb, hml, hown, hts, hr, hlk, hK, rfl, rfl, rfl⟩ := C
  subst hq
  intro H locs ls hP hS hl
  obtain ⟨j, hj⟩ := lk_place hk
  exact lv_iinc hx hb hd hl hj hv hi hs (fun ls' h => g H locs ls' hP hS h)
theorem g_iadd {Z : Zt} {la : List CD} {own : String} {cc : ByteArray} {n : Nat} {ret : Option FieldType} {d : Nat} {f : Fn} {lv : List (Nat × Value)} {pc q : Nat} {st : List Value} {x y : Int32} (C : CX Z la own cc n ret d)  (hd : decode cc pc = .ok (.iadd, 1)) (hq : pc + 1 = q) (g : GG Z f lv q (.int (x + y) :: st)) : GG Z f lv pc (.int y :: .int x :: st) := by
  obtain ⟨p, l, e, s, m, args, below, meth, c, E, la', n', d', post⟩ := Z
  obtain ⟨hx, hb, hml, hown, hts, hr, hlk, hK, rfl, rfl, rfl⟩ := C
  subst hq
  intro H locs ls hP hS hl
  exact lv_iadd hx hb hd (g H locs ls hP hS hl)
theorem g_isub {Z : Zt} {la : List CD} {own : String} {cc : ByteArray} {n : Nat} {ret : Option FieldType} {d : Nat} {f : Fn} {lv : List (Nat × Value)} {pc q : Nat} {st : List Value} {x y : Int32} (C : CX Z la own cc n ret d)  (hd : decode cc pc = .ok (.isub, 1)) (hq : pc + 1 = q) (g : GG Z f lv q (.int (x - y) :: st)) : GG Z f lv pc (.int y :: .int x :: st) := by
  obtain ⟨p, l, e, s, m, args, below, meth, c, E, la', n', d', post⟩ := Z
  obtain ⟨hx, hb, hml, hown, hts, hr, hlk, hK, rfl, rfl, rfl⟩ := C
  subst hq
  intro H locs ls hP hS hl
  exact lv_isub hx hb hd (g H locs ls hP hS hl)
theorem g_imul {Z : Zt} {la : List CD} {own : String} {cc : ByteArray} {n : Nat} {ret : Option FieldType} {d : Nat} {f : Fn} {lv : List (Nat × Value)} {pc q : Nat} {st : List Value} {x y : Int32} (C : CX Z la own cc n ret d)  (hd : decode cc pc = .ok (.imul, 1)) (hq : pc + 1 = q) (g : GG Z f lv q (.int (x * y) :: st)) : GG Z f lv pc (.int y :: .int x :: st) := by
  obtain ⟨p, l, e, s, m, args, below, meth, c, E, la', n', d', post⟩ := Z
  obtain ⟨hx, hb, hml, hown, hts, hr, hlk, hK, rfl, rfl, rfl⟩ := C
  subst hq
  intro H locs ls hP hS hl
  exact lv_imul hx hb hd (g H locs ls hP hS hl)
theorem g_ixor {Z : Zt} {la : List CD} {own : String} {cc : ByteArray} {n : Nat} {ret : Option FieldType} {d : Nat} {f : Fn} {lv : List (Nat × Value)} {pc q : Nat} {st : List Value} {x y : Int32} (C : CX Z la own cc n ret d)  (hd : decode cc pc = .ok (.ixor, 1)) (hq : pc + 1 = q) (g : GG Z f lv q (.int (x ^^^ y) :: st)) : GG Z f lv pc (.int y :: .int x :: st) := by
  obtain ⟨p, l, e, s, m, args, below, meth, c, E, la', n', d', post⟩ := Z
  obtain ⟨hx, hb, hml, hown, hts, hr, hlk, hK, rfl, rfl, rfl⟩ := C
  subst hq
  intro H locs ls hP hS hl
  exact lv_ixor hx hb hd (g H locs ls hP hS hl)
theorem g_iand {Z : Zt} {la : List CD} {own : String} {cc : ByteArray} {n : Nat} {ret : Option FieldType} {d : Nat} {f : Fn} {lv : List (Nat × Value)} {pc q : Nat} {st : List Value} {x y : Int32} (C : CX Z la own cc n ret d)  (hd : decode cc pc = .ok (.iand, 1)) (hq : pc + 1 = q) (g : GG Z f lv q (.int (x &&& y) :: st)) : GG Z f lv pc (.int y :: .int x :: st) := by
  obtain ⟨p, l, e, s, m, args, below, meth, c, E, la', n', d', post⟩ := Z
  obtain ⟨hx, hb, hml, hown, hts, hr, hlk, hK, rfl, rfl, rfl⟩ := C
  subst hq
  intro H locs ls hP hS hl
  exact lv_iand hx hb hd (g H locs ls hP hS hl)
theorem g_idiv {Z : Zt} {la : List CD} {own : String} {cc : ByteArray} {n : Nat} {ret : Option FieldType} {d : Nat} {f : Fn} {lv : List (Nat × Value)} {pc q : Nat} {st : List Value} {x y : Int32} (C : CX Z la own cc n ret d) (hne : ¬ y = 0) (hd : decode cc pc = .ok (.idiv, 1)) (hq : pc + 1 = q) (g : GG Z f lv q (.int (x / y) :: st)) : GG Z f lv pc (.int y :: .int x :: st) := by
  obtain ⟨p, l, e, s, m, args, below, meth, c, E, la', n', d', post⟩ := Z
  obtain ⟨hx, hb, hml, hown, hts, hr, hlk, hK, rfl, rfl, rfl⟩ := C
  subst hq
  intro H locs ls hP hS hl
  exact lv_idiv hx hb hd hne (g H locs ls hP hS hl)
theorem g_irem {Z : Zt} {la : List CD} {own : String} {cc : ByteArray} {n : Nat} {ret : Option FieldType} {d : Nat} {f : Fn} {lv : List (Nat × Value)} {pc q : Nat} {st : List Value} {x y : Int32} (C : CX Z la own cc n ret d) (hne : ¬ y = 0) (hd : decode cc pc = .ok (.irem, 1)) (hq : pc + 1 = q) (g : GG Z f lv q (.int (x - x / y * y) :: st)) : GG Z f lv pc (.int y :: .int x :: st) := by
  obtain ⟨p, l, e, s, m, args, below, meth, c, E, la', n', d', post⟩ := Z
  obtain ⟨hx, hb, hml, hown, hts, hr, hlk, hK, rfl, rfl, rfl⟩ := C
  subst hq
  intro H locs ls hP hS hl
  exact lv_irem hx hb hd hne (g H locs ls hP hS hl)
theorem g_ineg {Z : Zt} {la : List CD} {own : String} {cc : ByteArray} {n : Nat} {ret : Option FieldType} {d : Nat} {f : Fn} {lv : List (Nat × Value)} {pc q : Nat} {st : List Value} {x : Int32} (C : CX Z la own cc n ret d)  (hd : decode cc pc = .ok (.ineg, 1)) (hq : pc + 1 = q) (g : GG Z f lv q (.int (-x) :: st)) : GG Z f lv pc (.int x :: st) := by
  obtain ⟨p, l, e, s, m, args, below, meth, c, E, la', n', d', post⟩ := Z
  obtain ⟨hx, hb, hml, hown, hts, hr, hlk, hK, rfl, rfl, rfl⟩ := C
  subst hq
  intro H locs ls hP hS hl
  exact lv_ineg hx hb hd (g H locs ls hP hS hl)
theorem g_iushr {Z : Zt} {la : List CD} {own : String} {cc : ByteArray} {n : Nat} {ret : Option FieldType} {d : Nat} {f : Fn} {lv : List (Nat × Value)} {pc q : Nat} {st : List Value} {x y : Int32} (C : CX Z la own cc n ret d)  (hd : decode cc pc = .ok (.iushr, 1)) (hq : pc + 1 = q) (g : GG Z f lv q (.int ((x.toUInt32 >>> (y.toUInt32 &&& Int32.toUInt32 31)).toInt32) :: st)) : GG Z f lv pc (.int y :: .int x :: st) := by
  obtain ⟨p, l, e, s, m, args, below, meth, c, E, la', n', d', post⟩ := Z
  obtain ⟨hx, hb, hml, hown, hts, hr, hlk, hK, rfl, rfl, rfl⟩ := C
  subst hq
  intro H locs ls hP hS hl
  exact lv_iushr hx hb hd rfl (g H locs ls hP hS hl)
theorem g_i2l {Z : Zt} {la : List CD} {own : String} {cc : ByteArray} {n : Nat} {ret : Option FieldType} {d : Nat} {f : Fn} {lv : List (Nat × Value)} {pc q : Nat} {st : List Value} {x : Int32} (C : CX Z la own cc n ret d)  (hd : decode cc pc = .ok (.i2l, 1)) (hq : pc + 1 = q) (g : GG Z f lv q (.long x.toInt64 :: st)) : GG Z f lv pc (.int x :: st) := by
  obtain ⟨p, l, e, s, m, args, below, meth, c, E, la', n', d', post⟩ := Z
  obtain ⟨hx, hb, hml, hown, hts, hr, hlk, hK, rfl, rfl, rfl⟩ := C
  subst hq
  intro H locs ls hP hS hl
  exact lv_i2l hx hb hd rfl (g H locs ls hP hS hl)
theorem g_l2i {Z : Zt} {la : List CD} {own : String} {cc : ByteArray} {n : Nat} {ret : Option FieldType} {d : Nat} {f : Fn} {lv : List (Nat × Value)} {pc q : Nat} {st : List Value} {x : Int64} (C : CX Z la own cc n ret d)  (hd : decode cc pc = .ok (.l2i, 1)) (hq : pc + 1 = q) (g : GG Z f lv q (.int x.toInt32 :: st)) : GG Z f lv pc (.long x :: st) := by
  obtain ⟨p, l, e, s, m, args, below, meth, c, E, la', n', d', post⟩ := Z
  obtain ⟨hx, hb, hml, hown, hts, hr, hlk, hK, rfl, rfl, rfl⟩ := C
  subst hq
  intro H locs ls hP hS hl
  exact lv_l2i hx hb hd rfl (g H locs ls hP hS hl)
theorem g_i2b {Z : Zt} {la : List CD} {own : String} {cc : ByteArray} {n : Nat} {ret : Option FieldType} {d : Nat} {f : Fn} {lv : List (Nat × Value)} {pc q : Nat} {st : List Value} {x : Int32} (C : CX Z la own cc n ret d)  (hd : decode cc pc = .ok (.i2b, 1)) (hq : pc + 1 = q) (g : GG Z f lv q (.int x.toInt8.toInt32 :: st)) : GG Z f lv pc (.int x :: st) := by
  obtain ⟨p, l, e, s, m, args, below, meth, c, E, la', n', d', post⟩ := Z
  obtain ⟨hx, hb, hml, hown, hts, hr, hlk, hK, rfl, rfl, rfl⟩ := C
  subst hq
  intro H locs ls hP hS hl
  exact lv_i2b hx hb hd rfl (g H locs ls hP hS hl)
theorem g_i2s {Z : Zt} {la : List CD} {own : String} {cc : ByteArray} {n : Nat} {ret : Option FieldType} {d : Nat} {f : Fn} {lv : List (Nat × Value)} {pc q : Nat} {st : List Value} {x : Int32} (C : CX Z la own cc n ret d)  (hd : decode cc pc = .ok (.i2s, 1)) (hq : pc + 1 = q) (g : GG Z f lv q (.int x.toInt16.toInt32 :: st)) : GG Z f lv pc (.int x :: st) := by
  obtain ⟨p, l, e, s, m, args, below, meth, c, E, la', n', d', post⟩ := Z
  obtain ⟨hx, hb, hml, hown, hts, hr, hlk, hK, rfl, rfl, rfl⟩ := C
  subst hq
  intro H locs ls hP hS hl
  exact lv_i2s hx hb hd rfl (g H locs ls hP hS hl)
theorem g_ladd {Z : Zt} {la : List CD} {own : String} {cc : ByteArray} {n : Nat} {ret : Option FieldType} {d : Nat} {f : Fn} {lv : List (Nat × Value)} {pc q : Nat} {st : List Value} {x y : Int64} (C : CX Z la own cc n ret d)  (hd : decode cc pc = .ok (.ladd, 1)) (hq : pc + 1 = q) (g : GG Z f lv q (.long (x + y) :: st)) : GG Z f lv pc (.long y :: .long x :: st) := by
  obtain ⟨p, l, e, s, m, args, below, meth, c, E, la', n', d', post⟩ := Z
  obtain ⟨hx, hb, hml, hown, hts, hr, hlk, hK, rfl, rfl, rfl⟩ := C
  subst hq
  intro H locs ls hP hS hl
  exact lv_ladd hx hb hd (g H locs ls hP hS hl)
theorem g_lsub {Z : Zt} {la : List CD} {own : String} {cc : ByteArray} {n : Nat} {ret : Option FieldType} {d : Nat} {f : Fn} {lv : List (Nat × Value)} {pc q : Nat} {st : List Value} {x y : Int64} (C : CX Z la own cc n ret d)  (hd : decode cc pc = .ok (.lsub, 1)) (hq : pc + 1 = q) (g : GG Z f lv q (.long (x - y) :: st)) : GG Z f lv pc (.long y :: .long x :: st) := by
  obtain ⟨p, l, e, s, m, args, below, meth, c, E, la', n', d', post⟩ := Z
  obtain ⟨hx, hb, hml, hown, hts, hr, hlk, hK, rfl, rfl, rfl⟩ := C
  subst hq
  intro H locs ls hP hS hl
  exact lv_lsub hx hb hd (g H locs ls hP hS hl)
theorem g_lmul {Z : Zt} {la : List CD} {own : String} {cc : ByteArray} {n : Nat} {ret : Option FieldType} {d : Nat} {f : Fn} {lv : List (Nat × Value)} {pc q : Nat} {st : List Value} {x y : Int64} (C : CX Z la own cc n ret d)  (hd : decode cc pc = .ok (.lmul, 1)) (hq : pc + 1 = q) (g : GG Z f lv q (.long (x * y) :: st)) : GG Z f lv pc (.long y :: .long x :: st) := by
  obtain ⟨p, l, e, s, m, args, below, meth, c, E, la', n', d', post⟩ := Z
  obtain ⟨hx, hb, hml, hown, hts, hr, hlk, hK, rfl, rfl, rfl⟩ := C
  subst hq
  intro H locs ls hP hS hl
  exact lv_lmul hx hb hd (g H locs ls hP hS hl)
theorem g_land {Z : Zt} {la : List CD} {own : String} {cc : ByteArray} {n : Nat} {ret : Option FieldType} {d : Nat} {f : Fn} {lv : List (Nat × Value)} {pc q : Nat} {st : List Value} {x y : Int64} (C : CX Z la own cc n ret d)  (hd : decode cc pc = .ok (.land, 1)) (hq : pc + 1 = q) (g : GG Z f lv q (.long (x &&& y) :: st)) : GG Z f lv pc (.long y :: .long x :: st) := by
  obtain ⟨p, l, e, s, m, args, below, meth, c, E, la', n', d', post⟩ := Z
  obtain ⟨hx, hb, hml, hown, hts, hr, hlk, hK, rfl, rfl, rfl⟩ := C
  subst hq
  intro H locs ls hP hS hl
  exact lv_land hx hb hd (g H locs ls hP hS hl)
theorem g_lor {Z : Zt} {la : List CD} {own : String} {cc : ByteArray} {n : Nat} {ret : Option FieldType} {d : Nat} {f : Fn} {lv : List (Nat × Value)} {pc q : Nat} {st : List Value} {x y : Int64} (C : CX Z la own cc n ret d)  (hd : decode cc pc = .ok (.lor, 1)) (hq : pc + 1 = q) (g : GG Z f lv q (.long (x ||| y) :: st)) : GG Z f lv pc (.long y :: .long x :: st) := by
  obtain ⟨p, l, e, s, m, args, below, meth, c, E, la', n', d', post⟩ := Z
  obtain ⟨hx, hb, hml, hown, hts, hr, hlk, hK, rfl, rfl, rfl⟩ := C
  subst hq
  intro H locs ls hP hS hl
  exact lv_lor hx hb hd (g H locs ls hP hS hl)
theorem g_ldiv {Z : Zt} {la : List CD} {own : String} {cc : ByteArray} {n : Nat} {ret : Option FieldType} {d : Nat} {f : Fn} {lv : List (Nat × Value)} {pc q : Nat} {st : List Value} {x y : Int64} (C : CX Z la own cc n ret d) (hne : ¬ y = 0) (hd : decode cc pc = .ok (.ldiv, 1)) (hq : pc + 1 = q) (g : GG Z f lv q (.long (x / y) :: st)) : GG Z f lv pc (.long y :: .long x :: st) := by
  obtain ⟨p, l, e, s, m, args, below, meth, c, E, la', n', d', post⟩ := Z
  obtain ⟨hx, hb, hml, hown, hts, hr, hlk, hK, rfl, rfl, rfl⟩ := C
  subst hq
  intro H locs ls hP hS hl
  exact lv_ldiv hx hb hd hne (g H locs ls hP hS hl)
theorem g_lrem {Z : Zt} {la : List CD} {own : String} {cc : ByteArray} {n : Nat} {ret : Option FieldType} {d : Nat} {f : Fn} {lv : List (Nat × Value)} {pc q : Nat} {st : List Value} {x y : Int64} (C : CX Z la own cc n ret d) (hne : ¬ y = 0) (hd : decode cc pc = .ok (.lrem, 1)) (hq : pc + 1 = q) (g : GG Z f lv q (.long (x - x / y * y) :: st)) : GG Z f lv pc (.long y :: .long x :: st) := by
  obtain ⟨p, l, e, s, m, args, below, meth, c, E, la', n', d', post⟩ := Z
  obtain ⟨hx, hb, hml, hown, hts, hr, hlk, hK, rfl, rfl, rfl⟩ := C
  subst hq
  intro H locs ls hP hS hl
  exact lv_lrem hx hb hd hne (g H locs ls hP hS hl)
theorem g_lneg {Z : Zt} {la : List CD} {own : String} {cc : ByteArray} {n : Nat} {ret : Option FieldType} {d : Nat} {f : Fn} {lv : List (Nat × Value)} {pc q : Nat} {st : List Value} {x : Int64} (C : CX Z la own cc n ret d)  (hd : decode cc pc = .ok (.lneg, 1)) (hq : pc + 1 = q) (g : GG Z f lv q (.long (-x) :: st)) : GG Z f lv pc (.long x :: st) := by
  obtain ⟨p, l, e, s, m, args, below, meth, c, E, la', n', d', post⟩ := Z
  obtain ⟨hx, hb, hml, hown, hts, hr, hlk, hK, rfl, rfl, rfl⟩ := C
  subst hq
  intro H locs ls hP hS hl
  exact lv_lneg hx hb hd (g H locs ls hP hS hl)
theorem g_lshl {Z : Zt} {la : List CD} {own : String} {cc : ByteArray} {n : Nat} {ret : Option FieldType} {d : Nat} {f : Fn} {lv : List (Nat × Value)} {pc q : Nat} {st : List Value} {x : Int64} {y : Int32} (C : CX Z la own cc n ret d)  (hd : decode cc pc = .ok (.lshl, 1)) (hq : pc + 1 = q) (g : GG Z f lv q (.long (x <<< (y.toInt64 &&& 63)) :: st)) : GG Z f lv pc (.int y :: .long x :: st) := by
  obtain ⟨p, l, e, s, m, args, below, meth, c, E, la', n', d', post⟩ := Z
  obtain ⟨hx, hb, hml, hown, hts, hr, hlk, hK, rfl, rfl, rfl⟩ := C
  subst hq
  intro H locs ls hP hS hl
  exact lv_lshl hx hb hd rfl (g H locs ls hP hS hl)
theorem g_lshr {Z : Zt} {la : List CD} {own : String} {cc : ByteArray} {n : Nat} {ret : Option FieldType} {d : Nat} {f : Fn} {lv : List (Nat × Value)} {pc q : Nat} {st : List Value} {x : Int64} {y : Int32} (C : CX Z la own cc n ret d)  (hd : decode cc pc = .ok (.lshr, 1)) (hq : pc + 1 = q) (g : GG Z f lv q (.long (x >>> (y.toInt64 &&& 63)) :: st)) : GG Z f lv pc (.int y :: .long x :: st) := by
  obtain ⟨p, l, e, s, m, args, below, meth, c, E, la', n', d', post⟩ := Z
  obtain ⟨hx, hb, hml, hown, hts, hr, hlk, hK, rfl, rfl, rfl⟩ := C
  subst hq
  intro H locs ls hP hS hl
  exact lv_lshr hx hb hd rfl (g H locs ls hP hS hl)
theorem g_lushr {Z : Zt} {la : List CD} {own : String} {cc : ByteArray} {n : Nat} {ret : Option FieldType} {d : Nat} {f : Fn} {lv : List (Nat × Value)} {pc q : Nat} {st : List Value} {x : Int64} {y : Int32} (C : CX Z la own cc n ret d)  (hd : decode cc pc = .ok (.lushr, 1)) (hq : pc + 1 = q) (g : GG Z f lv q (.long ((x.toUInt64 >>> (y.toInt64.toUInt64 &&& Int64.toUInt64 63)).toInt64) :: st)) : GG Z f lv pc (.int y :: .long x :: st) := by
  obtain ⟨p, l, e, s, m, args, below, meth, c, E, la', n', d', post⟩ := Z
  obtain ⟨hx, hb, hml, hown, hts, hr, hlk, hK, rfl, rfl, rfl⟩ := C
  subst hq
  intro H locs ls hP hS hl
  exact lv_lushr hx hb hd rfl (g H locs ls hP hS hl)
theorem g_lcmp {Z : Zt} {la : List CD} {own : String} {cc : ByteArray} {n : Nat} {ret : Option FieldType} {d : Nat} {f : Fn} {lv : List (Nat × Value)} {pc q : Nat} {st : List Value} {x y : Int64} (C : CX Z la own cc n ret d)  (hd : decode cc pc = .ok (.lcmp, 1)) (hq : pc + 1 = q) (g : GG Z f lv q (.int (lg_cmp x y) :: st)) : GG Z f lv pc (.long y :: .long x :: st) := by
  obtain ⟨p, l, e, s, m, args, below, meth, c, E, la', n', d', post⟩ := Z
  obtain ⟨hx, hb, hml, hown, hts, hr, hlk, hK, rfl, rfl, rfl⟩ := C
  subst hq
  intro H locs ls hP hS hl
  exact W.lcmp hx hb hd (g H locs ls hP hS hl)
theorem g_dup {Z : Zt} {la : List CD} {own : String} {cc : ByteArray} {n : Nat} {ret : Option FieldType} {d : Nat} {f : Fn} {lv : List (Nat × Value)} {pc q : Nat} {st : List Value} {a : Value} (C : CX Z la own cc n ret d) (ha : a.category = 1) (hd : decode cc pc = .ok (.dup, 1)) (hq : pc + 1 = q) (g : GG Z f lv q (a :: a :: st)) : GG Z f lv pc (a :: st) := by
  obtain ⟨p, l, e, s, m, args, below, meth, c, E, la', n', d', post⟩ := Z
  obtain ⟨hx, hb, hml, hown, hts, hr, hlk, hK, rfl, rfl, rfl⟩ := C
  subst hq
  intro H locs ls hP hS hl
  exact lv_dup hx hb hd ha (g H locs ls hP hS hl)
theorem g_dup2 {Z : Zt} {la : List CD} {own : String} {cc : ByteArray} {n : Nat} {ret : Option FieldType} {d : Nat} {f : Fn} {lv : List (Nat × Value)} {pc q : Nat} {st : List Value} {a b : Value} (C : CX Z la own cc n ret d) (ha : a.category = 1) (hb2 : b.category = 1) (hd : decode cc pc = .ok (.dup2, 1)) (hq : pc + 1 = q) (g : GG Z f lv q (a :: b :: a :: b :: st)) : GG Z f lv pc (a :: b :: st) := by
  obtain ⟨p, l, e, s, m, args, below, meth, c, E, la', n', d', post⟩ := Z
  obtain ⟨hx, hb, hml, hown, hts, hr, hlk, hK, rfl, rfl, rfl⟩ := C
  subst hq
  intro H locs ls hP hS hl
  exact lv_dup2_11 hx hb hd ha hb2 (g H locs ls hP hS hl)
theorem g_pop {Z : Zt} {la : List CD} {own : String} {cc : ByteArray} {n : Nat} {ret : Option FieldType} {d : Nat} {f : Fn} {lv : List (Nat × Value)} {pc q : Nat} {st : List Value} {a : Value} (C : CX Z la own cc n ret d) (ha : a.category = 1) (hd : decode cc pc = .ok (.pop, 1)) (hq : pc + 1 = q) (g : GG Z f lv q (st)) : GG Z f lv pc (a :: st) := by
  obtain ⟨p, l, e, s, m, args, below, meth, c, E, la', n', d', post⟩ := Z
  obtain ⟨hx, hb, hml, hown, hts, hr, hlk, hK, rfl, rfl, rfl⟩ := C
  subst hq
  intro H locs ls hP hS hl
  exact lv_pop hx hb hd ha (g H locs ls hP hS hl)
theorem g_ldc {Z : Zt} {la : List CD} {own : String} {cc : ByteArray} {n : Nat} {ret : Option FieldType} {d : Nat} {f : Fn} {lv : List (Nat × Value)} {pc q : Nat} {st : List Value} {i : Nat} {v : Int32} (C : CX Z la own cc n ret d) (hc : Cond.constant own i v ∈ GW) (hd : decode cc pc = .ok (.ldc i, 2)) (hq : pc + 2 = q) (g : GG Z f lv q (.int v :: st)) : GG Z f lv pc (st) := by
  obtain ⟨p, l, e, s, m, args, below, meth, c, E, la', n', d', post⟩ := Z
  obtain ⟨hx, hb, hml, hown, hts, hr, hlk, hK, rfl, rfl, rfl⟩ := C
  subst hq
  intro H locs ls hP hS hl
  exact lv_ldc hx hb hown (hts _ hc) hd (g H locs ls hP hS hl)
theorem g_ldcw {Z : Zt} {la : List CD} {own : String} {cc : ByteArray} {n : Nat} {ret : Option FieldType} {d : Nat} {f : Fn} {lv : List (Nat × Value)} {pc q : Nat} {st : List Value} {i : Nat} {v : Int32} (C : CX Z la own cc n ret d) (hc : Cond.constant own i v ∈ GW) (hd : decode cc pc = .ok (.ldc_w i, 3)) (hq : pc + 3 = q) (g : GG Z f lv q (.int v :: st)) : GG Z f lv pc (st) := by
  obtain ⟨p, l, e, s, m, args, below, meth, c, E, la', n', d', post⟩ := Z
  obtain ⟨hx, hb, hml, hown, hts, hr, hlk, hK, rfl, rfl, rfl⟩ := C
  subst hq
  intro H locs ls hP hS hl
  exact lv_ldcw hx hb hown (hts _ hc) hd (g H locs ls hP hS hl)
theorem g_ldc2 {Z : Zt} {la : List CD} {own : String} {cc : ByteArray} {n : Nat} {ret : Option FieldType} {d : Nat} {f : Fn} {lv : List (Nat × Value)} {pc q : Nat} {st : List Value} {i : Nat} {v : Int64} (C : CX Z la own cc n ret d) (hc : Cond.constantLong own i v ∈ GW) (hd : decode cc pc = .ok (.ldc2_w i, 3)) (hq : pc + 3 = q) (g : GG Z f lv q (.long v :: st)) : GG Z f lv pc (st) := by
  obtain ⟨p, l, e, s, m, args, below, meth, c, E, la', n', d', post⟩ := Z
  obtain ⟨hx, hb, hml, hown, hts, hr, hlk, hK, rfl, rfl, rfl⟩ := C
  subst hq
  intro H locs ls hP hS hl
  exact lv_ldc2 hx hb hown (hts _ hc) hd (g H locs ls hP hS hl)
theorem g_goto {Z : Zt} {la : List CD} {own : String} {cc : ByteArray} {n : Nat} {ret : Option FieldType} {d : Nat} {f : Fn} {lv : List (Nat × Value)} {pc q : Nat} {st : List Value} {off : Int} (C : CX Z la own cc n ret d) (hd : decode cc pc = .ok (.goto off, 3)) (hq : (pc : Int) + off = (q : Int)) (g : GG Z f lv q st) : GG Z f lv pc st := by
  obtain ⟨p, l, e, s, m, args, below, meth, c, E, la', n', d', post⟩ := Z
  obtain ⟨hx, hb, hml, hown, hts, hr, hlk, hK, rfl, rfl, rfl⟩ := C
  intro H locs ls hP hS hl
  exact lv_goto hx hb hd hq (g H locs ls hP hS hl)
theorem g_if_eq {Z : Zt} {la : List CD} {own : String} {cc : ByteArray} {n : Nat} {ret : Option FieldType} {d : Nat} {f : Fn} {lv : List (Nat × Value)} {pc q : Nat} {st : List Value} {tgt : Nat} {off : Int} {x : Int32} (C : CX Z la own cc n ret d) (hd : decode cc pc = .ok (.ifCond .eq off, 3)) (ht : (pc : Int) + off = (tgt : Int)) (hq : pc + 3 = q) (gt : x = 0 → GG Z f lv tgt st) (gf : ¬ x = 0 → GG Z f lv q st) : GG Z f lv pc (.int x :: st) := by
  obtain ⟨p, l, e, s, m, args, below, meth, c, E, la', n', d', post⟩ := Z
  obtain ⟨hx, hb, hml, hown, hts, hr, hlk, hK, rfl, rfl, rfl⟩ := C
  subst hq
  intro H locs ls hP hS hl
  exact lv_if_eq hx hb hd ht (fun h => gt h H locs ls hP hS hl) (fun h => gf h H locs ls hP hS hl)
theorem g_if_ne {Z : Zt} {la : List CD} {own : String} {cc : ByteArray} {n : Nat} {ret : Option FieldType} {d : Nat} {f : Fn} {lv : List (Nat × Value)} {pc q : Nat} {st : List Value} {tgt : Nat} {off : Int} {x : Int32} (C : CX Z la own cc n ret d) (hd : decode cc pc = .ok (.ifCond .ne off, 3)) (ht : (pc : Int) + off = (tgt : Int)) (hq : pc + 3 = q) (gt : ¬ x = 0 → GG Z f lv tgt st) (gf : x = 0 → GG Z f lv q st) : GG Z f lv pc (.int x :: st) := by
  obtain ⟨p, l, e, s, m, args, below, meth, c, E, la', n', d', post⟩ := Z
  obtain ⟨hx, hb, hml, hown, hts, hr, hlk, hK, rfl, rfl, rfl⟩ := C
  subst hq
  intro H locs ls hP hS hl
  exact lv_if_ne hx hb hd ht (fun h => gt h H locs ls hP hS hl) (fun h => gf h H locs ls hP hS hl)
theorem g_if_lt {Z : Zt} {la : List CD} {own : String} {cc : ByteArray} {n : Nat} {ret : Option FieldType} {d : Nat} {f : Fn} {lv : List (Nat × Value)} {pc q : Nat} {st : List Value} {tgt : Nat} {off : Int} {x : Int32} (C : CX Z la own cc n ret d) (hd : decode cc pc = .ok (.ifCond .lt off, 3)) (ht : (pc : Int) + off = (tgt : Int)) (hq : pc + 3 = q) (gt : x < 0 → GG Z f lv tgt st) (gf : ¬ x < 0 → GG Z f lv q st) : GG Z f lv pc (.int x :: st) := by
  obtain ⟨p, l, e, s, m, args, below, meth, c, E, la', n', d', post⟩ := Z
  obtain ⟨hx, hb, hml, hown, hts, hr, hlk, hK, rfl, rfl, rfl⟩ := C
  subst hq
  intro H locs ls hP hS hl
  exact lv_if_lt hx hb hd ht (fun h => gt h H locs ls hP hS hl) (fun h => gf h H locs ls hP hS hl)
theorem g_if_ge {Z : Zt} {la : List CD} {own : String} {cc : ByteArray} {n : Nat} {ret : Option FieldType} {d : Nat} {f : Fn} {lv : List (Nat × Value)} {pc q : Nat} {st : List Value} {tgt : Nat} {off : Int} {x : Int32} (C : CX Z la own cc n ret d) (hd : decode cc pc = .ok (.ifCond .ge off, 3)) (ht : (pc : Int) + off = (tgt : Int)) (hq : pc + 3 = q) (gt : 0 ≤ x → GG Z f lv tgt st) (gf : ¬ 0 ≤ x → GG Z f lv q st) : GG Z f lv pc (.int x :: st) := by
  obtain ⟨p, l, e, s, m, args, below, meth, c, E, la', n', d', post⟩ := Z
  obtain ⟨hx, hb, hml, hown, hts, hr, hlk, hK, rfl, rfl, rfl⟩ := C
  subst hq
  intro H locs ls hP hS hl
  exact lv_if_ge hx hb hd ht (fun h => gt h H locs ls hP hS hl) (fun h => gf h H locs ls hP hS hl)
theorem g_if_gt {Z : Zt} {la : List CD} {own : String} {cc : ByteArray} {n : Nat} {ret : Option FieldType} {d : Nat} {f : Fn} {lv : List (Nat × Value)} {pc q : Nat} {st : List Value} {tgt : Nat} {off : Int} {x : Int32} (C : CX Z la own cc n ret d) (hd : decode cc pc = .ok (.ifCond .gt off, 3)) (ht : (pc : Int) + off = (tgt : Int)) (hq : pc + 3 = q) (gt : 0 < x → GG Z f lv tgt st) (gf : ¬ 0 < x → GG Z f lv q st) : GG Z f lv pc (.int x :: st) := by
  obtain ⟨p, l, e, s, m, args, below, meth, c, E, la', n', d', post⟩ := Z
  obtain ⟨hx, hb, hml, hown, hts, hr, hlk, hK, rfl, rfl, rfl⟩ := C
  subst hq
  intro H locs ls hP hS hl
  exact lv_if_gt hx hb hd ht (fun h => gt h H locs ls hP hS hl) (fun h => gf h H locs ls hP hS hl)
theorem g_if_le {Z : Zt} {la : List CD} {own : String} {cc : ByteArray} {n : Nat} {ret : Option FieldType} {d : Nat} {f : Fn} {lv : List (Nat × Value)} {pc q : Nat} {st : List Value} {tgt : Nat} {off : Int} {x : Int32} (C : CX Z la own cc n ret d) (hd : decode cc pc = .ok (.ifCond .le off, 3)) (ht : (pc : Int) + off = (tgt : Int)) (hq : pc + 3 = q) (gt : x ≤ 0 → GG Z f lv tgt st) (gf : ¬ x ≤ 0 → GG Z f lv q st) : GG Z f lv pc (.int x :: st) := by
  obtain ⟨p, l, e, s, m, args, below, meth, c, E, la', n', d', post⟩ := Z
  obtain ⟨hx, hb, hml, hown, hts, hr, hlk, hK, rfl, rfl, rfl⟩ := C
  subst hq
  intro H locs ls hP hS hl
  exact lv_if_le hx hb hd ht (fun h => gt h H locs ls hP hS hl) (fun h => gf h H locs ls hP hS hl)
theorem g_icmp_eq {Z : Zt} {la : List CD} {own : String} {cc : ByteArray} {n : Nat} {ret : Option FieldType} {d : Nat} {f : Fn} {lv : List (Nat × Value)} {pc q : Nat} {st : List Value} {tgt : Nat} {off : Int} {x y : Int32} (C : CX Z la own cc n ret d) (hd : decode cc pc = .ok (.if_icmp .eq off, 3)) (ht : (pc : Int) + off = (tgt : Int)) (hq : pc + 3 = q) (gt : x = y → GG Z f lv tgt st) (gf : ¬ x = y → GG Z f lv q st) : GG Z f lv pc (.int y :: .int x :: st) := by
  obtain ⟨p, l, e, s, m, args, below, meth, c, E, la', n', d', post⟩ := Z
  obtain ⟨hx, hb, hml, hown, hts, hr, hlk, hK, rfl, rfl, rfl⟩ := C
  subst hq
  intro H locs ls hP hS hl
  exact lv_icmp_eq hx hb hd ht (fun h => gt h H locs ls hP hS hl) (fun h => gf h H locs ls hP hS hl)
theorem g_icmp_ne {Z : Zt} {la : List CD} {own : String} {cc : ByteArray} {n : Nat} {ret : Option FieldType} {d : Nat} {f : Fn} {lv : List (Nat × Value)} {pc q : Nat} {st : List Value} {tgt : Nat} {off : Int} {x y : Int32} (C : CX Z la own cc n ret d) (hd : decode cc pc = .ok (.if_icmp .ne off, 3)) (ht : (pc : Int) + off = (tgt : Int)) (hq : pc + 3 = q) (gt : ¬ x = y → GG Z f lv tgt st) (gf : x = y → GG Z f lv q st) : GG Z f lv pc (.int y :: .int x :: st) := by
  obtain ⟨p, l, e, s, m, args, below, meth, c, E, la', n', d', post⟩ := Z
  obtain ⟨hx, hb, hml, hown, hts, hr, hlk, hK, rfl, rfl, rfl⟩ := C
  subst hq
  intro H locs ls hP hS hl
  exact lv_icmp_ne hx hb hd ht (fun h => gt h H locs ls hP hS hl) (fun h => gf h H locs ls hP hS hl)
theorem g_icmp_lt {Z : Zt} {la : List CD} {own : String} {cc : ByteArray} {n : Nat} {ret : Option FieldType} {d : Nat} {f : Fn} {lv : List (Nat × Value)} {pc q : Nat} {st : List Value} {tgt : Nat} {off : Int} {x y : Int32} (C : CX Z la own cc n ret d) (hd : decode cc pc = .ok (.if_icmp .lt off, 3)) (ht : (pc : Int) + off = (tgt : Int)) (hq : pc + 3 = q) (gt : x < y → GG Z f lv tgt st) (gf : ¬ x < y → GG Z f lv q st) : GG Z f lv pc (.int y :: .int x :: st) := by
  obtain ⟨p, l, e, s, m, args, below, meth, c, E, la', n', d', post⟩ := Z
  obtain ⟨hx, hb, hml, hown, hts, hr, hlk, hK, rfl, rfl, rfl⟩ := C
  subst hq
  intro H locs ls hP hS hl
  exact lv_icmp_lt hx hb hd ht (fun h => gt h H locs ls hP hS hl) (fun h => gf h H locs ls hP hS hl)
theorem g_icmp_ge {Z : Zt} {la : List CD} {own : String} {cc : ByteArray} {n : Nat} {ret : Option FieldType} {d : Nat} {f : Fn} {lv : List (Nat × Value)} {pc q : Nat} {st : List Value} {tgt : Nat} {off : Int} {x y : Int32} (C : CX Z la own cc n ret d) (hd : decode cc pc = .ok (.if_icmp .ge off, 3)) (ht : (pc : Int) + off = (tgt : Int)) (hq : pc + 3 = q) (gt : y ≤ x → GG Z f lv tgt st) (gf : ¬ y ≤ x → GG Z f lv q st) : GG Z f lv pc (.int y :: .int x :: st) := by
  obtain ⟨p, l, e, s, m, args, below, meth, c, E, la', n', d', post⟩ := Z
  obtain ⟨hx, hb, hml, hown, hts, hr, hlk, hK, rfl, rfl, rfl⟩ := C
  subst hq
  intro H locs ls hP hS hl
  exact lv_icmp_ge hx hb hd ht (fun h => gt h H locs ls hP hS hl) (fun h => gf h H locs ls hP hS hl)
theorem g_icmp_gt {Z : Zt} {la : List CD} {own : String} {cc : ByteArray} {n : Nat} {ret : Option FieldType} {d : Nat} {f : Fn} {lv : List (Nat × Value)} {pc q : Nat} {st : List Value} {tgt : Nat} {off : Int} {x y : Int32} (C : CX Z la own cc n ret d) (hd : decode cc pc = .ok (.if_icmp .gt off, 3)) (ht : (pc : Int) + off = (tgt : Int)) (hq : pc + 3 = q) (gt : y < x → GG Z f lv tgt st) (gf : ¬ y < x → GG Z f lv q st) : GG Z f lv pc (.int y :: .int x :: st) := by
  obtain ⟨p, l, e, s, m, args, below, meth, c, E, la', n', d', post⟩ := Z
  obtain ⟨hx, hb, hml, hown, hts, hr, hlk, hK, rfl, rfl, rfl⟩ := C
  subst hq
  intro H locs ls hP hS hl
  exact lv_icmp_gt hx hb hd ht (fun h => gt h H locs ls hP hS hl) (fun h => gf h H locs ls hP hS hl)
theorem g_icmp_le {Z : Zt} {la : List CD} {own : String} {cc : ByteArray} {n : Nat} {ret : Option FieldType} {d : Nat} {f : Fn} {lv : List (Nat × Value)} {pc q : Nat} {st : List Value} {tgt : Nat} {off : Int} {x y : Int32} (C : CX Z la own cc n ret d) (hd : decode cc pc = .ok (.if_icmp .le off, 3)) (ht : (pc : Int) + off = (tgt : Int)) (hq : pc + 3 = q) (gt : x ≤ y → GG Z f lv tgt st) (gf : ¬ x ≤ y → GG Z f lv q st) : GG Z f lv pc (.int y :: .int x :: st) := by
  obtain ⟨p, l, e, s, m, args, below, meth, c, E, la', n', d', post⟩ := Z
  obtain ⟨hx, hb, hml, hown, hts, hr, hlk, hK, rfl, rfl, rfl⟩ := C
  subst hq
  intro H locs ls hP hS hl
  exact lv_icmp_le hx hb hd ht (fun h => gt h H locs ls hP hS hl) (fun h => gf h H locs ls hP hS hl)
theorem g_ifnull_r {Z : Zt} {la : List CD} {own : String} {cc : ByteArray} {n : Nat} {ret : Option FieldType} {d : Nat} {f : Fn} {lv : List (Nat × Value)} {pc q : Nat} {st : List Value} {off : Int} {x : Nat} (C : CX Z la own cc n ret d) (hd : decode cc pc = .ok (.ifnull off, 3)) (hq : pc + 3 = q) (g : GG Z f lv q st) : GG Z f lv pc (.ref x :: st) := by
  obtain ⟨p, l, e, s, m, args, below, meth, c, E, la', n', d', post⟩ := Z
  obtain ⟨hx, hb, hml, hown, hts, hr, hlk, hK, rfl, rfl, rfl⟩ := C
  subst hq
  intro H locs ls hP hS hl
  exact lv_ifnull hx hb hd (g H locs ls hP hS hl)
theorem g_ifnonnull_r {Z : Zt} {la : List CD} {own : String} {cc : ByteArray} {n : Nat} {ret : Option FieldType} {d : Nat} {f : Fn} {lv : List (Nat × Value)} {pc q : Nat} {st : List Value} {off : Int} {x : Nat} (C : CX Z la own cc n ret d) (hd : decode cc pc = .ok (.ifnonnull off, 3)) (hq : (pc : Int) + off = (q : Int)) (g : GG Z f lv q st) : GG Z f lv pc (.ref x :: st) := by
  obtain ⟨p, l, e, s, m, args, below, meth, c, E, la', n', d', post⟩ := Z
  obtain ⟨hx, hb, hml, hown, hts, hr, hlk, hK, rfl, rfl, rfl⟩ := C
  intro H locs ls hP hS hl
  exact lv_ifnonnull hx hb hd hq (g H locs ls hP hS hl)
theorem g_ifnull_n {Z : Zt} {la : List CD} {own : String} {cc : ByteArray} {n : Nat} {ret : Option FieldType} {d : Nat} {f : Fn} {lv : List (Nat × Value)} {pc q : Nat} {st : List Value} {off : Int} (C : CX Z la own cc n ret d) (hd : decode cc pc = .ok (.ifnull off, 3)) (hq : (pc : Int) + off = (q : Int)) (g : GG Z f lv q st) : GG Z f lv pc (.null :: st) := by
  obtain ⟨p, l, e, s, m, args, below, meth, c, E, la', n', d', post⟩ := Z
  obtain ⟨hx, hb, hml, hown, hts, hr, hlk, hK, rfl, rfl, rfl⟩ := C
  intro H locs ls hP hS hl
  exact lv_ifnullN hx hb hd hq (g H locs ls hP hS hl)
theorem g_ifnonnull_n {Z : Zt} {la : List CD} {own : String} {cc : ByteArray} {n : Nat} {ret : Option FieldType} {d : Nat} {f : Fn} {lv : List (Nat × Value)} {pc q : Nat} {st : List Value} {off : Int} (C : CX Z la own cc n ret d) (hd : decode cc pc = .ok (.ifnonnull off, 3)) (hq : pc + 3 = q) (g : GG Z f lv q st) : GG Z f lv pc (.null :: st) := by
  obtain ⟨p, l, e, s, m, args, below, meth, c, E, la', n', d', post⟩ := Z
  obtain ⟨hx, hb, hml, hown, hts, hr, hlk, hK, rfl, rfl, rfl⟩ := C
  subst hq
  intro H locs ls hP hS hl
  exact lv_ifnonnullN hx hb hd (g H locs ls hP hS hl)
theorem g_tableIn {Z : Zt} {la : List CD} {own : String} {cc : ByteArray} {n : Nat} {ret : Option FieldType} {d : Nat} {f : Fn} {lv : List (Nat × Value)} {pc q : Nat} {st : List Value} {dflt lo hi off : Int} {offs : Array Int} {len : Nat} {x : Int32} (C : CX Z la own cc n ret d) (hd : decode cc pc = .ok (.tableswitch dflt lo hi offs, len)) (h1 : ¬ x.toInt < lo) (h2 : ¬ hi < x.toInt) (ho : offs[(x.toInt - lo).toNat]? = some off) (hq : (pc : Int) + off = (q : Int)) (g : GG Z f lv q st) : GG Z f lv pc (.int x :: st) := by
  obtain ⟨p, l, e, s, m, args, below, meth, c, E, la', n', d', post⟩ := Z
  obtain ⟨hx, hb, hml, hown, hts, hr, hlk, hK, rfl, rfl, rfl⟩ := C
  intro H locs ls hP hS hl
  exact lv_tableIn hx hb hd h1 h2 ho hq (g H locs ls hP hS hl)
theorem g_tableOut {Z : Zt} {la : List CD} {own : String} {cc : ByteArray} {n : Nat} {ret : Option FieldType} {d : Nat} {f : Fn} {lv : List (Nat × Value)} {pc q : Nat} {st : List Value} {dflt lo hi : Int} {offs : Array Int} {len : Nat} {x : Int32} (C : CX Z la own cc n ret d) (hd : decode cc pc = .ok (.tableswitch dflt lo hi offs, len)) (h : x.toInt < lo ∨ hi < x.toInt) (hq : (pc : Int) + dflt = (q : Int)) (g : GG Z f lv q st) : GG Z f lv pc (.int x :: st) := by
  obtain ⟨p, l, e, s, m, args, below, meth, c, E, la', n', d', post⟩ := Z
  obtain ⟨hx, hb, hml, hown, hts, hr, hlk, hK, rfl, rfl, rfl⟩ := C
  intro H locs ls hP hS hl
  exact lv_tableOut hx hb hd h hq (g H locs ls hP hS hl)
theorem g_lookup {Z : Zt} {la : List CD} {own : String} {cc : ByteArray} {n : Nat} {ret : Option FieldType} {d : Nat} {f : Fn} {lv : List (Nat × Value)} {pc q : Nat} {st : List Value} {dflt off : Int} {ps : Array (Int × Int)} {len : Nat} {x : Int32} (C : CX Z la own cc n ret d) (hd : decode cc pc = .ok (.lookupswitch dflt ps, len)) (hp : (ps.toList.zip (ps.toList.drop 1)).all (fun (a, next) => a.1 < next.1) = true) (ho : Op.lookupswitch.offset ps.toList dflt x.toInt = off) (hq : (pc : Int) + off = (q : Int)) (g : GG Z f lv q st) : GG Z f lv pc (.int x :: st) := by
  obtain ⟨p, l, e, s, m, args, below, meth, c, E, la', n', d', post⟩ := Z
  obtain ⟨hx, hb, hml, hown, hts, hr, hlk, hK, rfl, rfl, rfl⟩ := C
  intro H locs ls hP hS hl
  exact lv_lookup hx hb hd hp ho hq (g H locs ls hP hS hl)
/-- a key of a switch is met, or not -/
theorem sw_in1 {x k : Int32} {lo : Int} (h : x = k) (hk : ¬ k.toInt < lo) : ¬ x.toInt < lo := by rw [h]; exact hk
theorem sw_in2 {x k : Int32} {hi : Int} (h : x = k) (hk : ¬ hi < k.toInt) : ¬ hi < x.toInt := by rw [h]; exact hk
theorem sw_out {x : Int32} {lo hi : Int} (ks : List Int32) (n : Nat) (h1 : ∀ k ∈ ks, ¬ x = k) (h2 : ks.map (fun k => k.toInt) = (List.range n).map (fun (i : Nat) => lo + (i : Int))) (h3 : hi = lo + (n : Int) - 1) : x.toInt < lo ∨ hi < x.toInt := by
  by_cases h : x.toInt < lo
  · exact Or.inl h
  · by_cases h' : hi < x.toInt
    · exact Or.inr h'
    · have hm : x.toInt ∈ (List.range n).map (fun (i : Nat) => lo + (i : Int)) := List.mem_map.mpr ⟨(x.toInt - lo).toNat, List.mem_range.mpr (by omega), by omega⟩
      rw [← h2] at hm
      obtain ⟨k, hk, e⟩ := List.mem_map.mp hm
      exact absurd (Int32.toInt_inj.mp e.symm) (h1 k hk)
theorem put_map {ad : Nat → Nat} {r : Nat → Int32} {fl : List Nat} {j : Nat} {v : Int32} (hf : fl[j]? = some 0) (hlen : fl.length ≤ 100) : (fl.mapIdx (fvl ad r)).set j (.int v) = fl.mapIdx (fvl ad (upd r j v)) := by
  have hlt : j < fl.length := (List.getElem?_eq_some_iff.mp hf).1
  apply List.ext_getElem?
  intro i9
  by_cases hi9 : i9 = j
  · subst hi9
    rw [List.getElem?_set_self (by simpa using hlt), List.getElem?_mapIdx, hf]
    simp [fvl, upd]
  · rw [List.getElem?_set_ne (Ne.symm hi9), List.getElem?_mapIdx, List.getElem?_mapIdx]
    by_cases hl9 : i9 < fl.length
    · rw [List.getElem?_eq_getElem hl9]
      have e1 : ¬ i9 + 100 = j := by omega
      simp [fvl, upd, hi9, e1]
    · rw [List.getElem?_eq_none (by omega)]
      simp
theorem put_mapL {ad : Nat → Nat} {r : Nat → Int32} {fl : List Nat} {j : Nat} {v : Int64} (hf : fl[j]? = some 1) (hone : ∀ i9 : Nat, fl[i9]? = some 1 → i9 = j) (hlen : fl.length ≤ 100) : (fl.mapIdx (fvl ad r)).set j (.long v) = fl.mapIdx (fvl ad (upd (upd r j (hi64 v)) (j + 100) (lo64 v))) := by
  have hlt : j < fl.length := (List.getElem?_eq_some_iff.mp hf).1
  apply List.ext_getElem?
  intro i9
  by_cases hi9 : i9 = j
  · subst hi9
    rw [List.getElem?_set_self (by simpa using hlt), List.getElem?_mapIdx, hf]
    have e1 : ¬ i9 = i9 + 100 := by omega
    simp [fvl, upd, mk64_hl]
  · rw [List.getElem?_set_ne (Ne.symm hi9), List.getElem?_mapIdx, List.getElem?_mapIdx]
    by_cases hl9 : i9 < fl.length
    · have hz1 : ¬ fl[i9] = 1 := fun h => hi9 (hone i9 (by rw [List.getElem?_eq_getElem hl9, h]))
      rw [List.getElem?_eq_getElem hl9]
      have e2 : ¬ i9 = j + 100 := by omega
      simp [fvl, upd, hi9, e2, hz1]
    · rw [List.getElem?_eq_none (by omega)]
      simp
theorem u_of {C : String} {T : u_T} {N ci : Nat} {E : Ev} {la : List CD} {f : Fn} {k : Nat} {fl : List Nat} (hk : la[k]? = some (.inl (ci, fl))) : (cw E la f)[k]? = some (E.2.1 k, .inr (ci, fl.mapIdx (fvl E.2.1 (f k)))) := cw_get hk
theorem fv_get {ad : Nat → Nat} {r : Nat → Int32} {fl : List Nat} {j c : Nat} (h : fl[j]? = some c) : (fl.mapIdx (fvl ad r))[j]? = some (fvl ad r j c) := by simp [List.getElem?_mapIdx, h]
theorem g_get {Z : Zt} {la : List CD} {own : String} {cc : ByteArray} {n : Nat} {ret : Option FieldType} {d : Nat} {f : Fn} {lv : List (Nat × Value)} {pc q : Nat} {st : List Value} {ref nm ds : String}  {T : u_T} {N ci i : Nat} {k : Nat} {fl : List Nat} {j c : Nat} (C : CX Z la own cc n ret d) (hin : ∀ w ∈ u_ws ref T N, w ∈ GW) (hc : vwCl[ci]? = some (ref, T, N)) (hj : j < N) (hT1 : (T j).1 = ref) (hT2 : (T j).2.1 = nm) (hT3 : (T j).2.2.1 = ds) (hL : Cond.fieldLink own i ref nm ds ∈ GW) (hk : la[k]? = some (.inl (ci, fl))) (hf : fl[j]? = some c) (hd : decode cc pc = .ok (.getfield i, 3)) (hq : pc + 3 = q) (g : GG Z f lv q (fvl (zad Z) (f k) j c :: st)) : GG Z f lv pc (.ref (zad Z k) :: st) := by
  obtain ⟨p, l, e, s, m, args, below, meth, c, E, la', n', d', post⟩ := Z
  obtain ⟨hx, hb, hml, hown, hts, hr, hlk, hK, rfl, rfl, rfl⟩ := C
  subst hq
  intro H locs ls hP hS hl
  subst hT2
  subst hT3
  exact va_get hx hb hts hin hown hK.1 hP k (cw_get hk) hc j hj (hts _ hL) (fun x h => by rw [← hT1]; exact h) (fv_get hf) hd (g H locs ls hP hS hl)
theorem g_put {Z : Zt} {la : List CD} {own : String} {cc : ByteArray} {n : Nat} {ret : Option FieldType} {d : Nat} {f : Fn} {lv : List (Nat × Value)} {pc q : Nat} {st : List Value} {ref nm ds : String}  {T : u_T} {N ci i : Nat} {ty0 : Nat → FieldType} {k : Nat} {fl : List Nat} {j : Nat} {v : Int32} (C : CX Z la own cc n ret d) (hin : ∀ w ∈ u_ws ref T N, w ∈ GW) (hty : ∀ k, k < N → parseFieldDescriptor (T k).2.2.1 = some (ty0 k)) (hnm : ∀ a, a < N → ∀ b, b < N → a ≠ b → (T a).2.1 ≠ (T b).2.1) (hc : vwCl[ci]? = some (ref, T, N)) (hj : j < N) (hT1 : (T j).1 = ref) (hT2 : (T j).2.1 = nm) (hT3 : (T j).2.2.1 = ds) (hfin : (T j).2.2.2 = false) (hL : Cond.fieldLink own i ref nm ds ∈ GW) (hn : narrow (ty0 j) (.int v) = .int v) (hft : fits (ty0 j) (.int v) = true) (hk : la[k]? = some (.inl (ci, fl))) (hf : fl[j]? = some 0) (hlen : fl.length ≤ 100) (hd : decode cc pc = .ok (.putfield i, 3)) (hq : pc + 3 = q) (g : GG Z (up2 f k j v) lv q st) : GG Z f lv pc (.int v :: .ref (zad Z k) :: st) := by
  obtain ⟨p, l, e, s, m, args, below, meth, c, E, la', n', d', post⟩ := Z
  obtain ⟨hx, hb, hml, hown, hts, hr, hlk, hK, rfl, rfl, rfl⟩ := C
  subst hq
  intro H locs ls hP hS hl
  subst hT2
  subst hT3
  have hlt : j < fl.length := (List.getElem?_eq_some_iff.mp hf).1
  have he := put_map (ad := E.2.1) (r := f k) (v := v) hf hlen
  rw [← up2_same f k j v] at he
  refine va_put hx hb hts hin ty0 hty hnm hown hK.1 hP (cw_D hK.2.2.2.2 f) hS k (cw_get hk) hc j hj (hts _ hL) (fun x h => by rw [← hT1]; exact h) hfin (hty j hj) hn hft (by simpa using hlt) hd (fun H1 locs1 hP1 _ hS1 => ?_)
  rw [he] at hP1
  have e2 := cw_set (E := E) (f := f) (f' := up2 f k j v) hk (fun a ha => up2_ne f ha)
  exact g H1 locs1 ls (by rw [← e2]; exact hP1) hS1 hl
theorem g_getN {Z : Zt} {la : List CD} {own : String} {cc : ByteArray} {n : Nat} {ret : Option FieldType} {d : Nat} {f : Fn} {lv : List (Nat × Value)} {pc q : Nat} {st : List Value} {ref nm ds : String} {host : String} {T : u_T} {N ci i : Nat} {k : Nat} {fl : List Nat} {j c : Nat} (C : CX Z la own cc n ret d) (hin : ∀ w ∈ u_ws ref T N, w ∈ GW) (hc : vwCl[ci]? = some (ref, T, N)) (hj : j < N) (hT1 : (T j).1 = ref) (hT2 : (T j).2.1 = nm) (hT3 : (T j).2.2.1 = ds) (hL : Cond.fieldLinkNest own i ref nm ds host ∈ NW) (hk : la[k]? = some (.inl (ci, fl))) (hf : fl[j]? = some c) (hd : decode cc pc = .ok (.getfield i, 3)) (hq : pc + 3 = q) (g : GG Z f lv q (fvl (zad Z) (f k) j c :: st)) : GG Z f lv pc (.ref (zad Z k) :: st) := by
  obtain ⟨p, l, e, s, m, args, below, meth, c, E, la', n', d', post⟩ := Z
  obtain ⟨hx, hb, hml, hown, hts, hr, hlk, hK, rfl, rfl, rfl⟩ := C
  subst hq
  intro H locs ls hP hS hl
  subst hT2
  subst hT3
  exact va_getN hx hb hts hin hown hK.1 hP k (cw_get hk) hc j hj (va_Nw.use rfl (hK.2.2.2.1 _ hL)) (fun x h => by rw [← hT1]; exact h) (fv_get hf) hd (g H locs ls hP hS hl)
theorem g_putN {Z : Zt} {la : List CD} {own : String} {cc : ByteArray} {n : Nat} {ret : Option FieldType} {d : Nat} {f : Fn} {lv : List (Nat × Value)} {pc q : Nat} {st : List Value} {ref nm ds : String} {host : String} {T : u_T} {N ci i : Nat} {ty0 : Nat → FieldType} {k : Nat} {fl : List Nat} {j : Nat} {v : Int32} (C : CX Z la own cc n ret d) (hin : ∀ w ∈ u_ws ref T N, w ∈ GW) (hty : ∀ k, k < N → parseFieldDescriptor (T k).2.2.1 = some (ty0 k)) (hnm : ∀ a, a < N → ∀ b, b < N → a ≠ b → (T a).2.1 ≠ (T b).2.1) (hc : vwCl[ci]? = some (ref, T, N)) (hj : j < N) (hT1 : (T j).1 = ref) (hT2 : (T j).2.1 = nm) (hT3 : (T j).2.2.1 = ds) (hfin : (T j).2.2.2 = false) (hL : Cond.fieldLinkNest own i ref nm ds host ∈ NW) (hn : narrow (ty0 j) (.int v) = .int v) (hft : fits (ty0 j) (.int v) = true) (hk : la[k]? = some (.inl (ci, fl))) (hf : fl[j]? = some 0) (hlen : fl.length ≤ 100) (hd : decode cc pc = .ok (.putfield i, 3)) (hq : pc + 3 = q) (g : GG Z (up2 f k j v) lv q st) : GG Z f lv pc (.int v :: .ref (zad Z k) :: st) := by
  obtain ⟨p, l, e, s, m, args, below, meth, c, E, la', n', d', post⟩ := Z
  obtain ⟨hx, hb, hml, hown, hts, hr, hlk, hK, rfl, rfl, rfl⟩ := C
  subst hq
  intro H locs ls hP hS hl
  subst hT2
  subst hT3
  have hlt : j < fl.length := (List.getElem?_eq_some_iff.mp hf).1
  have he := put_map (ad := E.2.1) (r := f k) (v := v) hf hlen
  rw [← up2_same f k j v] at he
  refine va_putN hx hb hts hin ty0 hty hnm hown hK.1 hP (cw_D hK.2.2.2.2 f) hS k (cw_get hk) hc j hj (va_Nw.use rfl (hK.2.2.2.1 _ hL)) (fun x h => by rw [← hT1]; exact h) hfin (hty j hj) hn hft (by simpa using hlt) hd (fun H1 locs1 hP1 _ hS1 => ?_)
  rw [he] at hP1
  have e2 := cw_set (E := E) (f := f) (f' := up2 f k j v) hk (fun a ha => up2_ne f ha)
  exact g H1 locs1 ls (by rw [← e2]; exact hP1) hS1 hl
theorem g_putL {Z : Zt} {la : List CD} {own : String} {cc : ByteArray} {n : Nat} {ret : Option FieldType} {d : Nat} {f : Fn} {lv : List (Nat × Value)} {pc q : Nat} {st : List Value} {ref nm ds : String} {T : u_T} {N ci i : Nat} {ty0 : Nat → FieldType} {k : Nat} {fl : List Nat} {j : Nat} {v : Int64} (C : CX Z la own cc n ret d) (hin : ∀ w ∈ u_ws ref T N, w ∈ GW) (hty : ∀ k, k < N → parseFieldDescriptor (T k).2.2.1 = some (ty0 k)) (hnm : ∀ a, a < N → ∀ b, b < N → a ≠ b → (T a).2.1 ≠ (T b).2.1) (hc : vwCl[ci]? = some (ref, T, N)) (hj : j < N) (hT1 : (T j).1 = ref) (hT2 : (T j).2.1 = nm) (hT3 : (T j).2.2.1 = ds) (hfin : (T j).2.2.2 = false) (hL : Cond.fieldLink own i ref nm ds ∈ GW) (ht0 : ty0 j = .long) (hk : la[k]? = some (.inl (ci, fl))) (hf : fl[j]? = some 1) (hone : ∀ i9 : Nat, fl[i9]? = some 1 → i9 = j) (hlen : fl.length ≤ 100) (hd : decode cc pc = .ok (.putfield i, 3)) (hq : pc + 3 = q) (g : GG Z (up2 (up2 f k j (hi64 v)) k (j + 100) (lo64 v)) lv q st) : GG Z f lv pc (.long v :: .ref (zad Z k) :: st) := by
  obtain ⟨p, l, e, s, m, args, below, meth, c, E, la', n', d', post⟩ := Z
  obtain ⟨hx, hb, hml, hown, hts, hr, hlk, hK, rfl, rfl, rfl⟩ := C
  subst hq
  intro H locs ls hP hS hl
  subst hT2
  subst hT3
  have hlt : j < fl.length := (List.getElem?_eq_some_iff.mp hf).1
  have er : up2 (up2 f k j (hi64 v)) k (j + 100) (lo64 v) k = upd (upd (f k) j (hi64 v)) (j + 100) (lo64 v) := by rw [up2_same, up2_same]
  have he := put_mapL (ad := E.2.1) (r := f k) (v := v) hf hone hlen
  rw [← er] at he
  refine va_put hx hb hts hin ty0 hty hnm hown hK.1 hP (cw_D hK.2.2.2.2 f) hS k (cw_get hk) hc j hj (hts _ hL) (fun x h => by rw [← hT1]; exact h) hfin (hty j hj) (by rw [ht0]; rfl) (by rw [ht0]; rfl) (by simpa using hlt) hd (fun H1 locs1 hP1 _ hS1 => ?_)
  rw [he] at hP1
  have e2 := cw_set (E := E) (f := f) (f' := up2 (up2 f k j (hi64 v)) k (j + 100) (lo64 v)) hk (fun a ha => by rw [up2_ne _ ha, up2_ne _ ha])
  exact g H1 locs1 ls (by rw [← e2]; exact hP1) hS1 hl
theorem g_iald {Z : Zt} {la : List CD} {own : String} {cc : ByteArray} {n : Nat} {ret : Option FieldType} {d : Nat} {f : Fn} {lv : List (Nat × Value)} {pc q : Nat} {st : List Value} {k N : Nat} {i : Int32} (C : CX Z la own cc n ret d) (hk : la[k]? = some (.inr (.inl N))) (hi : vp_in i N) (hd : decode cc pc = .ok (.iaload, 1)) (hq : pc + 1 = q) (g : GG Z f lv q (.int (f k i.toNatClampNeg) :: st)) : GG Z f lv pc (.int i :: .ref (zad Z k) :: st) := by
  obtain ⟨p, l, e, s, m, args, below, meth, c, E, la', n', d', post⟩ := Z
  obtain ⟨hx, hb, hml, hown, hts, hr, hlk, hK, rfl, rfl, rfl⟩ := C
  subst hq
  intro H locs ls hP hS hl
  exact va_iald hx hb hK.1 hP k 0 (cw_get hk) rfl hi hd (g H locs ls hP hS hl)
theorem g_iast {Z : Zt} {la : List CD} {own : String} {cc : ByteArray} {n : Nat} {ret : Option FieldType} {d : Nat} {f : Fn} {lv : List (Nat × Value)} {pc q : Nat} {st : List Value} {k N : Nat} {i v : Int32} (C : CX Z la own cc n ret d) (hk : la[k]? = some (.inr (.inl N))) (hi : vp_in i N) (hd : decode cc pc = .ok (.iastore, 1)) (hq : pc + 1 = q) (g : GG Z (up2 f k i.toNatClampNeg v) lv q st) : GG Z f lv pc (.int v :: .int i :: .ref (zad Z k) :: st) := by
  obtain ⟨p, l, e, s, m, args, below, meth, c, E, la', n', d', post⟩ := Z
  obtain ⟨hx, hb, hml, hown, hts, hr, hlk, hK, rfl, rfl, rfl⟩ := C
  subst hq
  intro H locs ls hP hS hl
  refine va_iast hx hb hK.1 hP (cw_D hK.2.2.2.2 f) hS k 0 (cw_get hk) rfl hi hd (fun H1 locs1 hP1 _ hS1 => ?_)
  have e2 := cw_set (E := E) (f := f) (f' := up2 f k i.toNatClampNeg v) hk (fun a ha => up2_ne f ha)
  rw [up2_same] at e2
  exact g H1 locs1 ls (by rw [← e2]; exact hP1) hS1 hl
theorem g_ialen {Z : Zt} {la : List CD} {own : String} {cc : ByteArray} {n : Nat} {ret : Option FieldType} {d : Nat} {f : Fn} {lv : List (Nat × Value)} {pc q : Nat} {st : List Value} {k N : Nat} {v : Int32} (C : CX Z la own cc n ret d) (hk : la[k]? = some (.inr (.inl N))) (hv : Int32.ofNat N = v) (hd : decode cc pc = .ok (.arraylength, 1)) (hq : pc + 1 = q) (g : GG Z f lv q (.int v :: st)) : GG Z f lv pc (.ref (zad Z k) :: st) := by
  obtain ⟨p, l, e, s, m, args, below, meth, c, E, la', n', d', post⟩ := Z
  obtain ⟨hx, hb, hml, hown, hts, hr, hlk, hK, rfl, rfl, rfl⟩ := C
  subst hq
  intro H locs ls hP hS hl
  exact va_alen hx hb hK.1 hP k 0 (cw_get hk) rfl hv hd (g H locs ls hP hS hl)
theorem g_aald {Z : Zt} {la : List CD} {own : String} {cc : ByteArray} {n : Nat} {ret : Option FieldType} {d : Nat} {f : Fn} {lv : List (Nat × Value)} {pc q : Nat} {st : List Value} {k w : Nat} {rs : List Nat} {i : Int32} (C : CX Z la own cc n ret d) (hk : la[k]? = some (.inr (.inr (w, rs)))) (hw : w < 2) (hi : vp_in i rs.length) (hd : decode cc pc = .ok (.aaload, 1)) (hq : pc + 1 = q) (g : ∀ r : Nat, rs[i.toNatClampNeg]? = some r → GG Z f lv q (.ref (zad Z r) :: st)) : GG Z f lv pc (.int i :: .ref (zad Z k) :: st) := by
  obtain ⟨p, l, e, s, m, args, below, meth, c, E, la', n', d', post⟩ := Z
  obtain ⟨hx, hb, hml, hown, hts, hr, hlk, hK, rfl, rfl, rfl⟩ := C
  subst hq
  intro H locs ls hP hS hl
  have hlt : i.toNatClampNeg < rs.length := Nat.not_le.mp fun q => hi (Or.inr q)
  have hr : rs[i.toNatClampNeg]? = some rs[i.toNatClampNeg] := List.getElem?_eq_getElem hlt
  have g2 := g _ hr H locs ls hP hS hl
  have e1 : va_rf ((rs[i.toNatClampNeg]?).map E.2.1) = .ref (E.2.1 rs[i.toNatClampNeg]) := by rw [hr]; rfl
  rcases (show w = 0 ∨ w = 1 by omega) with rfl | rfl
  · exact va_aldq hx hb hK.1 hP k 1 (cw_get hk) rfl hi hd (by rw [e1]; exact g2)
  · exact va_aldq hx hb hK.1 hP k 2 (cw_get hk) rfl hi hd (by rw [e1]; exact g2)
theorem g_bods {Z : Zt} {la : List CD} {own : String} {cc : ByteArray} {n : Nat} {ret : Option FieldType} {d : Nat} {f : Fn} {lv : List (Nat × Value)} {pc q : Nat} {st : List Value} {i : Nat} (C : CX Z la own cc n ret d) (hL : Cond.fieldLink own i "CatchBars$Voices" "BODIES" "[I" ∈ GW) (hd : decode cc pc = .ok (.getstatic i, 3)) (hq : pc + 3 = q) (g : GG Z f lv q (.ref (ztB Z) :: st)) : GG Z f lv pc st := by
  obtain ⟨p, l, e, s, m, args, below, meth, c, E, la', n', d', post⟩ := Z
  obtain ⟨hx, hb, hml, hown, hts, hr, hlk, hK, rfl, rfl, rfl⟩ := C
  subst hq
  intro H locs ls hP hS hl
  exact va_gets hx hb hK.2.1 hS hown (hts _ hL) (fun _ h => h) hd (g H locs ls hP hS hl)
theorem g_bodl {Z : Zt} {la : List CD} {own : String} {cc : ByteArray} {n : Nat} {ret : Option FieldType} {d : Nat} {f : Fn} {lv : List (Nat × Value)} {pc q : Nat} {st : List Value} (C : CX Z la own cc n ret d) (hd : decode cc pc = .ok (.arraylength, 1)) (hq : pc + 1 = q) (g : GG Z f lv q (.int 28 :: st)) : GG Z f lv pc (.ref (ztB Z) :: st) := by
  obtain ⟨p, l, e, s, m, args, below, meth, c, E, la', n', d', post⟩ := Z
  obtain ⟨hx, hb, hml, hown, hts, hr, hlk, hK, rfl, rfl, rfl⟩ := C
  subst hq
  intro H locs ls hP hS hl
  exact va_tlen hx hb hK.2.2.1 hS rfl hd (g H locs ls hP hS hl)
theorem g_bodi {Z : Zt} {la : List CD} {own : String} {cc : ByteArray} {n : Nat} {ret : Option FieldType} {d : Nat} {f : Fn} {lv : List (Nat × Value)} {pc q : Nat} {st : List Value} {i : Int32} (C : CX Z la own cc n ret d) (hi : vp_in i 28) (hd : decode cc pc = .ok (.iaload, 1)) (hq : pc + 1 = q) (g : GG Z f lv q (.int (BV i.toNatClampNeg) :: st)) : GG Z f lv pc (.int i :: .ref (ztB Z) :: st) := by
  obtain ⟨p, l, e, s, m, args, below, meth, c, E, la', n', d', post⟩ := Z
  obtain ⟨hx, hb, hml, hown, hts, hr, hlk, hK, rfl, rfl, rfl⟩ := C
  subst hq
  intro H locs ls hP hS hl
  exact va_ti hx hb hK.2.2.1 hS hi rfl hd (g H locs ls hP hS hl)
theorem g_copy {Z : Zt} {la : List CD} {own : String} {cc : ByteArray} {n : Nat} {ret : Option FieldType} {d : Nat} {f : Fn} {lv : List (Nat × Value)} {pc q : Nat} {st : List Value} {i k0 k1 N0 N1 : Nat} {sp dp m0 : Int32} (C : CX Z la own cc n ret d) (hl1 : Cond.methodLink own i arraycopyName ∈ GW) (hl2 : Cond.native arraycopyName ∈ GW) (hl3 : Cond.static arraycopyName ∈ GW) (hl4 : Cond.initialized RJ10 ∈ GW) (hk0 : la[k0]? = some (.inr (.inl N0))) (hk1 : la[k1]? = some (.inr (.inl N1))) (h1 : ¬ sp < 0) (h2 : ¬ dp < 0) (h3 : ¬ m0 < 0) (h4 : sp.toNatClampNeg + m0.toNatClampNeg ≤ N0) (h5 : dp.toNatClampNeg + m0.toNatClampNeg ≤ N1) (hd1 : 1 ≤ d) (hro : (st.map fun v => v.category).sum + (nativeFrameWords "java/lang/System" "arraycopy" 5 + 11) ≤ 40 * d) (hd : decode cc pc = .ok (.invokestatic i, 3)) (hq : pc + 3 = q) (g : ∀ f' : Fn, f' = (fun a => if a = k1 then va_cpy (f k0) (f k1) sp.toNatClampNeg dp.toNatClampNeg m0.toNatClampNeg else f a) → GG Z f' lv q st) : GG Z f lv pc (.int m0 :: .int dp :: .ref (zad Z k1) :: .int sp :: .ref (zad Z k0) :: st) := by
  obtain ⟨p, l, e, s, m, args, below, meth, c, E, la', n', d', post⟩ := Z
  obtain ⟨hx, hb, hml, hown, hts, hr, hlk, hK, rfl, rfl, rfl⟩ := C
  subst hq
  intro H locs ls hP hS hl
  refine va_copyi hx hb (by rw [hml, hl.1]) hown (hts _ hl1) (hts _ hl2) (hts _ hl3) (hts _ hl4) hK.1 hP (cw_D hK.2.2.2.2 f) hS k0 k1 0 0 (cw_get hk0) (cw_get hk1) rfl rfl rfl h1 h2 h3 h4 h5 (fun _ _ => rfl) hd1 hro hd (fun H1 locs1 hP1 _ hS1 => ?_)
  have e2 := cw_set (E := E) (f := f) (f' := fun a => if a = k1 then va_cpy (f k0) (f k1) sp.toNatClampNeg dp.toNatClampNeg m0.toNatClampNeg else f a) hk1 (fun a ha => by simp [ha])
  simp only [if_true] at e2
  exact g _ rfl H1 locs1 ls (by rw [← e2]; exact hP1) hS1 hl
theorem g_mmax {Z : Zt} {la : List CD} {own : String} {cc : ByteArray} {n : Nat} {ret : Option FieldType} {d : Nat} {f : Fn} {lv : List (Nat × Value)} {pc q : Nat} {st : List Value} {i : Nat} {x y : Int32} (C : CX Z la own cc n ret d) (h1 : Cond.methodLink own i Lib.Math.max.name ∈ GW) (h2 : Cond.static Lib.Math.max.name ∈ GW) (h3 : Cond.initialized "java/lang/Math" ∈ GW) (h4 : Cond.code Lib.Math.max.name Lib.Math.max.code 2 (some .int) ∈ GW) (hd1 : 1 ≤ d) (hro : (st.map fun v => v.category).sum + 13 ≤ 40 * d) (hd : decode cc pc = .ok (.invokestatic i, 3)) (hq : pc + 3 = q) (g : GG Z f lv q (.int (if x < y then y else x) :: st)) : GG Z f lv pc (.int y :: .int x :: st) := by
  obtain ⟨p, l, e, s, m, args, below, meth, c, E, la', n', d', post⟩ := Z
  obtain ⟨hx, hb, hml, hown, hts, hr, hlk, hK, rfl, rfl, rfl⟩ := C
  subst hq
  intro H locs ls hP hS hl
  exact va_mmax hx hb (by rw [hml, hl.1]) hown (hts _ h1) (hts _ h2) (hts _ h3) (hts _ h4) hd1 hro (Nat.le_refl 0) (Nat.le_refl 0) hd (g H locs ls hP hS hl)
theorem g_mmin {Z : Zt} {la : List CD} {own : String} {cc : ByteArray} {n : Nat} {ret : Option FieldType} {d : Nat} {f : Fn} {lv : List (Nat × Value)} {pc q : Nat} {st : List Value} {i : Nat} {x y : Int32} (C : CX Z la own cc n ret d) (h1 : Cond.methodLink own i Lib.Math.min.name ∈ GW) (h2 : Cond.static Lib.Math.min.name ∈ GW) (h3 : Cond.initialized "java/lang/Math" ∈ GW) (h4 : Cond.code Lib.Math.min.name Lib.Math.min.code 2 (some .int) ∈ GW) (hd1 : 1 ≤ d) (hro : (st.map fun v => v.category).sum + 13 ≤ 40 * d) (hd : decode cc pc = .ok (.invokestatic i, 3)) (hq : pc + 3 = q) (g : GG Z f lv q (.int (if y < x then y else x) :: st)) : GG Z f lv pc (.int y :: .int x :: st) := by
  obtain ⟨p, l, e, s, m, args, below, meth, c, E, la', n', d', post⟩ := Z
  obtain ⟨hx, hb, hml, hown, hts, hr, hlk, hK, rfl, rfl, rfl⟩ := C
  subst hq
  intro H locs ls hP hS hl
  exact va_mmin hx hb (by rw [hml, hl.1]) hown (hts _ h1) (hts _ h2) (hts _ h3) (hts _ h4) hd1 hro (Nat.le_refl 0) (Nat.le_refl 0) hd (g H locs ls hP hS hl)
theorem g_mabs {Z : Zt} {la : List CD} {own : String} {cc : ByteArray} {n : Nat} {ret : Option FieldType} {d : Nat} {f : Fn} {lv : List (Nat × Value)} {pc q : Nat} {st : List Value} {i : Nat} {x : Int32} (C : CX Z la own cc n ret d) (h1 : Cond.methodLink own i Lib.Math.abs.name ∈ GW) (h2 : Cond.static Lib.Math.abs.name ∈ GW) (h3 : Cond.initialized "java/lang/Math" ∈ GW) (h4 : Cond.code Lib.Math.abs.name Lib.Math.abs.code 1 (some .int) ∈ GW) (hd1 : 1 ≤ d) (hro : (st.map fun v => v.category).sum + 13 ≤ 40 * d) (hd : decode cc pc = .ok (.invokestatic i, 3)) (hq : pc + 3 = q) (g : GG Z f lv q (.int (if 0 ≤ x then x else 0 - x) :: st)) : GG Z f lv pc (.int x :: st) := by
  obtain ⟨p, l, e, s, m, args, below, meth, c, E, la', n', d', post⟩ := Z
  obtain ⟨hx, hb, hml, hown, hts, hr, hlk, hK, rfl, rfl, rfl⟩ := C
  subst hq
  intro H locs ls hP hS hl
  exact va_mabs hx hb (by rw [hml, hl.1]) hown (hts _ h1) (hts _ h2) (hts _ h3) (hts _ h4) hd1 hro (Nat.le_refl 0) (Nat.le_refl 0) hd (g H locs ls hP hS hl)
theorem g_end {s : State} {args : Array Value} {E : Ev} {la : List CD} {post : Option Value → Fn → Prop} {f : Fn} {H : Heap} {locs : List Loc} {v : Option Value} (hp : post v f) (hP : va_P E.1 vwCl (cw E la f) H) (hS : va_S (EA E la) s.heap H locs) : ∀ t : State, t.heap = H → s.WarmedH t.vm → QC E la post args s (.returned v) t := fun t ht _ => ⟨⟨v, f, rfl, hp, by rw [ht]; exact hP⟩, hS.F ht⟩
theorem g_iret {Z : Zt} {la : List CD} {own : String} {cc : ByteArray} {n : Nat} {d : Nat} {f : Fn} {lv : List (Nat × Value)} {pc : Nat} {v : Int32} (C : CX Z la own cc n (some .int) d) (hd : decode cc pc = .ok (.ireturn, 1)) (hp : zp Z (some (.int v)) f) : GG Z f lv pc [.int v] := by
  obtain ⟨p, l, e, s, m, args, below, meth, c, E, la', n', d', post⟩ := Z
  obtain ⟨hx, hb, hml, hown, hts, hr, hlk, hK, rfl, rfl, rfl⟩ := C
  intro H locs ls hP hS hl
  exact W.iret hx hb hr (g_end (post := post) hp hP hS) hS.2.2 hd hlk
theorem g_zret {Z : Zt} {la : List CD} {own : String} {cc : ByteArray} {n : Nat} {d : Nat} {f : Fn} {lv : List (Nat × Value)} {pc : Nat} {v : Int32} (C : CX Z la own cc n (some .boolean) d) (hn : v = 0 ∨ v = 1) (hd : decode cc pc = .ok (.ireturn, 1)) (hp : zp Z (some (.int v)) f) : GG Z f lv pc [.int v] := by
  obtain ⟨p, l, e, s, m, args, below, meth, c, E, la', n', d', post⟩ := Z
  obtain ⟨hx, hb, hml, hown, hts, hr, hlk, hK, rfl, rfl, rfl⟩ := C
  intro H locs ls hP hS hl
  exact W.zret hx hb hr (by rcases hn with rfl | rfl <;> rfl) (g_end (post := post) hp hP hS) hS.2.2 hd hlk
theorem g_lret {Z : Zt} {la : List CD} {own : String} {cc : ByteArray} {n : Nat} {d : Nat} {f : Fn} {lv : List (Nat × Value)} {pc : Nat} {v : Int64} (C : CX Z la own cc n (some .long) d) (hd : decode cc pc = .ok (.lreturn, 1)) (hp : zp Z (some (.long v)) f) : GG Z f lv pc [.long v] := by
  obtain ⟨p, l, e, s, m, args, below, meth, c, E, la', n', d', post⟩ := Z
  obtain ⟨hx, hb, hml, hown, hts, hr, hlk, hK, rfl, rfl, rfl⟩ := C
  intro H locs ls hP hS hl
  exact W.lret hx hb hr (g_end (post := post) hp hP hS) hS.2.2 hd hlk
theorem g_vret {Z : Zt} {la : List CD} {own : String} {cc : ByteArray} {n : Nat} {d : Nat} {f : Fn} {lv : List (Nat × Value)} {pc : Nat} (C : CX Z la own cc n none d) (hd : decode cc pc = .ok (.return_, 1)) (hp : zp Z none f) : GG Z f lv pc [] := by
  obtain ⟨p, l, e, s, m, args, below, meth, c, E, la', n', d', post⟩ := Z
  obtain ⟨hx, hb, hml, hown, hts, hr, hlk, hK, rfl, rfl, rfl⟩ := C
  intro H locs ls hP hS hl
  exact W.vret hx hb hr (g_end (post := post) hp hP hS) hS.2.2 hd hlk
theorem g_aret {Z : Zt} {la : List CD} {own : String} {cc : ByteArray} {n : Nat} {d : Nat} {f : Fn} {lv : List (Nat × Value)} {pc : Nat} {v : Value} {cn : String} (C : CX Z la own cc n (some (.object cn)) d) (hv : v = .null ∨ ∃ a, v = .ref a) (hd : decode cc pc = .ok (.areturn, 1)) (hp : zp Z (some v) f) : GG Z f lv pc [v] := by
  obtain ⟨p, l, e, s, m, args, below, meth, c, E, la', n', d', post⟩ := Z
  obtain ⟨hx, hb, hml, hown, hts, hr, hlk, hK, rfl, rfl, rfl⟩ := C
  intro H locs ls hP hS hl
  exact W.aret hx hb hr (Or.inl ⟨_, rfl⟩) hv (g_end (post := post) hp hP hS) hS.2.2 hd hlk
theorem mt_ofWF {l : Launch} {y : MethodName} {ws ws' : List Cond} {rm : Room} {Pc : Array Value → State → Prop} {Qc : Array Value → State → Outcome → State → Prop} {mc ms : Nat} {free : Addr → Prop} {cc : ByteArray} {maxL : Nat} {ret : Option FieldType}
    (hy : plainFor y = true) (hw : ws = Cond.code y cc maxL ret :: ws')
    (body : ∀ p e s m args below meth c s₁, BodyLoose p l y (headSpec ws rm) cc maxL ret e s m args below meth c s₁ → c.maxLocals = maxL → Pc args s →
      W p l e (headSpec ws rm).room s m args below meth c s.heap [] 0 0 (MQ below Qc args s mc ms free) (entryFrame m args maxL)) : Met l y ws rm Pc Qc mc ms free := by
  refine MetFree.of_bodySF (code := cc) (maxLocals := maxL) (ret := ret) hy ?_ ?_
  · intro args s m h hn
    obtain ⟨meth, c, h1, h2, h3, h4, h5, h6, -, -⟩ := Cond.code_spec hn (atoms_spec (ws := ws) h _ (by rw [hw]; exact List.mem_cons_self))
    exact ⟨meth, c, h1, h2, h3, h4, h5, h6⟩
  · intro p e s m args below meth c s₁ B hml hP _
    have hh0 : s₁.heap = s.heap := by rw [B.state]; rfl
    obtain ⟨t, a1, o, b1, b2, b3⟩ := body p e s m args below meth c s₁ B hml hP s₁ hh0 (Stand.of_body B)
    exact ⟨t, o, a1, b1, b2, ⟨b3.1, b3.2⟩⟩
/-- a contract out of a walk -/
theorem CT.of {l : Launch} {E : Ev} {la : List CD} {y : MethodName} {b : ByteArray} {n : Nat} {ret : Option FieldType} {d : Nat} {av : List Value} {f : Fn} {post : Option Value → Fn → Prop} (hy : plainFor y = true) (hn : (lg_sl av).length ≤ n)
    (h : ∀ Z : Zt, zl Z = l → zE Z = E → zp Z = post → CX Z la y.cls b n ret d → GG Z f (lv_args 0 av) 0 []) : CT l E la y b n ret d av f post := by
  refine mt_ofWF (cc := b) (maxL := n) (ret := ret) hy rfl ?_
  intro p e s m args below meth c s₁ B hml hv
  obtain ⟨rfl, hP, hK⟩ := hv
  have hts := atoms_spec (ws := .code y b n ret :: GW) B.pre
  have hown : s.vm.findClass y.cls = some m.cls := findClass_of_methodNamed B.named
  have hl := lv_entry av (n := n) hn
  rw [lg_entry_eq]
  exact h (p, l, e, s, m, av.toArray, below, meth, c, E, la, n, d, post) rfl rfl rfl ⟨B.exec, B.bytes, hml, hown, fun w hw => hts w (List.mem_cons_of_mem _ hw), B.returns, B.notSynchronized, hK, rfl, rfl, rfl⟩ s.heap [] _ hP va_S.rf hl
theorem gw_good {y : MethodName} {b : ByteArray} {n : Nat} {ret : Option FieldType} (h : Cond.code y b n ret ∈ GW) : GoodIn GW (.code y b n ret :: GW) := fun w hw => by
  have hm : w ∈ GW := (List.mem_cons.mp hw).elim (fun e => e ▸ h) id
  exact ⟨hm, good_of_word (List.all_eq_true.mp gw_all w hm)⟩
/-- behind a call -/
theorem g_back {p : Program} {l : Launch} {e : Env} {s : State} {m : MethodId} {args : Array Value} {below : List Frame} {meth : Method} {c : Code} {H : Heap} {locs : List Loc} {R : Room} {Q : State → Prop} {pc : Nat} {ls : Array Slot} {st0 rest : List Value} {a : Array Value} {E : Ev} {la : List CD} {post : Option Value → Fn → Prop} (hr : va_Run p l e R s m args below meth c H locs 0 0 0 0 (F0 m pc ls st0) rest (QC E la post a) (EA E la)) (hS : va_S (EA E la) s.heap H locs)
    (kk : ∀ (v : Option Value) (f' : Fn) (H1 : Heap) (locs1 : List Loc), post v f' → va_P E.1 vwCl (cw E la f') H1 → va_S (EA E la) s.heap H1 locs1 → W p l e R s m args below meth c H1 locs1 0 0 Q (F0 m (pc + 3) ls (v.toList ++ rest))) : W p l e R s m args below meth c H locs 0 0 Q (F0 m pc ls st0) := by
  intro T hT X
  obtain ⟨v, st₀, t, T', L, h0, X', hL, e1, e2, ⟨⟨v', f', hv, hp, hb⟩, hz, hk⟩, st⟩ := hr T hT X
  cases hv
  rw [h0] at hz hk
  obtain ⟨t2, a1, b1⟩ := kk v f' T'.heap (locs ++ L) hp (by rw [e1]; exact hb)
    ⟨Nat.le_trans hS.1 (by rw [e1]; exact hz), fun q h1 h2 => by rw [e1, hk q (Nat.lt_of_lt_of_le h1 hS.1) h2]; exact hS.2.1 q h1 h2, fun q hq => by
      rcases List.mem_append.mp hq with h | h
      · exact hS.2.2 q h
      · exact hL q h⟩ T' rfl X'
  exact ⟨t2, st t2 a1, b1⟩
theorem g_callV {Z : Zt} {la : List CD} {own : String} {cc : ByteArray} {n : Nat} {ret : Option FieldType} {d : Nat} {f : Fn} {lv : List (Nat × Value)} {pc q : Nat} {st : List Value} {y : MethodName}  {b : ByteArray} {n2 : Nat} {ret2 : Option FieldType} {d2 i na : Nat} {As : List Value} {post : Option Value → Fn → Prop} {k ci : Nat} {fl : List Nat} {T : u_T} {N : Nat} (C : CX Z la own cc n ret d) (hL : Cond.methodLink own i y ∈ GW) (hin : Cond.instanceMethod y ∈ GW) (hse : Cond.selects y.cls y y ∈ GW) (hi : Cond.initialized y.cls ∈ GW) (hco : Cond.code y b n2 ret2 ∈ GW) (hy : y.cls ≠ "java/lang/invoke/MethodHandle" ∧ y.cls ≠ "java/lang/invoke/VarHandle" ∧ (parseMethodDescriptor y.desc).map (fun d => d.parameters.length) = some na) (hn2 : n2 ≤ 20) (hdd : d2 + 1 ≤ d) (hna : As.length = na) (hst : (st.map fun v => v.category).sum ≤ 8) (hk : la[k]? = some (.inl (ci, fl))) (hc : vwCl[ci]? = some (y.cls, T, N)) (hct : CT (zl Z) (zE Z) la y b n2 ret2 d2 (.ref (zad Z k) :: As) f post) (hd : decode cc pc = .ok (.invokevirtual i, 3)) (hq : pc + 3 = q) (g : ∀ (v : Option Value) (f' : Fn), post v f' → GG Z f' lv q (v.toList ++ st)) {st0 : List Value} (h0 : st0 = As.reverse ++ .ref (zad Z k) :: st) : GG Z f lv pc st0 := by
  subst h0
  obtain ⟨p, l, e, s, m, args, below, meth, c, E, la', n', d', post⟩ := Z
  obtain ⟨hx, hb, hml, hown, hts, hr, hlk, hK, rfl, rfl, rfl⟩ := C
  subst hq
  intro H locs ls hP hS hl
  exact g_back (va_runV (As := As) (rest := st) ⟨hx, hb, hml, hown, hts⟩ hct ⟨callB_of na hts (gw_good hco) rfl rfl rfl (hts _ hi) (hts _ hL) hy ⟨by show d2 + 1 ≤ d'; exact hdd, by show 8 + (n2 + 11) + 40 * d2 ≤ 40 * d'; omega⟩, hts _ hin, hts _ hse⟩ ⟨fun a U g mk z => ⟨z.1, z.2.1, KK.blind z.2.2⟩, va_recv hK.1 hP hc (cw_get hk), fun U hU hW => ⟨rfl, by rw [hU]; exact hP, KK.warm hU hW hS hK⟩⟩ rfl hna hl.1 rfl (lv_room hst) hd ⟨Nat.le_refl 0, Nat.le_refl 0⟩) hS (fun v f' H1 locs1 hp hP1 hS1 => g v f' hp H1 locs1 ls hP1 hS1 hl)
theorem g_callS {Z : Zt} {la : List CD} {own : String} {cc : ByteArray} {n : Nat} {ret : Option FieldType} {d : Nat} {f : Fn} {lv : List (Nat × Value)} {pc q : Nat} {st : List Value} {y : MethodName}  {b : ByteArray} {n2 : Nat} {ret2 : Option FieldType} {d2 i na : Nat} {As : List Value} {post : Option Value → Fn → Prop} (C : CX Z la own cc n ret d) (hL : Cond.methodLink own i y ∈ GW) (hsta : Cond.static y ∈ GW) (hi : Cond.initialized y.cls ∈ GW) (hco : Cond.code y b n2 ret2 ∈ GW) (hy : y.cls ≠ "java/lang/invoke/MethodHandle" ∧ y.cls ≠ "java/lang/invoke/VarHandle" ∧ (parseMethodDescriptor y.desc).map (fun d => d.parameters.length) = some na) (hn2 : n2 ≤ 20) (hdd : d2 + 1 ≤ d) (hna : As.length = na) (hst : (st.map fun v => v.category).sum ≤ 8) (hct : CT (zl Z) (zE Z) la y b n2 ret2 d2 As f post) (hd : decode cc pc = .ok (.invokestatic i, 3)) (hq : pc + 3 = q) (g : ∀ (v : Option Value) (f' : Fn), post v f' → GG Z f' lv q (v.toList ++ st)) {st0 : List Value} (h0 : st0 = As.reverse ++ st) : GG Z f lv pc st0 := by
  subst h0
  obtain ⟨p, l, e, s, m, args, below, meth, c, E, la', n', d', post⟩ := Z
  obtain ⟨hx, hb, hml, hown, hts, hr, hlk, hK, rfl, rfl, rfl⟩ := C
  subst hq
  intro H locs ls hP hS hl
  exact g_back (va_runS (As := As) (rest := st) ⟨hx, hb, hml, hown, hts⟩ hct ⟨callB_of na hts (gw_good hco) rfl rfl rfl (hts _ hi) (hts _ hL) hy ⟨by show d2 + 1 ≤ d'; exact hdd, by show 8 + (n2 + 11) + 40 * d2 ≤ 40 * d'; omega⟩, hts _ hsta⟩ ⟨fun a U g mk z => ⟨z.1, z.2.1, KK.blind z.2.2⟩, fun U hU hW => ⟨rfl, by rw [hU]; exact hP, KK.warm hU hW hS hK⟩⟩ rfl hna hl.1 rfl (lv_room hst) hd ⟨Nat.le_refl 0, Nat.le_refl 0⟩) hS (fun v f' H1 locs1 hp hP1 hS1 => g v f' hp H1 locs1 ls hP1 hS1 hl)
theorem g_callVN {Z : Zt} {la : List CD} {own : String} {cc : ByteArray} {n : Nat} {ret : Option FieldType} {d : Nat} {f : Fn} {lv : List (Nat × Value)} {pc q : Nat} {st : List Value} {y : MethodName} {host : String} {b : ByteArray} {n2 : Nat} {ret2 : Option FieldType} {d2 i na : Nat} {As : List Value} {post : Option Value → Fn → Prop} {k ci : Nat} {fl : List Nat} {T : u_T} {N : Nat} (C : CX Z la own cc n ret d) (hL : Cond.methodLinkNest own i y host ∈ NW) (hin : Cond.instanceMethod y ∈ GW) (hse : Cond.selects y.cls y y ∈ GW) (hi : Cond.initialized y.cls ∈ GW) (hco : Cond.code y b n2 ret2 ∈ GW) (hy : y.cls ≠ "java/lang/invoke/MethodHandle" ∧ y.cls ≠ "java/lang/invoke/VarHandle" ∧ (parseMethodDescriptor y.desc).map (fun d => d.parameters.length) = some na) (hn2 : n2 ≤ 20) (hdd : d2 + 1 ≤ d) (hna : As.length = na) (hst : (st.map fun v => v.category).sum ≤ 8) (hk : la[k]? = some (.inl (ci, fl))) (hc : vwCl[ci]? = some (y.cls, T, N)) (hct : CT (zl Z) (zE Z) la y b n2 ret2 d2 (.ref (zad Z k) :: As) f post) (hd : decode cc pc = .ok (.invokevirtual i, 3)) (hq : pc + 3 = q) (g : ∀ (v : Option Value) (f' : Fn), post v f' → GG Z f' lv q (v.toList ++ st)) {st0 : List Value} (h0 : st0 = As.reverse ++ .ref (zad Z k) :: st) : GG Z f lv pc st0 := by
  subst h0
  obtain ⟨p, l, e, s, m, args, below, meth, c, E, la', n', d', post⟩ := Z
  obtain ⟨hx, hb, hml, hown, hts, hr, hlk, hK, rfl, rfl, rfl⟩ := C
  subst hq
  intro H locs ls hP hS hl
  exact g_back (va_runVN (As := As) (rest := st) ⟨hx, hb, hml, hown, hts⟩ hct ⟨va_cnB na hts (gw_good hco) rfl rfl rfl (hK.2.2.2.1 _ hL) (hts _ hi) hy ⟨by show d2 + 1 ≤ d'; exact hdd, by show 8 + (n2 + 11) + 40 * d2 ≤ 40 * d'; omega⟩, hts _ hin, hts _ hse⟩ ⟨fun a U g mk z => ⟨z.1, z.2.1, KK.blind z.2.2⟩, va_recv hK.1 hP hc (cw_get hk), fun U hU hW => ⟨rfl, by rw [hU]; exact hP, KK.warm hU hW hS hK⟩⟩ rfl hna hl.1 rfl (lv_room hst) hd ⟨Nat.le_refl 0, Nat.le_refl 0⟩) hS (fun v f' H1 locs1 hp hP1 hS1 => g v f' hp H1 locs1 ls hP1 hS1 hl)
theorem g_callSN {Z : Zt} {la : List CD} {own : String} {cc : ByteArray} {n : Nat} {ret : Option FieldType} {d : Nat} {f : Fn} {lv : List (Nat × Value)} {pc q : Nat} {st : List Value} {y : MethodName} {host : String} {b : ByteArray} {n2 : Nat} {ret2 : Option FieldType} {d2 i na : Nat} {As : List Value} {post : Option Value → Fn → Prop} (C : CX Z la own cc n ret d) (hL : Cond.methodLinkNest own i y host ∈ NW) (hsta : Cond.static y ∈ GW) (hi : Cond.initialized y.cls ∈ GW) (hco : Cond.code y b n2 ret2 ∈ GW) (hy : y.cls ≠ "java/lang/invoke/MethodHandle" ∧ y.cls ≠ "java/lang/invoke/VarHandle" ∧ (parseMethodDescriptor y.desc).map (fun d => d.parameters.length) = some na) (hn2 : n2 ≤ 20) (hdd : d2 + 1 ≤ d) (hna : As.length = na) (hst : (st.map fun v => v.category).sum ≤ 8) (hct : CT (zl Z) (zE Z) la y b n2 ret2 d2 As f post) (hd : decode cc pc = .ok (.invokestatic i, 3)) (hq : pc + 3 = q) (g : ∀ (v : Option Value) (f' : Fn), post v f' → GG Z f' lv q (v.toList ++ st)) {st0 : List Value} (h0 : st0 = As.reverse ++ st) : GG Z f lv pc st0 := by
  subst h0
  obtain ⟨p, l, e, s, m, args, below, meth, c, E, la', n', d', post⟩ := Z
  obtain ⟨hx, hb, hml, hown, hts, hr, hlk, hK, rfl, rfl, rfl⟩ := C
  subst hq
  intro H locs ls hP hS hl
  exact g_back (va_runSN (As := As) (rest := st) ⟨hx, hb, hml, hown, hts⟩ hct ⟨va_cnB na hts (gw_good hco) rfl rfl rfl (hK.2.2.2.1 _ hL) (hts _ hi) hy ⟨by show d2 + 1 ≤ d'; exact hdd, by show 8 + (n2 + 11) + 40 * d2 ≤ 40 * d'; omega⟩, hts _ hsta, trivial⟩ ⟨fun a U g mk z => ⟨z.1, z.2.1, KK.blind z.2.2⟩, fun U hU hW => ⟨rfl, by rw [hU]; exact hP, KK.warm hU hW hS hK⟩⟩ rfl hna hl.1 rfl (lv_room hst) hd ⟨Nat.le_refl 0, Nat.le_refl 0⟩) hS (fun v f' H1 locs1 hp hP1 hS1 => g v f' hp H1 locs1 ls hP1 hS1 hl)
theorem g_callVI {Z : Zt} {la : List CD} {own : String} {cc : ByteArray} {n : Nat} {ret : Option FieldType} {d : Nat} {f : Fn} {lv : List (Nat × Value)} {pc q : Nat} {st : List Value} {y : MethodName}  {b : ByteArray} {n2 : Nat} {ret2 : Option FieldType} {d2 i na : Nat} {As : List Value} {P : Int32 → Fn → Prop} {k ci : Nat} {fl : List Nat} {T : u_T} {N : Nat} (C : CX Z la own cc n ret d) (hL : Cond.methodLink own i y ∈ GW) (hin : Cond.instanceMethod y ∈ GW) (hse : Cond.selects y.cls y y ∈ GW) (hi : Cond.initialized y.cls ∈ GW) (hco : Cond.code y b n2 ret2 ∈ GW) (hy : y.cls ≠ "java/lang/invoke/MethodHandle" ∧ y.cls ≠ "java/lang/invoke/VarHandle" ∧ (parseMethodDescriptor y.desc).map (fun d => d.parameters.length) = some na) (hn2 : n2 ≤ 20) (hdd : d2 + 1 ≤ d) (hna : As.length = na) (hst : (st.map fun v => v.category).sum ≤ 8) (hk : la[k]? = some (.inl (ci, fl))) (hc : vwCl[ci]? = some (y.cls, T, N)) (hct : CT (zl Z) (zE Z) la y b n2 ret2 d2 (.ref (zad Z k) :: As) f (pI P)) (hd : decode cc pc = .ok (.invokevirtual i, 3)) (hq : pc + 3 = q) {st0 : List Value} (h0 : st0 = As.reverse ++ .ref (zad Z k) :: st) (g : ∀ (r : Int32) (f' : Fn), P r f' → GG Z f' lv q (.int r :: st)) : GG Z f lv pc st0 := by
  refine g_callV C hL hin hse hi hco hy hn2 hdd hna hst hk hc hct hd hq (fun v f' hp => by obtain ⟨r, rfl, hr⟩ := hp; exact g r f' hr) h0
theorem g_callVL {Z : Zt} {la : List CD} {own : String} {cc : ByteArray} {n : Nat} {ret : Option FieldType} {d : Nat} {f : Fn} {lv : List (Nat × Value)} {pc q : Nat} {st : List Value} {y : MethodName}  {b : ByteArray} {n2 : Nat} {ret2 : Option FieldType} {d2 i na : Nat} {As : List Value} {P : Int64 → Fn → Prop} {k ci : Nat} {fl : List Nat} {T : u_T} {N : Nat} (C : CX Z la own cc n ret d) (hL : Cond.methodLink own i y ∈ GW) (hin : Cond.instanceMethod y ∈ GW) (hse : Cond.selects y.cls y y ∈ GW) (hi : Cond.initialized y.cls ∈ GW) (hco : Cond.code y b n2 ret2 ∈ GW) (hy : y.cls ≠ "java/lang/invoke/MethodHandle" ∧ y.cls ≠ "java/lang/invoke/VarHandle" ∧ (parseMethodDescriptor y.desc).map (fun d => d.parameters.length) = some na) (hn2 : n2 ≤ 20) (hdd : d2 + 1 ≤ d) (hna : As.length = na) (hst : (st.map fun v => v.category).sum ≤ 8) (hk : la[k]? = some (.inl (ci, fl))) (hc : vwCl[ci]? = some (y.cls, T, N)) (hct : CT (zl Z) (zE Z) la y b n2 ret2 d2 (.ref (zad Z k) :: As) f (pL P)) (hd : decode cc pc = .ok (.invokevirtual i, 3)) (hq : pc + 3 = q) {st0 : List Value} (h0 : st0 = As.reverse ++ .ref (zad Z k) :: st) (g : ∀ (r : Int64) (f' : Fn), P r f' → GG Z f' lv q (.long r :: st)) : GG Z f lv pc st0 := by
  refine g_callV C hL hin hse hi hco hy hn2 hdd hna hst hk hc hct hd hq (fun v f' hp => by obtain ⟨r, rfl, hr⟩ := hp; exact g r f' hr) h0
theorem g_callVV {Z : Zt} {la : List CD} {own : String} {cc : ByteArray} {n : Nat} {ret : Option FieldType} {d : Nat} {f : Fn} {lv : List (Nat × Value)} {pc q : Nat} {st : List Value} {y : MethodName}  {b : ByteArray} {n2 : Nat} {ret2 : Option FieldType} {d2 i na : Nat} {As : List Value} {P : Fn → Prop} {k ci : Nat} {fl : List Nat} {T : u_T} {N : Nat} (C : CX Z la own cc n ret d) (hL : Cond.methodLink own i y ∈ GW) (hin : Cond.instanceMethod y ∈ GW) (hse : Cond.selects y.cls y y ∈ GW) (hi : Cond.initialized y.cls ∈ GW) (hco : Cond.code y b n2 ret2 ∈ GW) (hy : y.cls ≠ "java/lang/invoke/MethodHandle" ∧ y.cls ≠ "java/lang/invoke/VarHandle" ∧ (parseMethodDescriptor y.desc).map (fun d => d.parameters.length) = some na) (hn2 : n2 ≤ 20) (hdd : d2 + 1 ≤ d) (hna : As.length = na) (hst : (st.map fun v => v.category).sum ≤ 8) (hk : la[k]? = some (.inl (ci, fl))) (hc : vwCl[ci]? = some (y.cls, T, N)) (hct : CT (zl Z) (zE Z) la y b n2 ret2 d2 (.ref (zad Z k) :: As) f (pV P)) (hd : decode cc pc = .ok (.invokevirtual i, 3)) (hq : pc + 3 = q) {st0 : List Value} (h0 : st0 = As.reverse ++ .ref (zad Z k) :: st) (g : ∀ (f' : Fn), P f' → GG Z f' lv q st) : GG Z f lv pc st0 := by
  refine g_callV C hL hin hse hi hco hy hn2 hdd hna hst hk hc hct hd hq (fun v f' hp => by obtain ⟨rfl, hr⟩ := hp; exact g f' hr) h0
theorem g_callVR {Z : Zt} {la : List CD} {own : String} {cc : ByteArray} {n : Nat} {ret : Option FieldType} {d : Nat} {f : Fn} {lv : List (Nat × Value)} {pc q : Nat} {st : List Value} {y : MethodName}  {b : ByteArray} {n2 : Nat} {ret2 : Option FieldType} {d2 i na : Nat} {As : List Value} {P : Option Nat → Fn → Prop} {k ci : Nat} {fl : List Nat} {T : u_T} {N : Nat} (C : CX Z la own cc n ret d) (hL : Cond.methodLink own i y ∈ GW) (hin : Cond.instanceMethod y ∈ GW) (hse : Cond.selects y.cls y y ∈ GW) (hi : Cond.initialized y.cls ∈ GW) (hco : Cond.code y b n2 ret2 ∈ GW) (hy : y.cls ≠ "java/lang/invoke/MethodHandle" ∧ y.cls ≠ "java/lang/invoke/VarHandle" ∧ (parseMethodDescriptor y.desc).map (fun d => d.parameters.length) = some na) (hn2 : n2 ≤ 20) (hdd : d2 + 1 ≤ d) (hna : As.length = na) (hst : (st.map fun v => v.category).sum ≤ 8) (hk : la[k]? = some (.inl (ci, fl))) (hc : vwCl[ci]? = some (y.cls, T, N)) (hct : CT (zl Z) (zE Z) la y b n2 ret2 d2 (.ref (zad Z k) :: As) f (pR (zad Z) P)) (hd : decode cc pc = .ok (.invokevirtual i, 3)) (hq : pc + 3 = q) {st0 : List Value} (h0 : st0 = As.reverse ++ .ref (zad Z k) :: st) (gn : ∀ (f' : Fn), P none f' → GG Z f' lv q (.null :: st)) (gs : ∀ (k : Nat) (f' : Fn), P (some k) f' → GG Z f' lv q (.ref (zad Z k) :: st)) : GG Z f lv pc st0 := by
  refine g_callV C hL hin hse hi hco hy hn2 hdd hna hst hk hc hct hd hq (fun v f' hp => by
    obtain ⟨r, rfl, hr⟩ := hp
    cases r with
    | none => exact gn f' hr
    | some k => exact gs k f' hr) h0
theorem g_callSI {Z : Zt} {la : List CD} {own : String} {cc : ByteArray} {n : Nat} {ret : Option FieldType} {d : Nat} {f : Fn} {lv : List (Nat × Value)} {pc q : Nat} {st : List Value} {y : MethodName}  {b : ByteArray} {n2 : Nat} {ret2 : Option FieldType} {d2 i na : Nat} {As : List Value} {P : Int32 → Fn → Prop} (C : CX Z la own cc n ret d) (hL : Cond.methodLink own i y ∈ GW) (hsta : Cond.static y ∈ GW) (hi : Cond.initialized y.cls ∈ GW) (hco : Cond.code y b n2 ret2 ∈ GW) (hy : y.cls ≠ "java/lang/invoke/MethodHandle" ∧ y.cls ≠ "java/lang/invoke/VarHandle" ∧ (parseMethodDescriptor y.desc).map (fun d => d.parameters.length) = some na) (hn2 : n2 ≤ 20) (hdd : d2 + 1 ≤ d) (hna : As.length = na) (hst : (st.map fun v => v.category).sum ≤ 8) (hct : CT (zl Z) (zE Z) la y b n2 ret2 d2 As f (pI P)) (hd : decode cc pc = .ok (.invokestatic i, 3)) (hq : pc + 3 = q) {st0 : List Value} (h0 : st0 = As.reverse ++ st) (g : ∀ (r : Int32) (f' : Fn), P r f' → GG Z f' lv q (.int r :: st)) : GG Z f lv pc st0 := by
  refine g_callS C hL hsta hi hco hy hn2 hdd hna hst hct hd hq (fun v f' hp => by obtain ⟨r, rfl, hr⟩ := hp; exact g r f' hr) h0
theorem g_callSL {Z : Zt} {la : List CD} {own : String} {cc : ByteArray} {n : Nat} {ret : Option FieldType} {d : Nat} {f : Fn} {lv : List (Nat × Value)} {pc q : Nat} {st : List Value} {y : MethodName}  {b : ByteArray} {n2 : Nat} {ret2 : Option FieldType} {d2 i na : Nat} {As : List Value} {P : Int64 → Fn → Prop} (C : CX Z la own cc n ret d) (hL : Cond.methodLink own i y ∈ GW) (hsta : Cond.static y ∈ GW) (hi : Cond.initialized y.cls ∈ GW) (hco : Cond.code y b n2 ret2 ∈ GW) (hy : y.cls ≠ "java/lang/invoke/MethodHandle" ∧ y.cls ≠ "java/lang/invoke/VarHandle" ∧ (parseMethodDescriptor y.desc).map (fun d => d.parameters.length) = some na) (hn2 : n2 ≤ 20) (hdd : d2 + 1 ≤ d) (hna : As.length = na) (hst : (st.map fun v => v.category).sum ≤ 8) (hct : CT (zl Z) (zE Z) la y b n2 ret2 d2 As f (pL P)) (hd : decode cc pc = .ok (.invokestatic i, 3)) (hq : pc + 3 = q) {st0 : List Value} (h0 : st0 = As.reverse ++ st) (g : ∀ (r : Int64) (f' : Fn), P r f' → GG Z f' lv q (.long r :: st)) : GG Z f lv pc st0 := by
  refine g_callS C hL hsta hi hco hy hn2 hdd hna hst hct hd hq (fun v f' hp => by obtain ⟨r, rfl, hr⟩ := hp; exact g r f' hr) h0
theorem g_callSV {Z : Zt} {la : List CD} {own : String} {cc : ByteArray} {n : Nat} {ret : Option FieldType} {d : Nat} {f : Fn} {lv : List (Nat × Value)} {pc q : Nat} {st : List Value} {y : MethodName}  {b : ByteArray} {n2 : Nat} {ret2 : Option FieldType} {d2 i na : Nat} {As : List Value} {P : Fn → Prop} (C : CX Z la own cc n ret d) (hL : Cond.methodLink own i y ∈ GW) (hsta : Cond.static y ∈ GW) (hi : Cond.initialized y.cls ∈ GW) (hco : Cond.code y b n2 ret2 ∈ GW) (hy : y.cls ≠ "java/lang/invoke/MethodHandle" ∧ y.cls ≠ "java/lang/invoke/VarHandle" ∧ (parseMethodDescriptor y.desc).map (fun d => d.parameters.length) = some na) (hn2 : n2 ≤ 20) (hdd : d2 + 1 ≤ d) (hna : As.length = na) (hst : (st.map fun v => v.category).sum ≤ 8) (hct : CT (zl Z) (zE Z) la y b n2 ret2 d2 As f (pV P)) (hd : decode cc pc = .ok (.invokestatic i, 3)) (hq : pc + 3 = q) {st0 : List Value} (h0 : st0 = As.reverse ++ st) (g : ∀ (f' : Fn), P f' → GG Z f' lv q st) : GG Z f lv pc st0 := by
  refine g_callS C hL hsta hi hco hy hn2 hdd hna hst hct hd hq (fun v f' hp => by obtain ⟨rfl, hr⟩ := hp; exact g f' hr) h0
theorem g_callSR {Z : Zt} {la : List CD} {own : String} {cc : ByteArray} {n : Nat} {ret : Option FieldType} {d : Nat} {f : Fn} {lv : List (Nat × Value)} {pc q : Nat} {st : List Value} {y : MethodName}  {b : ByteArray} {n2 : Nat} {ret2 : Option FieldType} {d2 i na : Nat} {As : List Value} {P : Option Nat → Fn → Prop} (C : CX Z la own cc n ret d) (hL : Cond.methodLink own i y ∈ GW) (hsta : Cond.static y ∈ GW) (hi : Cond.initialized y.cls ∈ GW) (hco : Cond.code y b n2 ret2 ∈ GW) (hy : y.cls ≠ "java/lang/invoke/MethodHandle" ∧ y.cls ≠ "java/lang/invoke/VarHandle" ∧ (parseMethodDescriptor y.desc).map (fun d => d.parameters.length) = some na) (hn2 : n2 ≤ 20) (hdd : d2 + 1 ≤ d) (hna : As.length = na) (hst : (st.map fun v => v.category).sum ≤ 8) (hct : CT (zl Z) (zE Z) la y b n2 ret2 d2 As f (pR (zad Z) P)) (hd : decode cc pc = .ok (.invokestatic i, 3)) (hq : pc + 3 = q) {st0 : List Value} (h0 : st0 = As.reverse ++ st) (gn : ∀ (f' : Fn), P none f' → GG Z f' lv q (.null :: st)) (gs : ∀ (k : Nat) (f' : Fn), P (some k) f' → GG Z f' lv q (.ref (zad Z k) :: st)) : GG Z f lv pc st0 := by
  refine g_callS C hL hsta hi hco hy hn2 hdd hna hst hct hd hq (fun v f' hp => by
    obtain ⟨r, rfl, hr⟩ := hp
    cases r with
    | none => exact gn f' hr
    | some k => exact gs k f' hr) h0
theorem g_callSNI {Z : Zt} {la : List CD} {own : String} {cc : ByteArray} {n : Nat} {ret : Option FieldType} {d : Nat} {f : Fn} {lv : List (Nat × Value)} {pc q : Nat} {st : List Value} {y : MethodName} {host : String} {b : ByteArray} {n2 : Nat} {ret2 : Option FieldType} {d2 i na : Nat} {As : List Value} {P : Int32 → Fn → Prop} (C : CX Z la own cc n ret d) (hL : Cond.methodLinkNest own i y host ∈ NW) (hsta : Cond.static y ∈ GW) (hi : Cond.initialized y.cls ∈ GW) (hco : Cond.code y b n2 ret2 ∈ GW) (hy : y.cls ≠ "java/lang/invoke/MethodHandle" ∧ y.cls ≠ "java/lang/invoke/VarHandle" ∧ (parseMethodDescriptor y.desc).map (fun d => d.parameters.length) = some na) (hn2 : n2 ≤ 20) (hdd : d2 + 1 ≤ d) (hna : As.length = na) (hst : (st.map fun v => v.category).sum ≤ 8) (hct : CT (zl Z) (zE Z) la y b n2 ret2 d2 As f (pI P)) (hd : decode cc pc = .ok (.invokestatic i, 3)) (hq : pc + 3 = q) {st0 : List Value} (h0 : st0 = As.reverse ++ st) (g : ∀ (r : Int32) (f' : Fn), P r f' → GG Z f' lv q (.int r :: st)) : GG Z f lv pc st0 := by
  refine g_callSN C hL hsta hi hco hy hn2 hdd hna hst hct hd hq (fun v f' hp => by obtain ⟨r, rfl, hr⟩ := hp; exact g r f' hr) h0
theorem g_callSNL {Z : Zt} {la : List CD} {own : String} {cc : ByteArray} {n : Nat} {ret : Option FieldType} {d : Nat} {f : Fn} {lv : List (Nat × Value)} {pc q : Nat} {st : List Value} {y : MethodName} {host : String} {b : ByteArray} {n2 : Nat} {ret2 : Option FieldType} {d2 i na : Nat} {As : List Value} {P : Int64 → Fn → Prop} (C : CX Z la own cc n ret d) (hL : Cond.methodLinkNest own i y host ∈ NW) (hsta : Cond.static y ∈ GW) (hi : Cond.initialized y.cls ∈ GW) (hco : Cond.code y b n2 ret2 ∈ GW) (hy : y.cls ≠ "java/lang/invoke/MethodHandle" ∧ y.cls ≠ "java/lang/invoke/VarHandle" ∧ (parseMethodDescriptor y.desc).map (fun d => d.parameters.length) = some na) (hn2 : n2 ≤ 20) (hdd : d2 + 1 ≤ d) (hna : As.length = na) (hst : (st.map fun v => v.category).sum ≤ 8) (hct : CT (zl Z) (zE Z) la y b n2 ret2 d2 As f (pL P)) (hd : decode cc pc = .ok (.invokestatic i, 3)) (hq : pc + 3 = q) {st0 : List Value} (h0 : st0 = As.reverse ++ st) (g : ∀ (r : Int64) (f' : Fn), P r f' → GG Z f' lv q (.long r :: st)) : GG Z f lv pc st0 := by
  refine g_callSN C hL hsta hi hco hy hn2 hdd hna hst hct hd hq (fun v f' hp => by obtain ⟨r, rfl, hr⟩ := hp; exact g r f' hr) h0
theorem g_callSNV {Z : Zt} {la : List CD} {own : String} {cc : ByteArray} {n : Nat} {ret : Option FieldType} {d : Nat} {f : Fn} {lv : List (Nat × Value)} {pc q : Nat} {st : List Value} {y : MethodName} {host : String} {b : ByteArray} {n2 : Nat} {ret2 : Option FieldType} {d2 i na : Nat} {As : List Value} {P : Fn → Prop} (C : CX Z la own cc n ret d) (hL : Cond.methodLinkNest own i y host ∈ NW) (hsta : Cond.static y ∈ GW) (hi : Cond.initialized y.cls ∈ GW) (hco : Cond.code y b n2 ret2 ∈ GW) (hy : y.cls ≠ "java/lang/invoke/MethodHandle" ∧ y.cls ≠ "java/lang/invoke/VarHandle" ∧ (parseMethodDescriptor y.desc).map (fun d => d.parameters.length) = some na) (hn2 : n2 ≤ 20) (hdd : d2 + 1 ≤ d) (hna : As.length = na) (hst : (st.map fun v => v.category).sum ≤ 8) (hct : CT (zl Z) (zE Z) la y b n2 ret2 d2 As f (pV P)) (hd : decode cc pc = .ok (.invokestatic i, 3)) (hq : pc + 3 = q) {st0 : List Value} (h0 : st0 = As.reverse ++ st) (g : ∀ (f' : Fn), P f' → GG Z f' lv q st) : GG Z f lv pc st0 := by
  refine g_callSN C hL hsta hi hco hy hn2 hdd hna hst hct hd hq (fun v f' hp => by obtain ⟨rfl, hr⟩ := hp; exact g f' hr) h0
theorem g_callSNR {Z : Zt} {la : List CD} {own : String} {cc : ByteArray} {n : Nat} {ret : Option FieldType} {d : Nat} {f : Fn} {lv : List (Nat × Value)} {pc q : Nat} {st : List Value} {y : MethodName} {host : String} {b : ByteArray} {n2 : Nat} {ret2 : Option FieldType} {d2 i na : Nat} {As : List Value} {P : Option Nat → Fn → Prop} (C : CX Z la own cc n ret d) (hL : Cond.methodLinkNest own i y host ∈ NW) (hsta : Cond.static y ∈ GW) (hi : Cond.initialized y.cls ∈ GW) (hco : Cond.code y b n2 ret2 ∈ GW) (hy : y.cls ≠ "java/lang/invoke/MethodHandle" ∧ y.cls ≠ "java/lang/invoke/VarHandle" ∧ (parseMethodDescriptor y.desc).map (fun d => d.parameters.length) = some na) (hn2 : n2 ≤ 20) (hdd : d2 + 1 ≤ d) (hna : As.length = na) (hst : (st.map fun v => v.category).sum ≤ 8) (hct : CT (zl Z) (zE Z) la y b n2 ret2 d2 As f (pR (zad Z) P)) (hd : decode cc pc = .ok (.invokestatic i, 3)) (hq : pc + 3 = q) {st0 : List Value} (h0 : st0 = As.reverse ++ st) (gn : ∀ (f' : Fn), P none f' → GG Z f' lv q (.null :: st)) (gs : ∀ (k : Nat) (f' : Fn), P (some k) f' → GG Z f' lv q (.ref (zad Z k) :: st)) : GG Z f lv pc st0 := by
  refine g_callSN C hL hsta hi hco hy hn2 hdd hna hst hct hd hq (fun v f' hp => by
    obtain ⟨r, rfl, hr⟩ := hp
    cases r with
    | none => exact gn f' hr
    | some k => exact gs k f' hr) h0
theorem g_callVD {Z : Zt} {la : List CD} {own : String} {cc : ByteArray} {n : Nat} {ret : Option FieldType} {d : Nat} {f : Fn} {lv : List (Nat × Value)} {pc q : Nat} {st : List Value} {y : MethodName}  {b : ByteArray} {n2 : Nat} {ret2 : Option FieldType} {d2 i na : Nat} {As : List Value} {v : Int32} {k ci : Nat} {fl : List Nat} {T : u_T} {N : Nat} (C : CX Z la own cc n ret d) (hL : Cond.methodLink own i y ∈ GW) (hin : Cond.instanceMethod y ∈ GW) (hse : Cond.selects y.cls y y ∈ GW) (hi : Cond.initialized y.cls ∈ GW) (hco : Cond.code y b n2 ret2 ∈ GW) (hy : y.cls ≠ "java/lang/invoke/MethodHandle" ∧ y.cls ≠ "java/lang/invoke/VarHandle" ∧ (parseMethodDescriptor y.desc).map (fun d => d.parameters.length) = some na) (hn2 : n2 ≤ 20) (hdd : d2 + 1 ≤ d) (hna : As.length = na) (hst : (st.map fun v => v.category).sum ≤ 8) (hk : la[k]? = some (.inl (ci, fl))) (hc : vwCl[ci]? = some (y.cls, T, N)) (hct : CT (zl Z) (zE Z) la y b n2 ret2 d2 (.ref (zad Z k) :: As) f (pI (fun r9 f9 => r9 = v ∧ f9 = f))) (hd : decode cc pc = .ok (.invokevirtual i, 3)) (hq : pc + 3 = q) {st0 : List Value} (h0 : st0 = As.reverse ++ .ref (zad Z k) :: st) (g : GG Z f lv q (.int v :: st)) : GG Z f lv pc st0 := by
  refine g_callVI C hL hin hse hi hco hy hn2 hdd hna hst hk hc hct hd hq h0 (fun r f' hp => by obtain ⟨h1, h2⟩ := hp; rw [h1, h2]; exact g)
theorem g_callVE {Z : Zt} {la : List CD} {own : String} {cc : ByteArray} {n : Nat} {ret : Option FieldType} {d : Nat} {f : Fn} {lv : List (Nat × Value)} {pc q : Nat} {st : List Value} {y : MethodName}  {b : ByteArray} {n2 : Nat} {ret2 : Option FieldType} {d2 i na : Nat} {As : List Value} {v : Int64} {k ci : Nat} {fl : List Nat} {T : u_T} {N : Nat} (C : CX Z la own cc n ret d) (hL : Cond.methodLink own i y ∈ GW) (hin : Cond.instanceMethod y ∈ GW) (hse : Cond.selects y.cls y y ∈ GW) (hi : Cond.initialized y.cls ∈ GW) (hco : Cond.code y b n2 ret2 ∈ GW) (hy : y.cls ≠ "java/lang/invoke/MethodHandle" ∧ y.cls ≠ "java/lang/invoke/VarHandle" ∧ (parseMethodDescriptor y.desc).map (fun d => d.parameters.length) = some na) (hn2 : n2 ≤ 20) (hdd : d2 + 1 ≤ d) (hna : As.length = na) (hst : (st.map fun v => v.category).sum ≤ 8) (hk : la[k]? = some (.inl (ci, fl))) (hc : vwCl[ci]? = some (y.cls, T, N)) (hct : CT (zl Z) (zE Z) la y b n2 ret2 d2 (.ref (zad Z k) :: As) f (pL (fun r9 f9 => r9 = v ∧ f9 = f))) (hd : decode cc pc = .ok (.invokevirtual i, 3)) (hq : pc + 3 = q) {st0 : List Value} (h0 : st0 = As.reverse ++ .ref (zad Z k) :: st) (g : GG Z f lv q (.long v :: st)) : GG Z f lv pc st0 := by
  refine g_callVL C hL hin hse hi hco hy hn2 hdd hna hst hk hc hct hd hq h0 (fun r f' hp => by obtain ⟨h1, h2⟩ := hp; rw [h1, h2]; exact g)
theorem g_callVQ {Z : Zt} {la : List CD} {own : String} {cc : ByteArray} {n : Nat} {ret : Option FieldType} {d : Nat} {f : Fn} {lv : List (Nat × Value)} {pc q : Nat} {st : List Value} {y : MethodName}  {b : ByteArray} {n2 : Nat} {ret2 : Option FieldType} {d2 i na : Nat} {As : List Value} {v : Option Nat} {k ci : Nat} {fl : List Nat} {T : u_T} {N : Nat} (C : CX Z la own cc n ret d) (hL : Cond.methodLink own i y ∈ GW) (hin : Cond.instanceMethod y ∈ GW) (hse : Cond.selects y.cls y y ∈ GW) (hi : Cond.initialized y.cls ∈ GW) (hco : Cond.code y b n2 ret2 ∈ GW) (hy : y.cls ≠ "java/lang/invoke/MethodHandle" ∧ y.cls ≠ "java/lang/invoke/VarHandle" ∧ (parseMethodDescriptor y.desc).map (fun d => d.parameters.length) = some na) (hn2 : n2 ≤ 20) (hdd : d2 + 1 ≤ d) (hna : As.length = na) (hst : (st.map fun v => v.category).sum ≤ 8) (hk : la[k]? = some (.inl (ci, fl))) (hc : vwCl[ci]? = some (y.cls, T, N)) (hct : CT (zl Z) (zE Z) la y b n2 ret2 d2 (.ref (zad Z k) :: As) f (pR (zad Z) (fun r9 f9 => r9 = v ∧ f9 = f))) (hd : decode cc pc = .ok (.invokevirtual i, 3)) (hq : pc + 3 = q) {st0 : List Value} (h0 : st0 = As.reverse ++ .ref (zad Z k) :: st) (gn : v = none → GG Z f lv q (.null :: st)) (gs : ∀ k : Nat, v = some k → GG Z f lv q (.ref (zad Z k) :: st)) : GG Z f lv pc st0 := by
  refine g_callVR C hL hin hse hi hco hy hn2 hdd hna hst hk hc hct hd hq h0 (fun f' hp => by obtain ⟨h1, h2⟩ := hp; rw [h2]; exact gn h1.symm) (fun k f' hp => by obtain ⟨h1, h2⟩ := hp; rw [h2]; exact gs k h1.symm)
theorem g_callSD {Z : Zt} {la : List CD} {own : String} {cc : ByteArray} {n : Nat} {ret : Option FieldType} {d : Nat} {f : Fn} {lv : List (Nat × Value)} {pc q : Nat} {st : List Value} {y : MethodName}  {b : ByteArray} {n2 : Nat} {ret2 : Option FieldType} {d2 i na : Nat} {As : List Value} {v : Int32} (C : CX Z la own cc n ret d) (hL : Cond.methodLink own i y ∈ GW) (hsta : Cond.static y ∈ GW) (hi : Cond.initialized y.cls ∈ GW) (hco : Cond.code y b n2 ret2 ∈ GW) (hy : y.cls ≠ "java/lang/invoke/MethodHandle" ∧ y.cls ≠ "java/lang/invoke/VarHandle" ∧ (parseMethodDescriptor y.desc).map (fun d => d.parameters.length) = some na) (hn2 : n2 ≤ 20) (hdd : d2 + 1 ≤ d) (hna : As.length = na) (hst : (st.map fun v => v.category).sum ≤ 8) (hct : CT (zl Z) (zE Z) la y b n2 ret2 d2 As f (pI (fun r9 f9 => r9 = v ∧ f9 = f))) (hd : decode cc pc = .ok (.invokestatic i, 3)) (hq : pc + 3 = q) {st0 : List Value} (h0 : st0 = As.reverse ++ st) (g : GG Z f lv q (.int v :: st)) : GG Z f lv pc st0 := by
  refine g_callSI C hL hsta hi hco hy hn2 hdd hna hst hct hd hq h0 (fun r f' hp => by obtain ⟨h1, h2⟩ := hp; rw [h1, h2]; exact g)
theorem g_callSE {Z : Zt} {la : List CD} {own : String} {cc : ByteArray} {n : Nat} {ret : Option FieldType} {d : Nat} {f : Fn} {lv : List (Nat × Value)} {pc q : Nat} {st : List Value} {y : MethodName}  {b : ByteArray} {n2 : Nat} {ret2 : Option FieldType} {d2 i na : Nat} {As : List Value} {v : Int64} (C : CX Z la own cc n ret d) (hL : Cond.methodLink own i y ∈ GW) (hsta : Cond.static y ∈ GW) (hi : Cond.initialized y.cls ∈ GW) (hco : Cond.code y b n2 ret2 ∈ GW) (hy : y.cls ≠ "java/lang/invoke/MethodHandle" ∧ y.cls ≠ "java/lang/invoke/VarHandle" ∧ (parseMethodDescriptor y.desc).map (fun d => d.parameters.length) = some na) (hn2 : n2 ≤ 20) (hdd : d2 + 1 ≤ d) (hna : As.length = na) (hst : (st.map fun v => v.category).sum ≤ 8) (hct : CT (zl Z) (zE Z) la y b n2 ret2 d2 As f (pL (fun r9 f9 => r9 = v ∧ f9 = f))) (hd : decode cc pc = .ok (.invokestatic i, 3)) (hq : pc + 3 = q) {st0 : List Value} (h0 : st0 = As.reverse ++ st) (g : GG Z f lv q (.long v :: st)) : GG Z f lv pc st0 := by
  refine g_callSL C hL hsta hi hco hy hn2 hdd hna hst hct hd hq h0 (fun r f' hp => by obtain ⟨h1, h2⟩ := hp; rw [h1, h2]; exact g)
theorem g_callSQ {Z : Zt} {la : List CD} {own : String} {cc : ByteArray} {n : Nat} {ret : Option FieldType} {d : Nat} {f : Fn} {lv : List (Nat × Value)} {pc q : Nat} {st : List Value} {y : MethodName}  {b : ByteArray} {n2 : Nat} {ret2 : Option FieldType} {d2 i na : Nat} {As : List Value} {v : Option Nat} (C : CX Z la own cc n ret d) (hL : Cond.methodLink own i y ∈ GW) (hsta : Cond.static y ∈ GW) (hi : Cond.initialized y.cls ∈ GW) (hco : Cond.code y b n2 ret2 ∈ GW) (hy : y.cls ≠ "java/lang/invoke/MethodHandle" ∧ y.cls ≠ "java/lang/invoke/VarHandle" ∧ (parseMethodDescriptor y.desc).map (fun d => d.parameters.length) = some na) (hn2 : n2 ≤ 20) (hdd : d2 + 1 ≤ d) (hna : As.length = na) (hst : (st.map fun v => v.category).sum ≤ 8) (hct : CT (zl Z) (zE Z) la y b n2 ret2 d2 As f (pR (zad Z) (fun r9 f9 => r9 = v ∧ f9 = f))) (hd : decode cc pc = .ok (.invokestatic i, 3)) (hq : pc + 3 = q) {st0 : List Value} (h0 : st0 = As.reverse ++ st) (gn : v = none → GG Z f lv q (.null :: st)) (gs : ∀ k : Nat, v = some k → GG Z f lv q (.ref (zad Z k) :: st)) : GG Z f lv pc st0 := by
  refine g_callSR C hL hsta hi hco hy hn2 hdd hna hst hct hd hq h0 (fun f' hp => by obtain ⟨h1, h2⟩ := hp; rw [h2]; exact gn h1.symm) (fun k f' hp => by obtain ⟨h1, h2⟩ := hp; rw [h2]; exact gs k h1.symm)
theorem g_callSND {Z : Zt} {la : List CD} {own : String} {cc : ByteArray} {n : Nat} {ret : Option FieldType} {d : Nat} {f : Fn} {lv : List (Nat × Value)} {pc q : Nat} {st : List Value} {y : MethodName} {host : String} {b : ByteArray} {n2 : Nat} {ret2 : Option FieldType} {d2 i na : Nat} {As : List Value} {v : Int32} (C : CX Z la own cc n ret d) (hL : Cond.methodLinkNest own i y host ∈ NW) (hsta : Cond.static y ∈ GW) (hi : Cond.initialized y.cls ∈ GW) (hco : Cond.code y b n2 ret2 ∈ GW) (hy : y.cls ≠ "java/lang/invoke/MethodHandle" ∧ y.cls ≠ "java/lang/invoke/VarHandle" ∧ (parseMethodDescriptor y.desc).map (fun d => d.parameters.length) = some na) (hn2 : n2 ≤ 20) (hdd : d2 + 1 ≤ d) (hna : As.length = na) (hst : (st.map fun v => v.category).sum ≤ 8) (hct : CT (zl Z) (zE Z) la y b n2 ret2 d2 As f (pI (fun r9 f9 => r9 = v ∧ f9 = f))) (hd : decode cc pc = .ok (.invokestatic i, 3)) (hq : pc + 3 = q) {st0 : List Value} (h0 : st0 = As.reverse ++ st) (g : GG Z f lv q (.int v :: st)) : GG Z f lv pc st0 := by
  refine g_callSNI C hL hsta hi hco hy hn2 hdd hna hst hct hd hq h0 (fun r f' hp => by obtain ⟨h1, h2⟩ := hp; rw [h1, h2]; exact g)
theorem g_callSNE {Z : Zt} {la : List CD} {own : String} {cc : ByteArray} {n : Nat} {ret : Option FieldType} {d : Nat} {f : Fn} {lv : List (Nat × Value)} {pc q : Nat} {st : List Value} {y : MethodName} {host : String} {b : ByteArray} {n2 : Nat} {ret2 : Option FieldType} {d2 i na : Nat} {As : List Value} {v : Int64} (C : CX Z la own cc n ret d) (hL : Cond.methodLinkNest own i y host ∈ NW) (hsta : Cond.static y ∈ GW) (hi : Cond.initialized y.cls ∈ GW) (hco : Cond.code y b n2 ret2 ∈ GW) (hy : y.cls ≠ "java/lang/invoke/MethodHandle" ∧ y.cls ≠ "java/lang/invoke/VarHandle" ∧ (parseMethodDescriptor y.desc).map (fun d => d.parameters.length) = some na) (hn2 : n2 ≤ 20) (hdd : d2 + 1 ≤ d) (hna : As.length = na) (hst : (st.map fun v => v.category).sum ≤ 8) (hct : CT (zl Z) (zE Z) la y b n2 ret2 d2 As f (pL (fun r9 f9 => r9 = v ∧ f9 = f))) (hd : decode cc pc = .ok (.invokestatic i, 3)) (hq : pc + 3 = q) {st0 : List Value} (h0 : st0 = As.reverse ++ st) (g : GG Z f lv q (.long v :: st)) : GG Z f lv pc st0 := by
  refine g_callSNL C hL hsta hi hco hy hn2 hdd hna hst hct hd hq h0 (fun r f' hp => by obtain ⟨h1, h2⟩ := hp; rw [h1, h2]; exact g)
theorem g_callSNQ {Z : Zt} {la : List CD} {own : String} {cc : ByteArray} {n : Nat} {ret : Option FieldType} {d : Nat} {f : Fn} {lv : List (Nat × Value)} {pc q : Nat} {st : List Value} {y : MethodName} {host : String} {b : ByteArray} {n2 : Nat} {ret2 : Option FieldType} {d2 i na : Nat} {As : List Value} {v : Option Nat} (C : CX Z la own cc n ret d) (hL : Cond.methodLinkNest own i y host ∈ NW) (hsta : Cond.static y ∈ GW) (hi : Cond.initialized y.cls ∈ GW) (hco : Cond.code y b n2 ret2 ∈ GW) (hy : y.cls ≠ "java/lang/invoke/MethodHandle" ∧ y.cls ≠ "java/lang/invoke/VarHandle" ∧ (parseMethodDescriptor y.desc).map (fun d => d.parameters.length) = some na) (hn2 : n2 ≤ 20) (hdd : d2 + 1 ≤ d) (hna : As.length = na) (hst : (st.map fun v => v.category).sum ≤ 8) (hct : CT (zl Z) (zE Z) la y b n2 ret2 d2 As f (pR (zad Z) (fun r9 f9 => r9 = v ∧ f9 = f))) (hd : decode cc pc = .ok (.invokestatic i, 3)) (hq : pc + 3 = q) {st0 : List Value} (h0 : st0 = As.reverse ++ st) (gn : v = none → GG Z f lv q (.null :: st)) (gs : ∀ k : Nat, v = some k → GG Z f lv q (.ref (zad Z k) :: st)) : GG Z f lv pc st0 := by
  refine g_callSNR C hL hsta hi hco hy hn2 hdd hna hst hct hd hq h0 (fun f' hp => by obtain ⟨h1, h2⟩ := hp; rw [h2]; exact gn h1.symm) (fun k f' hp => by obtain ⟨h1, h2⟩ := hp; rw [h2]; exact gs k h1.symm)
theorem fvl_0 {ad : Nat → Nat} {r : Nat → Int32} {j : Nat} : fvl ad r j 0 = .int (r j) := by simp [fvl]
theorem fvl_1 {ad : Nat → Nat} {r : Nat → Int32} {j : Nat} : fvl ad r j 1 = .long (mk64 (r j) (r (j + 100))) := by simp [fvl]
theorem fvl_2 {ad : Nat → Nat} {r : Nat → Int32} {j p : Nat} : fvl ad r j (p + 2) = .ref (ad p) := by simp [fvl]
theorem vp_of {i : Int32} {n : Nat} (h : (!decide (i < 0) && decide (i.toNatClampNeg < n)) = true) : vp_in i n := by
  simp only [Bool.and_eq_true, Bool.not_eq_true', decide_eq_false_iff_not, decide_eq_true_eq] at h
  exact fun q => q.elim h.1 (fun q => by omega)
theorem one_of {fl : List Nat} {j : Nat} (h : (List.range fl.length).all (fun i => !(fl[i]? == some 1) || i == j) = true) : ∀ i9 : Nat, fl[i9]? = some 1 → i9 = j := by
  intro i9 h9
  have hl := (List.getElem?_eq_some_iff.mp h9).1
  have h2 := List.all_eq_true.mp h i9 (List.mem_range.mpr hl)
  simpa [h9] using h2
theorem nar_b {v : Int32} (hz : v = 0 ∨ v = 1) : narrow .boolean (.int v) = .int v := by rcases hz with rfl | rfl <;> rfl
theorem fit_b {v : Int32} (hz : v = 0 ∨ v = 1) : fits .boolean (.int v) = true := by rcases hz with rfl | rfl <;> rfl
theorem sw_ho {x k : Int32} {lo off : Int} {offs : Array Int} (h : x = k) (e : offs[(k.toInt - lo).toNat]? = some off) : offs[(x.toInt - lo).toNat]? = some off := by rw [h]; exact e
theorem sw_ld {x : Int32} {d : Int} : ∀ (ps : List (Int × Int)) (ks : List Int32), ps.map (fun q => q.1) = ks.map (fun k => k.toInt) → (∀ k ∈ ks, ¬ x = k) → Op.lookupswitch.offset ps d x.toInt = d
  | [], _, _, _ => rfl
  | (a, o) :: r, [], h, _ => by simp at h
  | (a, o) :: r, k :: ks, h, hn => by
    simp only [List.map_cons, List.cons.injEq] at h
    rw [lv_osw (hn k List.mem_cons_self) h.1.symm]
    exact sw_ld r ks h.2 (fun k hk => hn k (List.mem_cons_of_mem _ hk))
theorem sw_lo {x k : Int32} {d off : Int} {ps : List (Int × Int)} (h : x = k) (e : Op.lookupswitch.offset ps d k.toInt = off) : Op.lookupswitch.offset ps d x.toInt = off := by rw [h]; exact e
theorem g_ialdx {Z : Zt} {la : List CD} {own : String} {cc : ByteArray} {n : Nat} {ret : Option FieldType} {d : Nat} {f : Fn} {lv : List (Nat × Value)} {pc q : Nat} {st : List Value} {k N j : Nat} {i x : Int32} (C : CX Z la own cc n ret d) (hk : la[k]? = some (.inr (.inl N))) (hi : vp_in i N) (hx : i.toNatClampNeg = j) (hv : f k j = x) (hd : decode cc pc = .ok (.iaload, 1)) (hq : pc + 1 = q) (g : GG Z f lv q (.int x :: st)) : GG Z f lv pc (.int i :: .ref (zad Z k) :: st) := by
  subst hv; subst hx
  exact g_iald C hk hi hd hq g
theorem g_iastx {Z : Zt} {la : List CD} {own : String} {cc : ByteArray} {n : Nat} {ret : Option FieldType} {d : Nat} {f : Fn} {lv : List (Nat × Value)} {pc q : Nat} {st : List Value} {k N j : Nat} {i v : Int32} (C : CX Z la own cc n ret d) (hk : la[k]? = some (.inr (.inl N))) (hi : vp_in i N) (hx : i.toNatClampNeg = j) (hd : decode cc pc = .ok (.iastore, 1)) (hq : pc + 1 = q) (g : GG Z (up2 f k j v) lv q st) : GG Z f lv pc (.int v :: .int i :: .ref (zad Z k) :: st) := by
  subst hx
  exact g_iast C hk hi hd hq g
