/-! making objects: worlds that grow -/
abbrev C3 : Type := ClassId × ClassId × ClassId
def KI (D : va_G) (t : C3) (U : State) : Prop := va_K D vwCl [(t.1, .int), (t.2.1, .object RX0), (t.2.2, .object RX3)] U ∧ (∀ w ∈ NW, va_Nw w U) ∧ va_AO RX0 U ∧ va_AO RX3 U
theorem KI.blind {D : va_G} {t : C3} {a : Array Value} {U : State} {g : JFrame} {mk : MethodId} (h : KI D t U) : KI D t (U.calling g mk a) :=
  ⟨va_K.moved (u := U) (U := U.calling g mk a) (Vm.Alike.refl U.vm) h.1, fun w hw => va_Nw.same (u := U) (U := U.calling g mk a) (List.all_eq_true.mp NW_tabs w hw) rfl (h.2.1 w hw), va_AO.moved (u := U) (U := U.calling g mk a) (Vm.Alike.refl U.vm) h.2.2.1, va_AO.moved (u := U) (U := U.calling g mk a) (Vm.Alike.refl U.vm) h.2.2.2⟩
theorem KI.warm {D : va_G} {t : C3} {s U : State} (hW : s.WarmedH U.vm) (h : KI D t s) : KI D t U :=
  ⟨va_K.moved hW.alike h.1, fun w hw => nw_warm hW (List.all_eq_true.mp NW_nest w hw) (h.2.1 w hw), va_AO.moved hW.alike h.2.2.1, va_AO.moved hW.alike h.2.2.2⟩
def rmC (d mc ms : Nat) : Room := { frames := d, cells := mc, slots := ms, locals := 40 * d }
abbrev PCI (D : va_G) (t : C3) (h0 : Nat) (As : List Value) (e0 : va_E) (sz : Nat) : Array Value → State → Prop := va_Pc (.ref h0 :: As) (fun U => U.heap.size = sz ∧ va_P D vwCl [(h0, e0)] U.heap ∧ KI D t U)
abbrev QCI (D : va_G) (A : Nat → Prop) (post : (Nat → Nat) → va_W) : Array Value → State → Outcome → State → Prop := va_Qv (fun _ : Nat → Nat => True) (fun q t => va_P D vwCl (post q) t.heap ∧ va_D A (post q)) A
/-- what a constructor makes out of a fresh object -/
def CI (l : Launch) (D : va_G) (t : C3) (y : MethodName) (b : ByteArray) (n d mc ms h0 : Nat) (As : List Value) (e0 : va_E) (post : (Nat → Nat) → va_W) : Prop :=
  ∀ sz : Nat, Met l y (.code y b n none :: GW) (rmC d mc ms) (PCI D t h0 As e0 sz) (QCI D (va_A [(h0, e0)] sz) post) mc ms (va_A [(h0, e0)] sz)
abbrev Yt : Type := Program × Launch × Env × Room × State × MethodId × Array Value × List Frame × Method × Code × va_G × C3 × Nat × (Nat → Prop) × (State → Prop)
def yl : Yt → Launch := fun Y => Y.2.1
def yR : Yt → Room := fun Y => Y.2.2.2.1
def yS : Yt → State := fun Y => Y.2.2.2.2.1
def yD : Yt → va_G := fun Y => Y.2.2.2.2.2.2.2.2.2.2.1
def yc : Yt → C3 := fun Y => Y.2.2.2.2.2.2.2.2.2.2.2.1
def yA : Yt → Nat → Prop := fun Y => Y.2.2.2.2.2.2.2.2.2.2.2.2.2.1
def IG : Yt → Nat → Nat → va_W → List (Nat × Value) → Nat → List Value → Prop
  | (p, l, e, R, s, m, args, below, meth, c, D, _, n, A, Q), k, sl, ws, lv, pc, st => ∀ (H : Heap) (locs : List Loc) (ls : Array Slot), va_P D vwCl ws H → va_D A ws → va_S A s.heap H locs → lv_has ls n lv → W p l e R s m args below meth c H locs k sl Q (F0 m pc ls st)
def CY : Yt → String → ByteArray → Nat → Prop
  | (p, _, _, _, s, m, args, _, _, c, D, t, n, A, _), own, cc, n0 => p.tables.exec = Jvm.exec ∧ c.code = cc ∧ c.maxLocals = n ∧ s.vm.findClass own = some m.cls ∧ (∀ w ∈ GW, w.before args s = true) ∧ KI D t s ∧ (∀ q, s.heap.size ≤ q → A q) ∧ n = n0
section IGR
variable {Y : Yt} {own : String} {cc : ByteArray} {n k sl : Nat} {ws : va_W} {lv : List (Nat × Value)} {pc q : Nat} {st : List Value}
theorem i_iconst {i : Int} {v : Int32} (C : CY Y own cc n) (hv : Int32.ofInt i = v) (hd : decode cc pc = .ok (.iconst i, 1)) (hq : pc + 1 = q) (g : IG Y k sl ws lv q (.int v :: st)) : IG Y k sl ws lv pc st := by
  obtain ⟨p, l, e, R, s, m, args, below, meth, c, D, t, n', A, Q⟩ := Y
  obtain ⟨hx, hb, hml, hown, hts, hK, hA, rfl⟩ := C
  subst hq
  intro H locs ls hP hD hS hl
  exact lv_iconst hx hb hd hv (g H locs ls hP hD hS hl)
theorem i_bipush {i : Int} {v : Int32} (C : CY Y own cc n) (hv : (Int8.ofInt i).toInt32 = v) (hd : decode cc pc = .ok (.bipush i, 2)) (hq : pc + 2 = q) (g : IG Y k sl ws lv q (.int v :: st)) : IG Y k sl ws lv pc st := by
  obtain ⟨p, l, e, R, s, m, args, below, meth, c, D, t, n', A, Q⟩ := Y
  obtain ⟨hx, hb, hml, hown, hts, hK, hA, rfl⟩ := C
  subst hq
  intro H locs ls hP hD hS hl
  exact lv_bipush hx hb hd hv (g H locs ls hP hD hS hl)
theorem i_sipush {i : Int} {v : Int32} (C : CY Y own cc n) (hv : (Int16.ofInt i).toInt32 = v) (hd : decode cc pc = .ok (.sipush i, 3)) (hq : pc + 3 = q) (g : IG Y k sl ws lv q (.int v :: st)) : IG Y k sl ws lv pc st := by
  obtain ⟨p, l, e, R, s, m, args, below, meth, c, D, t, n', A, Q⟩ := Y
  obtain ⟨hx, hb, hml, hown, hts, hK, hA, rfl⟩ := C
  subst hq
  intro H locs ls hP hD hS hl
  exact lv_sipush hx hb hd hv (g H locs ls hP hD hS hl)
theorem i_aload_n {i : Fin 4} {x : Nat} (C : CY Y own cc n) (hv : lk lv (i : Nat) = some (.ref x)) (hd : decode cc pc = .ok (.aload_n i, 1)) (hq : pc + 1 = q) (g : IG Y k sl ws lv q (.ref x :: st)) : IG Y k sl ws lv pc st := by
  obtain ⟨p, l, e, R, s, m, args, below, meth, c, D, t, n', A, Q⟩ := Y
  obtain ⟨hx, hb, hml, hown, hts, hK, hA, rfl⟩ := C
  subst hq
  intro H locs ls hP hD hS hl
  exact lv_aload_n hx hb hd rfl (lk_at hl hv) (g H locs ls hP hD hS hl)
theorem i_iload_n {i : Fin 4} {x : Int32} (C : CY Y own cc n) (hv : lk lv (i : Nat) = some (.int x)) (hd : decode cc pc = .ok (.iload_n i, 1)) (hq : pc + 1 = q) (g : IG Y k sl ws lv q (.int x :: st)) : IG Y k sl ws lv pc st := by
  obtain ⟨p, l, e, R, s, m, args, below, meth, c, D, t, n', A, Q⟩ := Y
  obtain ⟨hx, hb, hml, hown, hts, hK, hA, rfl⟩ := C
  subst hq
  intro H locs ls hP hD hS hl
  exact lv_iload_n hx hb hd rfl (lk_at hl hv) (g H locs ls hP hD hS hl)
theorem i_istore_n {lv' : List (Nat × Value)} {i : Fin 4} {x : Int32} (C : CY Y own cc n) (hd : decode cc pc = .ok (.istore_n i, 1)) (hi : (i : Nat) < n) (hs : ls1 lv (i : Nat) (.int x) = lv') (hq : pc + 1 = q) (g : IG Y k sl ws lv' q st) : IG Y k sl ws lv pc (.int x :: st) := by
  obtain ⟨p, l, e, R, s, m, args, below, meth, c, D, t, n', A, Q⟩ := Y
  obtain ⟨hx, hb, hml, hown, hts, hK, hA, rfl⟩ := C
  subst hq
  intro H locs ls hP hD hS hl
  exact lv_istore_n hx hb hd rfl hl hi hs (fun ls' h => g H locs ls' hP hD hS h)
theorem i_astore_n {lv' : List (Nat × Value)} {i : Fin 4} {x : Nat} (C : CY Y own cc n) (hd : decode cc pc = .ok (.astore_n i, 1)) (hi : (i : Nat) < n) (hs : ls1 lv (i : Nat) (.ref x) = lv') (hq : pc + 1 = q) (g : IG Y k sl ws lv' q st) : IG Y k sl ws lv pc (.ref x :: st) := by
  obtain ⟨p, l, e, R, s, m, args, below, meth, c, D, t, n', A, Q⟩ := Y
  obtain ⟨hx, hb, hml, hown, hts, hK, hA, rfl⟩ := C
  subst hq
  intro H locs ls hP hD hS hl
  exact lv_astore_n hx hb hd rfl hl hi hs (fun ls' h => g H locs ls' hP hD hS h)
theorem i_iinc {lv' : List (Nat × Value)} {j : Nat} {i : Int} {x v : Int32} (C : CY Y own cc n) (hd : decode cc pc = .ok (.iinc j i, 3)) (hk : lk lv j = some (.int x)) (hv : x + Int32.ofInt i = v) (hi : j < n) (hs : ls1 lv j (.int v) = lv') (hq : pc + 3 = q) (g : IG Y k sl ws lv' q st) : IG Y k sl ws lv pc st := by
  obtain ⟨p, l, e, R, s, m, args, below, meth, c, D, t, n', A, Q⟩ := Y
  obtain ⟨hx, hb, hml, hown, hts, hK, hA, rfl⟩ := C
  subst hq
  intro H locs ls hP hD hS hl
  obtain ⟨j9, hj⟩ := lk_place hk
  exact lv_iinc hx hb hd hl hj hv hi hs (fun ls' h => g H locs ls' hP hD hS h)
theorem i_dup {a : Value} (C : CY Y own cc n) (ha : a.category = 1) (hd : decode cc pc = .ok (.dup, 1)) (hq : pc + 1 = q) (g : IG Y k sl ws lv q (a :: a :: st)) : IG Y k sl ws lv pc (a :: st) := by
  obtain ⟨p, l, e, R, s, m, args, below, meth, c, D, t, n', A, Q⟩ := Y
  obtain ⟨hx, hb, hml, hown, hts, hK, hA, rfl⟩ := C
  subst hq
  intro H locs ls hP hD hS hl
  exact lv_dup hx hb hd ha (g H locs ls hP hD hS hl)
theorem i_iadd {x y : Int32} (C : CY Y own cc n) (hd : decode cc pc = .ok (.iadd, 1)) (hq : pc + 1 = q) (g : IG Y k sl ws lv q (.int (x + y) :: st)) : IG Y k sl ws lv pc (.int y :: .int x :: st) := by
  obtain ⟨p, l, e, R, s, m, args, below, meth, c, D, t, n', A, Q⟩ := Y
  obtain ⟨hx, hb, hml, hown, hts, hK, hA, rfl⟩ := C
  subst hq
  intro H locs ls hP hD hS hl
  exact lv_iadd hx hb hd (g H locs ls hP hD hS hl)
theorem i_isub {x y : Int32} (C : CY Y own cc n) (hd : decode cc pc = .ok (.isub, 1)) (hq : pc + 1 = q) (g : IG Y k sl ws lv q (.int (x - y) :: st)) : IG Y k sl ws lv pc (.int y :: .int x :: st) := by
  obtain ⟨p, l, e, R, s, m, args, below, meth, c, D, t, n', A, Q⟩ := Y
  obtain ⟨hx, hb, hml, hown, hts, hK, hA, rfl⟩ := C
  subst hq
  intro H locs ls hP hD hS hl
  exact lv_isub hx hb hd (g H locs ls hP hD hS hl)
theorem i_imul {x y : Int32} (C : CY Y own cc n) (hd : decode cc pc = .ok (.imul, 1)) (hq : pc + 1 = q) (g : IG Y k sl ws lv q (.int (x * y) :: st)) : IG Y k sl ws lv pc (.int y :: .int x :: st) := by
  obtain ⟨p, l, e, R, s, m, args, below, meth, c, D, t, n', A, Q⟩ := Y
  obtain ⟨hx, hb, hml, hown, hts, hK, hA, rfl⟩ := C
  subst hq
  intro H locs ls hP hD hS hl
  exact lv_imul hx hb hd (g H locs ls hP hD hS hl)
theorem i_iand {x y : Int32} (C : CY Y own cc n) (hd : decode cc pc = .ok (.iand, 1)) (hq : pc + 1 = q) (g : IG Y k sl ws lv q (.int (x &&& y) :: st)) : IG Y k sl ws lv pc (.int y :: .int x :: st) := by
  obtain ⟨p, l, e, R, s, m, args, below, meth, c, D, t, n', A, Q⟩ := Y
  obtain ⟨hx, hb, hml, hown, hts, hK, hA, rfl⟩ := C
  subst hq
  intro H locs ls hP hD hS hl
  exact lv_iand hx hb hd (g H locs ls hP hD hS hl)
theorem i_i2l {x : Int32} (C : CY Y own cc n) (hd : decode cc pc = .ok (.i2l, 1)) (hq : pc + 1 = q) (g : IG Y k sl ws lv q (.long x.toInt64 :: st)) : IG Y k sl ws lv pc (.int x :: st) := by
  obtain ⟨p, l, e, R, s, m, args, below, meth, c, D, t, n', A, Q⟩ := Y
  obtain ⟨hx, hb, hml, hown, hts, hK, hA, rfl⟩ := C
  subst hq
  intro H locs ls hP hD hS hl
  exact lv_i2l hx hb hd rfl (g H locs ls hP hD hS hl)
theorem i_lshl {x : Int64} {y : Int32} (C : CY Y own cc n) (hd : decode cc pc = .ok (.lshl, 1)) (hq : pc + 1 = q) (g : IG Y k sl ws lv q (.long (x <<< (y.toInt64 &&& 63)) :: st)) : IG Y k sl ws lv pc (.int y :: .long x :: st) := by
  obtain ⟨p, l, e, R, s, m, args, below, meth, c, D, t, n', A, Q⟩ := Y
  obtain ⟨hx, hb, hml, hown, hts, hK, hA, rfl⟩ := C
  subst hq
  intro H locs ls hP hD hS hl
  exact lv_lshl hx hb hd rfl (g H locs ls hP hD hS hl)
theorem i_land {x y : Int64} (C : CY Y own cc n) (hd : decode cc pc = .ok (.land, 1)) (hq : pc + 1 = q) (g : IG Y k sl ws lv q (.long (x &&& y) :: st)) : IG Y k sl ws lv pc (.long y :: .long x :: st) := by
  obtain ⟨p, l, e, R, s, m, args, below, meth, c, D, t, n', A, Q⟩ := Y
  obtain ⟨hx, hb, hml, hown, hts, hK, hA, rfl⟩ := C
  subst hq
  intro H locs ls hP hD hS hl
  exact lv_land hx hb hd (g H locs ls hP hD hS hl)
theorem i_lor {x y : Int64} (C : CY Y own cc n) (hd : decode cc pc = .ok (.lor, 1)) (hq : pc + 1 = q) (g : IG Y k sl ws lv q (.long (x ||| y) :: st)) : IG Y k sl ws lv pc (.long y :: .long x :: st) := by
  obtain ⟨p, l, e, R, s, m, args, below, meth, c, D, t, n', A, Q⟩ := Y
  obtain ⟨hx, hb, hml, hown, hts, hK, hA, rfl⟩ := C
  subst hq
  intro H locs ls hP hD hS hl
  exact lv_lor hx hb hd (g H locs ls hP hD hS hl)
theorem i_ldc2 {i : Nat} {v : Int64} (C : CY Y own cc n) (hc : Cond.constantLong own i v ∈ GW) (hd : decode cc pc = .ok (.ldc2_w i, 3)) (hq : pc + 3 = q) (g : IG Y k sl ws lv q (.long v :: st)) : IG Y k sl ws lv pc st := by
  obtain ⟨p, l, e, R, s, m, args, below, meth, c, D, t, n', A, Q⟩ := Y
  obtain ⟨hx, hb, hml, hown, hts, hK, hA, rfl⟩ := C
  subst hq
  intro H locs ls hP hD hS hl
  exact lv_ldc2 hx hb hown (hts _ hc) hd (g H locs ls hP hD hS hl)
theorem i_lcmp {x y : Int64} (C : CY Y own cc n) (hd : decode cc pc = .ok (.lcmp, 1)) (hq : pc + 1 = q) (g : IG Y k sl ws lv q (.int (lg_cmp x y) :: st)) : IG Y k sl ws lv pc (.long y :: .long x :: st) := by
  obtain ⟨p, l, e, R, s, m, args, below, meth, c, D, t, n', A, Q⟩ := Y
  obtain ⟨hx, hb, hml, hown, hts, hK, hA, rfl⟩ := C
  subst hq
  intro H locs ls hP hD hS hl
  exact W.lcmp hx hb hd (g H locs ls hP hD hS hl)
theorem i_goto {off : Int} (C : CY Y own cc n) (hd : decode cc pc = .ok (.goto off, 3)) (hq : (pc : Int) + off = (q : Int)) (g : IG Y k sl ws lv q st) : IG Y k sl ws lv pc st := by
  obtain ⟨p, l, e, R, s, m, args, below, meth, c, D, t, n', A, Q⟩ := Y
  obtain ⟨hx, hb, hml, hown, hts, hK, hA, rfl⟩ := C
  intro H locs ls hP hD hS hl
  exact lv_goto hx hb hd hq (g H locs ls hP hD hS hl)
theorem i_if_eq {tgt : Nat} {off : Int} {x : Int32} (C : CY Y own cc n) (hd : decode cc pc = .ok (.ifCond .eq off, 3)) (ht : (pc : Int) + off = (tgt : Int)) (hq : pc + 3 = q) (gt : x = 0 → IG Y k sl ws lv tgt st) (gf : ¬ x = 0 → IG Y k sl ws lv q st) : IG Y k sl ws lv pc (.int x :: st) := by
  obtain ⟨p, l, e, R, s, m, args, below, meth, c, D, t, n', A, Q⟩ := Y
  obtain ⟨hx, hb, hml, hown, hts, hK, hA, rfl⟩ := C
  subst hq
  intro H locs ls hP hD hS hl
  exact lv_if_eq hx hb hd ht (fun h => gt h H locs ls hP hD hS hl) (fun h => gf h H locs ls hP hD hS hl)
theorem i_if_ne {tgt : Nat} {off : Int} {x : Int32} (C : CY Y own cc n) (hd : decode cc pc = .ok (.ifCond .ne off, 3)) (ht : (pc : Int) + off = (tgt : Int)) (hq : pc + 3 = q) (gt : ¬ x = 0 → IG Y k sl ws lv tgt st) (gf : x = 0 → IG Y k sl ws lv q st) : IG Y k sl ws lv pc (.int x :: st) := by
  obtain ⟨p, l, e, R, s, m, args, below, meth, c, D, t, n', A, Q⟩ := Y
  obtain ⟨hx, hb, hml, hown, hts, hK, hA, rfl⟩ := C
  subst hq
  intro H locs ls hP hD hS hl
  exact lv_if_ne hx hb hd ht (fun h => gt h H locs ls hP hD hS hl) (fun h => gf h H locs ls hP hD hS hl)
theorem i_icmp_ge {tgt : Nat} {off : Int} {x y : Int32} (C : CY Y own cc n) (hd : decode cc pc = .ok (.if_icmp .ge off, 3)) (ht : (pc : Int) + off = (tgt : Int)) (hq : pc + 3 = q) (gt : y ≤ x → IG Y k sl ws lv tgt st) (gf : ¬ y ≤ x → IG Y k sl ws lv q st) : IG Y k sl ws lv pc (.int y :: .int x :: st) := by
  obtain ⟨p, l, e, R, s, m, args, below, meth, c, D, t, n', A, Q⟩ := Y
  obtain ⟨hx, hb, hml, hown, hts, hK, hA, rfl⟩ := C
  subst hq
  intro H locs ls hP hD hS hl
  exact lv_icmp_ge hx hb hd ht (fun h => gt h H locs ls hP hD hS hl) (fun h => gf h H locs ls hP hD hS hl)
theorem i_icmp_gt {tgt : Nat} {off : Int} {x y : Int32} (C : CY Y own cc n) (hd : decode cc pc = .ok (.if_icmp .gt off, 3)) (ht : (pc : Int) + off = (tgt : Int)) (hq : pc + 3 = q) (gt : y < x → IG Y k sl ws lv tgt st) (gf : ¬ y < x → IG Y k sl ws lv q st) : IG Y k sl ws lv pc (.int y :: .int x :: st) := by
  obtain ⟨p, l, e, R, s, m, args, below, meth, c, D, t, n', A, Q⟩ := Y
  obtain ⟨hx, hb, hml, hown, hts, hK, hA, rfl⟩ := C
  subst hq
  intro H locs ls hP hD hS hl
  exact lv_icmp_gt hx hb hd ht (fun h => gt h H locs ls hP hD hS hl) (fun h => gf h H locs ls hP hD hS hl)
theorem i_icmp_eq {tgt : Nat} {off : Int} {x y : Int32} (C : CY Y own cc n) (hd : decode cc pc = .ok (.if_icmp .eq off, 3)) (ht : (pc : Int) + off = (tgt : Int)) (hq : pc + 3 = q) (gt : x = y → IG Y k sl ws lv tgt st) (gf : ¬ x = y → IG Y k sl ws lv q st) : IG Y k sl ws lv pc (.int y :: .int x :: st) := by
  obtain ⟨p, l, e, R, s, m, args, below, meth, c, D, t, n', A, Q⟩ := Y
  obtain ⟨hx, hb, hml, hown, hts, hK, hA, rfl⟩ := C
  subst hq
  intro H locs ls hP hD hS hl
  exact lv_icmp_eq hx hb hd ht (fun h => gt h H locs ls hP hD hS hl) (fun h => gf h H locs ls hP hD hS hl)
theorem i_tableIn {dflt lo hi off : Int} {offs : Array Int} {len : Nat} {x : Int32} (C : CY Y own cc n) (hd : decode cc pc = .ok (.tableswitch dflt lo hi offs, len)) (h1 : ¬ x.toInt < lo) (h2 : ¬ hi < x.toInt) (ho : offs[(x.toInt - lo).toNat]? = some off) (hq : (pc : Int) + off = (q : Int)) (g : IG Y k sl ws lv q st) : IG Y k sl ws lv pc (.int x :: st) := by
  obtain ⟨p, l, e, R, s, m, args, below, meth, c, D, t, n', A, Q⟩ := Y
  obtain ⟨hx, hb, hml, hown, hts, hK, hA, rfl⟩ := C
  intro H locs ls hP hD hS hl
  exact lv_tableIn hx hb hd h1 h2 ho hq (g H locs ls hP hD hS hl)
theorem i_tableOut {dflt lo hi : Int} {offs : Array Int} {len : Nat} {x : Int32} (C : CY Y own cc n) (hd : decode cc pc = .ok (.tableswitch dflt lo hi offs, len)) (h : x.toInt < lo ∨ hi < x.toInt) (hq : (pc : Int) + dflt = (q : Int)) (g : IG Y k sl ws lv q st) : IG Y k sl ws lv pc (.int x :: st) := by
  obtain ⟨p, l, e, R, s, m, args, below, meth, c, D, t, n', A, Q⟩ := Y
  obtain ⟨hx, hb, hml, hown, hts, hK, hA, rfl⟩ := C
  intro H locs ls hP hD hS hl
  exact lv_tableOut hx hb hd h hq (g H locs ls hP hD hS hl)
theorem i_obj {i a : Nat} (C : CY Y own cc n) (hL : Cond.methodLink own i objectInit ∈ GW) (hf : 1 ≤ (yR Y).frames) (hlo : (st.map fun v => v.category).sum + 12 ≤ (yR Y).locals) (hd : decode cc pc = .ok (.invokespecial i, 3)) (hq : pc + 3 = q) (g : IG Y k sl ws lv q st) : IG Y k sl ws lv pc (.ref a :: st) := by
  obtain ⟨p, l, e, R, s, m, args, below, meth, c, D, t, n', A, Q⟩ := Y
  obtain ⟨hx, hb, hml, hown, hts, hK, hA, rfl⟩ := C
  subst hq
  intro H locs ls hP hD hS hl
  have hlo : (st.map fun v => v.category).sum + 12 ≤ R.locals := hlo
  refine W.objInit hx hb hown (hts _ hL) (hts _ tw_19) (hts _ tw_20) rfl (by rw [hml]; exact hl.1) rfl hd hf (by show 2 * 0 + (st.map fun v => v.category).sum + 12 ≤ R.locals; omega) ?_
  exact W.eq (g2 := F0 m (pc + 3) ls st) rfl (g H locs ls hP hD hS hl)
theorem i_new {Cn : String} {T : u_T} {N ci i : Nat} {fs : List Value} {ty : Nat → FieldType} (C : CY Y own cc n) (hin : ∀ w ∈ u_ws Cn T N, w ∈ GW) (hty : ∀ k, k < N → parseFieldDescriptor (T k).2.2.1 = some (ty k)) (hcl : Cond.classLink own i Cn ∈ GW) (hinst : Cond.instantiable Cn N ∈ GW) (hini : Cond.initialized Cn ∈ GW) (hc : vwCl[ci]? = some (Cn, T, N)) (hfs : ∀ j, j < N → defaultValue (ty j) = vp_V fs j) (hk : k + 1 ≤ (yR Y).cells) (hs : sl + N ≤ (yR Y).slots) (hd : decode cc pc = .ok (.new i, 3)) (hq : pc + 3 = q) (g : ∀ a : Nat, IG Y (k + 1) (sl + N) (ws ++ [(a, .inr (ci, fs))]) lv q (.ref a :: st)) : IG Y k sl ws lv pc st := by
  obtain ⟨p, l, e, R, s, m, args, below, meth, c, D, t, n', A, Q⟩ := Y
  obtain ⟨hx, hb, hml, hown, hts, hK, hA, rfl⟩ := C
  subst hq
  intro H locs ls hP hD hS hl
  exact va_new hx hb hts hin ty hty hown (hts _ hcl) (hts _ hinst) (hts _ hini) hK.1 hP hD hS hA hc hfs hk hs hd (fun a H1 hP1 hD1 hS1 => g a H1 locs ls hP1 hD1 hS1 hl)
theorem i_newa {i : Int32} {N : Nat} (C : CY Y own cc n) (hn : ¬ i < 0) (hN : i.toNatClampNeg = N) (hby : N * 4 ≤ 536870912) (hk : k + 1 ≤ (yR Y).cells) (hs : sl + N ≤ (yR Y).slots) (hd : decode cc pc = .ok (.newarray .int, 2)) (hq : pc + 2 = q) (g : ∀ a : Nat, IG Y (k + 1) (sl + N) (ws ++ [(a, .inl ((yc Y).1, N, .inl (fun _ => 0)))]) lv q (.ref a :: st)) : IG Y k sl ws lv pc (.int i :: st) := by
  obtain ⟨p, l, e, R, s, m, args, below, meth, c, D, t, n', A, Q⟩ := Y
  obtain ⟨hx, hb, hml, hown, hts, hK, hA, rfl⟩ := C
  subst hq
  intro H locs ls hP hD hS hl
  refine va_newa (atype := .int) hx hb (hts _ tw_73) rfl hK.1 hP hD hS hA (a0 := (N, .inl (fun _ => 0))) (fun cA => rfl) hn hN hby hk hs hd (fun a cA H1 hK1 hP1 hD1 hS1 => ?_)
  have e1 : s.vm.findClass ("[" ++ (FieldType.int).toString) = some t.1 := (hK.1.2 0 _ rfl).2
  have e2 : s.vm.findClass ("[" ++ (FieldType.int).toString) = some cA := (hK1.2 3 _ rfl).2
  have e3 : cA = t.1 := Option.some.inj (e2.symm.trans e1)
  subst e3
  exact g a H1 locs ls hP1 hD1 hS1 hl
theorem i_newq0 {i : Int32} {N j : Nat} (C : CY Y own cc n) (hcl : Cond.classLink own j RX0 ∈ GW) (hn : ¬ i < 0) (hN : i.toNatClampNeg = N) (hby : N * 4 ≤ 536870912) (hk : k + 1 ≤ (yR Y).cells) (hs : sl + N ≤ (yR Y).slots) (hd : decode cc pc = .ok (.anewarray j, 3)) (hq : pc + 3 = q) (g : ∀ a : Nat, IG Y (k + 1) (sl + N) (ws ++ [(a, .inl ((yc Y).2.1, N, .inr (.inr (.inr (.inr (fun _ => none))))))]) lv q (.ref a :: st)) : IG Y k sl ws lv pc (.int i :: st) := by
  obtain ⟨p, l, e, R, s, m, args, below, meth, c, D, t, n', A, Q⟩ := Y
  obtain ⟨hx, hb, hml, hown, hts, hK, hA, rfl⟩ := C
  subst hq
  intro H locs ls hP hD hS hl
  refine va_newq hx hb hown (hts _ hcl) hK.2.2.1 hK.1 hP hD hS hA hn hN hby hk hs hd (fun a cA H1 hK1 hP1 hD1 hS1 => ?_)
  obtain ⟨-, -, -, -, -, e1⟩ := (hK.1.2 1 _ rfl).2
  obtain ⟨-, -, -, -, -, e2⟩ := (hK1.2 3 _ rfl).2
  have e3 : cA = t.2.1 := Option.some.inj (e2.symm.trans e1)
  subst e3
  exact g a H1 locs ls hP1 hD1 hS1 hl
theorem i_newq3 {i : Int32} {N j : Nat} (C : CY Y own cc n) (hcl : Cond.classLink own j RX3 ∈ GW) (hn : ¬ i < 0) (hN : i.toNatClampNeg = N) (hby : N * 4 ≤ 536870912) (hk : k + 1 ≤ (yR Y).cells) (hs : sl + N ≤ (yR Y).slots) (hd : decode cc pc = .ok (.anewarray j, 3)) (hq : pc + 3 = q) (g : ∀ a : Nat, IG Y (k + 1) (sl + N) (ws ++ [(a, .inl ((yc Y).2.2, N, .inr (.inr (.inr (.inr (fun _ => none))))))]) lv q (.ref a :: st)) : IG Y k sl ws lv pc (.int i :: st) := by
  obtain ⟨p, l, e, R, s, m, args, below, meth, c, D, t, n', A, Q⟩ := Y
  obtain ⟨hx, hb, hml, hown, hts, hK, hA, rfl⟩ := C
  subst hq
  intro H locs ls hP hD hS hl
  refine va_newq hx hb hown (hts _ hcl) hK.2.2.2 hK.1 hP hD hS hA hn hN hby hk hs hd (fun a cA H1 hK1 hP1 hD1 hS1 => ?_)
  obtain ⟨-, -, -, -, -, e1⟩ := (hK.1.2 2 _ rfl).2
  obtain ⟨-, -, -, -, -, e2⟩ := (hK1.2 3 _ rfl).2
  have e3 : cA = t.2.2 := Option.some.inj (e2.symm.trans e1)
  subst e3
  exact g a H1 locs ls hP1 hD1 hS1 hl
theorem i_get {ref nm ds : String} {T : u_T} {N ci i h0 : Nat} {j : Nat} {fs : List Value} {R : va_W} {v : Value} (C : CY Y own cc n) (hin : ∀ w ∈ u_ws ref T N, w ∈ GW) (hc : vwCl[ci]? = some (ref, T, N)) (hj : j < N) (hT1 : (T j).1 = ref) (hT2 : (T j).2.1 = nm) (hT3 : (T j).2.2.1 = ds) (hL : Cond.fieldLink own i ref nm ds ∈ GW) (hv : fs[j]? = some v) (hd : decode cc pc = .ok (.getfield i, 3)) (hq : pc + 3 = q) (g : IG Y k sl ((h0, .inr (ci, fs)) :: R) lv q (v :: st)) : IG Y k sl ((h0, .inr (ci, fs)) :: R) lv pc (.ref h0 :: st) := by
  obtain ⟨p, l, e, R9, s, m, args, below, meth, c, D, t, n', A, Q⟩ := Y
  obtain ⟨hx, hb, hml, hown, hts, hK, hA, rfl⟩ := C
  subst hq
  intro H locs ls hP hD hS hl
  subst hT2
  subst hT3
  exact va_get hx hb hts hin hown hK.1 hP 0 rfl hc j hj (hts _ hL) (fun x h => by rw [← hT1]; exact h) hv hd (g H locs ls hP hD hS hl)
theorem i_put {ref nm ds : String} {T : u_T} {N ci i h0 : Nat} {ty0 : Nat → FieldType} {j : Nat} {fs fs' : List Value} {R : va_W} {v : Value} (C : CY Y own cc n) (hin : ∀ w ∈ u_ws ref T N, w ∈ GW) (hty : ∀ k, k < N → parseFieldDescriptor (T k).2.2.1 = some (ty0 k)) (hnm : ∀ a, a < N → ∀ b, b < N → a ≠ b → (T a).2.1 ≠ (T b).2.1) (hc : vwCl[ci]? = some (ref, T, N)) (hj : j < N) (hT1 : (T j).1 = ref) (hT2 : (T j).2.1 = nm) (hT3 : (T j).2.2.1 = ds) (hfin : (T j).2.2.2 = false) (hL : Cond.fieldLink own i ref nm ds ∈ GW) (hn : narrow (ty0 j) v = v) (hft : fits (ty0 j) v = true) (hlen : j < fs.length) (hfs : fs.set j v = fs') (hd : decode cc pc = .ok (.putfield i, 3)) (hq : pc + 3 = q) (g : IG Y k sl ((h0, .inr (ci, fs')) :: R) lv q st) : IG Y k sl ((h0, .inr (ci, fs)) :: R) lv pc (v :: .ref h0 :: st) := by
  obtain ⟨p, l, e, R9, s, m, args, below, meth, c, D, t, n', A, Q⟩ := Y
  obtain ⟨hx, hb, hml, hown, hts, hK, hA, rfl⟩ := C
  subst hq
  intro H locs ls hP hD hS hl
  subst hT2
  subst hT3
  subst hfs
  exact va_put hx hb hts hin ty0 hty hnm hown hK.1 hP hD hS 0 rfl hc j hj (hts _ hL) (fun x h => by rw [← hT1]; exact h) hfin (hty j hj) hn hft hlen hd (fun H1 locs1 hP1 hD1 hS1 => g H1 locs1 ls hP1 hD1 hS1 hl)
end IGR
theorem yin {p : Program} {l : Launch} {e : Env} {R : Room} {s : State} {m : MethodId} {args : Array Value} {below : List Frame} {meth : Method} {c : Code} {D : va_G} {t : C3} {n : Nat} {A : Nat → Prop} {Q : State → Prop} : yR (p, l, e, R, s, m, args, below, meth, c, D, t, n, A, Q) = R := rfl
def yM : Yt → Method := fun Y => Y.2.2.2.2.2.2.2.2.1
section IGS
variable {Y : Yt} {own : String} {cc : ByteArray} {n k sl : Nat} {ws : va_W} {lv : List (Nat × Value)} {pc q : Nat} {st : List Value}
theorem i_putF {ref nm ds : String} {T : u_T} {N ci i h0 : Nat} {ty0 : Nat → FieldType} {j : Nat} {fs fs' : List Value} {R : va_W} {v : Value} (C : CY Y own cc n) (hI : (yM Y).name = "<init>") (hin : ∀ w ∈ u_ws ref T N, w ∈ GW) (hty : ∀ k, k < N → parseFieldDescriptor (T k).2.2.1 = some (ty0 k)) (hnm : ∀ a, a < N → ∀ b, b < N → a ≠ b → (T a).2.1 ≠ (T b).2.1) (hc : vwCl[ci]? = some (ref, T, N)) (hj : j < N) (hT1 : (T j).1 = ref) (hT2 : (T j).2.1 = nm) (hT3 : (T j).2.2.1 = ds) (hfin : (T j).2.2.2 = true) (ho : (T j).1 = own) (hL : Cond.fieldLink own i ref nm ds ∈ GW) (hn : narrow (ty0 j) v = v) (hft : fits (ty0 j) v = true) (hlen : j < fs.length) (hfs : fs.set j v = fs') (hd : decode cc pc = .ok (.putfield i, 3)) (hq : pc + 3 = q) (g : IG Y k sl ((h0, .inr (ci, fs')) :: R) lv q st) : IG Y k sl ((h0, .inr (ci, fs)) :: R) lv pc (v :: .ref h0 :: st) := by
  obtain ⟨p, l, e, R9, s, m, args, below, meth, c, D, t, n', A, Q⟩ := Y
  obtain ⟨hx, hb, hml, hown, hts, hK, hA, rfl⟩ := C
  subst hq
  intro H locs ls hP hD hS hl
  subst hT2
  subst hT3
  subst hfs
  exact va_putF hx hb hts hin ty0 hty hnm hown hK.1 hP hD hS 0 rfl hc j hj (hts _ hL) (fun x h => by rw [← hT1]; exact h) hfin hI ho (hty j hj) hn hft hlen hd (fun H1 locs1 hP1 hD1 hS1 => g H1 locs1 ls hP1 hD1 hS1 hl)
theorem i_iast {q0 a N : Nat} {f : Nat → Int32} {ws' : va_W} {i x : Int32} (C : CY Y own cc n) (ha : ws[q0]? = some (a, .inl ((yc Y).1, N, .inl f))) (hi : vp_in i N) (hws : ws.set q0 (a, .inl ((yc Y).1, N, .inl (upd f i.toNatClampNeg x))) = ws') (hd : decode cc pc = .ok (.iastore, 1)) (hq : pc + 1 = q) (g : IG Y k sl ws' lv q st) : IG Y k sl ws lv pc (.int x :: .int i :: .ref a :: st) := by
  obtain ⟨p, l, e, R9, s, m, args, below, meth, c, D, t, n', A, Q⟩ := Y
  obtain ⟨hx, hb, hml, hown, hts, hK, hA, rfl⟩ := C
  subst hq
  intro H locs ls hP hD hS hl
  subst hws
  exact va_iast hx hb hK.1 hP hD hS q0 0 ha rfl hi hd (fun H1 locs1 hP1 hD1 hS1 => g H1 locs1 ls hP1 hD1 hS1 hl)
theorem i_astq0 {q0 qk a N v : Nat} {vs : List Value} {f : Nat → Option Nat} {ws' : va_W} {i : Int32} (C : CY Y own cc n) (ha : ws[q0]? = some (a, .inl ((yc Y).2.1, N, .inr (.inr (.inr (.inr f)))))) (hv : ws[qk]? = some (v, .inr (0, vs))) (hi : vp_in i N) (hws : ws.set q0 (a, .inl ((yc Y).2.1, N, .inr (.inr (.inr (.inr (va_up f i.toNatClampNeg (some v))))))) = ws') (hd : decode cc pc = .ok (.aastore, 1)) (hq : pc + 1 = q) (g : IG Y k sl ws' lv q st) : IG Y k sl ws lv pc (.ref v :: .int i :: .ref a :: st) := by
  obtain ⟨p, l, e, R9, s, m, args, below, meth, c, D, t, n', A, Q⟩ := Y
  obtain ⟨hx, hb, hml, hown, hts, hK, hA, rfl⟩ := C
  subst hq
  intro H locs ls hP hD hS hl
  subst hws
  exact va_astq (r := (RX0, TX0, 4)) hx hb hK.1 hP hD hS q0 1 qk 0 ha rfl hv rfl hi hd (fun H1 locs1 hP1 hD1 hS1 => g H1 locs1 ls hP1 hD1 hS1 hl)
theorem i_astq3 {q0 qk a N v : Nat} {vs : List Value} {f : Nat → Option Nat} {ws' : va_W} {i : Int32} (C : CY Y own cc n) (ha : ws[q0]? = some (a, .inl ((yc Y).2.2, N, .inr (.inr (.inr (.inr f)))))) (hv : ws[qk]? = some (v, .inr (3, vs))) (hi : vp_in i N) (hws : ws.set q0 (a, .inl ((yc Y).2.2, N, .inr (.inr (.inr (.inr (va_up f i.toNatClampNeg (some v))))))) = ws') (hd : decode cc pc = .ok (.aastore, 1)) (hq : pc + 1 = q) (g : IG Y k sl ws' lv q st) : IG Y k sl ws lv pc (.ref v :: .int i :: .ref a :: st) := by
  obtain ⟨p, l, e, R9, s, m, args, below, meth, c, D, t, n', A, Q⟩ := Y
  obtain ⟨hx, hb, hml, hown, hts, hK, hA, rfl⟩ := C
  subst hq
  intro H locs ls hP hD hS hl
  subst hws
  exact va_astq (r := (RX3, TX3, 3)) hx hb hK.1 hP hD hS q0 2 qk 3 ha rfl hv rfl hi hd (fun H1 locs1 hP1 hD1 hS1 => g H1 locs1 ls hP1 hD1 hS1 hl)
/-- another shape of the same world -/
theorem i_ws {ws' : va_W} (h : ws = ws') (g : IG Y k sl ws' lv pc st) : IG Y k sl ws lv pc st := h ▸ g
theorem join1 {A0 : Nat → Prop} {D : va_G} {wr w1 : va_W} {b : Nat} {e0 : va_E} {H H1 : Heap} (hP : va_P D vwCl (wr ++ [(b, e0)]) H) (hD : va_D A0 (wr ++ [(b, e0)])) (hk : ∀ q : Nat, q < H.size → ¬ va_A [(b, e0)] H.size q → H1[q]? = H[q]?) (hF : ∀ q, va_A [(b, e0)] H.size q → A0 q) (hP1 : va_P D vwCl w1 H1) (hD1 : va_D (va_A [(b, e0)] H.size) w1) : va_P D vwCl (wr ++ w1) H1 ∧ va_D A0 (wr ++ w1) := by
  have key : ∀ (k : Nat) (x : Nat × va_E), wr[k]? = some x → x.1 < H.size ∧ ¬ va_A [(b, e0)] H.size x.1 := by
    intro k x hx
    have hl : k < wr.length := (List.getElem?_eq_some_iff.mp hx).1
    have hx2 : (wr ++ [(b, e0)])[k]? = some x := by rw [List.getElem?_append_left hl]; exact hx
    have hlt := (hP k x hx2).lt
    refine ⟨hlt, fun h => ?_⟩
    rcases h with ⟨j, e, hj⟩ | h
    · have hj0 : j = 0 := by
        have := (List.getElem?_eq_some_iff.mp hj).1
        simp at this; exact this
      subst hj0
      have hb : (b, e0) = (x.1, e) := Option.some.inj hj
      have h2 : (wr ++ [(b, e0)])[wr.length]? = some (b, e0) := by simp
      have := hD.1 k wr.length x (b, e0) hx2 h2 (by rw [hb])
      omega
    · omega
  constructor
  · refine va_P.app (fun k x hx => ?_) hP1
    have hl : k < wr.length := (List.getElem?_eq_some_iff.mp hx).1
    have hx2 : (wr ++ [(b, e0)])[k]? = some x := by rw [List.getElem?_append_left hl]; exact hx
    obtain ⟨h1, h2⟩ := key k x hx
    exact (hP k x hx2).kept (hk x.1 h1 h2)
  · have wrA : ∀ (k : Nat) (x : Nat × va_E), wr[k]? = some x → A0 x.1 := fun k x hx => by
      have hl : k < wr.length := (List.getElem?_eq_some_iff.mp hx).1
      exact hD.2 k x (by rw [List.getElem?_append_left hl]; exact hx)
    refine ⟨fun i j x y hi hj hxy => ?_, fun k x hx => ?_⟩
    · by_cases hil : i < wr.length <;> by_cases hjl : j < wr.length
      · rw [List.getElem?_append_left hil] at hi
        rw [List.getElem?_append_left hjl] at hj
        exact hD.1 i j x y (by rw [List.getElem?_append_left hil]; exact hi) (by rw [List.getElem?_append_left hjl]; exact hj) hxy
      · rw [List.getElem?_append_left hil] at hi
        rw [List.getElem?_append_right (by omega)] at hj
        exact absurd (hxy ▸ hD1.2 _ y hj) (key i x hi).2
      · rw [List.getElem?_append_right (by omega)] at hi
        rw [List.getElem?_append_left hjl] at hj
        exact absurd (hxy ▸ hD1.2 _ x hi) (key j y hj).2
      · rw [List.getElem?_append_right (by omega)] at hi hj
        have := hD1.1 _ _ x y hi hj hxy
        omega
    · by_cases hil : k < wr.length
      · rw [List.getElem?_append_left hil] at hx
        exact wrA k x hx
      · rw [List.getElem?_append_right (by omega)] at hx
        exact hF _ (hD1.2 _ x hx)
theorem freeL {A0 : Nat → Prop} {wr : va_W} {b : Nat} {e0 : va_E} {H0 H : Heap} {locs : List Loc} (hD : va_D A0 (wr ++ [(b, e0)])) (hS : va_S A0 H0 H locs) (hA : ∀ q, H0.size ≤ q → A0 q) : ∀ q, va_A [(b, e0)] H.size q → A0 q := by
  intro q h
  rcases h with ⟨j, e, hj⟩ | h
  · have hj0 : j = 0 := by
      have := (List.getElem?_eq_some_iff.mp hj).1
      simp at this; exact this
    subst hj0
    have hb : (b, e0) = (q, e) := Option.some.inj hj
    have := hD.2 wr.length (b, e0) (by simp)
    rw [hb] at this
    exact this
  · exact hA q (Nat.le_trans hS.1 h)
theorem lastP {D : va_G} {wr : va_W} {x : Nat × va_E} {H : Heap} (hP : va_P D vwCl (wr ++ [x]) H) : va_P D vwCl [x] H := fun k y hy => by
  have hj0 : k = 0 := by
    have := (List.getElem?_eq_some_iff.mp hy).1
    simp at this; exact this
  subst hj0
  exact hP wr.length y (by simpa using hy)
/-- a constructor of a class that is linked as usual -/
theorem i_callI {y : MethodName} {b : ByteArray} {n2 d2 mc ms i na h1 : Nat} {As : List Value} {e0 : va_E} {post : (Nat → Nat) → va_W} {wr : va_W} (C : CY Y own cc n) (hL : Cond.methodLink own i y ∈ GW) (hin : Cond.instanceMethod y ∈ GW) (hi : Cond.initialized y.cls ∈ GW) (hco : Cond.code y b n2 none ∈ GW) (hy : y.cls ≠ "java/lang/invoke/MethodHandle" ∧ y.cls ≠ "java/lang/invoke/VarHandle" ∧ (parseMethodDescriptor y.desc).map (fun d => d.parameters.length) = some na) (hyn : y.name = "<init>") (hR : d2 + 1 ≤ (yR Y).frames ∧ 8 + (n2 + 11) + 40 * d2 ≤ (yR Y).locals) (hna : As.length = na) (hst : (st.map fun v => v.category).sum ≤ 8) (hct : CI (yl Y) (yD Y) (yc Y) y b n2 d2 mc ms h1 As e0 post) (hce : k + mc ≤ (yR Y).cells ∧ sl + ms ≤ (yR Y).slots) (hd : decode cc pc = .ok (.invokespecial i, 3)) (hq : pc + 3 = q) (g : ∀ qa : Nat → Nat, IG Y (k + mc) (sl + ms) (wr ++ post qa) lv q st) {st0 : List Value} (h0 : st0 = As.reverse ++ .ref h1 :: st) : IG Y k sl (wr ++ [(h1, e0)]) lv pc st0 := by
  subst h0
  obtain ⟨p, l, e, R, s, m, args, below, meth, c, D, t, n', A, Q⟩ := Y
  obtain ⟨hx, hb, hml, hown, hts, hK, hA, rfl⟩ := C
  subst hq
  intro H locs ls hP hD hS hl
  have hF := freeL hD hS hA
  refine va_callv (va_runI (As := As) (rest := st) ⟨hx, hb, hml, hown, hts⟩ (hct H.size) ⟨callB_of na hts (gw_good hco) rfl rfl rfl (hts _ hi) (hts _ hL) hy ⟨hR.1, hR.2⟩, hyn, hts _ hin⟩ ⟨fun a U g mk z => ⟨z.1, z.2.1, z.2.2.1, KI.blind z.2.2.2⟩, fun U hU hW => ⟨rfl, by rw [hU], by rw [hU]; exact lastP hP, KI.warm hW hK⟩⟩ rfl hna hl.1 rfl (lv_room hst) hd hce) hS (fun q _ h => hF q h) hF (fun u t2 H1 locs1 ht hvm _ hB hz1 hk1 hS1 => ?_)
  obtain ⟨hP1, hD1⟩ := hB
  rw [ht] at hP1
  obtain ⟨hP2, hD2⟩ := join1 hP hD hk1 hF hP1 hD1
  exact g u H1 locs1 ls hP2 hD2 hS1 hl
/-- a private constructor of a nest mate -/
theorem i_callN {y : MethodName} {host : String} {b : ByteArray} {n2 d2 mc ms i na h1 : Nat} {As : List Value} {e0 : va_E} {post : (Nat → Nat) → va_W} {wr : va_W} (C : CY Y own cc n) (hL : Cond.methodLinkNest own i y host ∈ NW) (hin : Cond.instanceMethod y ∈ GW) (hi : Cond.initialized y.cls ∈ GW) (hco : Cond.code y b n2 none ∈ GW) (hy : y.cls ≠ "java/lang/invoke/MethodHandle" ∧ y.cls ≠ "java/lang/invoke/VarHandle" ∧ (parseMethodDescriptor y.desc).map (fun d => d.parameters.length) = some na) (hyn : y.name = "<init>") (hR : d2 + 1 ≤ (yR Y).frames ∧ 8 + (n2 + 11) + 40 * d2 ≤ (yR Y).locals) (hna : As.length = na) (hst : (st.map fun v => v.category).sum ≤ 8) (hct : CI (yl Y) (yD Y) (yc Y) y b n2 d2 mc ms h1 As e0 post) (hce : k + mc ≤ (yR Y).cells ∧ sl + ms ≤ (yR Y).slots) (hd : decode cc pc = .ok (.invokespecial i, 3)) (hq : pc + 3 = q) (g : ∀ qa : Nat → Nat, IG Y (k + mc) (sl + ms) (wr ++ post qa) lv q st) {st0 : List Value} (h0 : st0 = As.reverse ++ .ref h1 :: st) : IG Y k sl (wr ++ [(h1, e0)]) lv pc st0 := by
  subst h0
  obtain ⟨p, l, e, R, s, m, args, below, meth, c, D, t, n', A, Q⟩ := Y
  obtain ⟨hx, hb, hml, hown, hts, hK, hA, rfl⟩ := C
  subst hq
  intro H locs ls hP hD hS hl
  have hF := freeL hD hS hA
  refine va_callv (va_runIN (As := As) (rest := st) ⟨hx, hb, hml, hown, hts⟩ (hct H.size) ⟨va_cnB na hts (gw_good hco) rfl rfl rfl (hK.2.1 _ hL) (hts _ hi) hy ⟨hR.1, hR.2⟩, hyn, hts _ hin⟩ ⟨fun a U g mk z => ⟨z.1, z.2.1, z.2.2.1, KI.blind z.2.2.2⟩, fun U hU hW => ⟨rfl, by rw [hU], by rw [hU]; exact lastP hP, KI.warm hW hK⟩⟩ rfl hna hl.1 rfl (lv_room hst) hd hce) hS (fun q _ h => hF q h) hF (fun u t2 H1 locs1 ht hvm _ hB hz1 hk1 hS1 => ?_)
  obtain ⟨hP1, hD1⟩ := hB
  rw [ht] at hP1
  obtain ⟨hP2, hD2⟩ := join1 hP hD hk1 hF hP1 hD1
  exact g u H1 locs1 ls hP2 hD2 hS1 hl
end IGS
/-- a constructor's contract out of its walk -/
theorem CI.of {l : Launch} {D : va_G} {t : C3} {y : MethodName} {b : ByteArray} {n d mc ms h0 : Nat} {As : List Value} {e0 : va_E} {post : (Nat → Nat) → va_W} (hy : plainFor y = true) (hyn : y.name = "<init>") (hn : (lg_sl (.ref h0 :: As)).length ≤ n)
    (h : ∀ (Y : Yt), yl Y = l → yD Y = D → yc Y = t → yR Y = rmC d mc ms → (yM Y).name = "<init>" → CY Y y.cls b n → (∀ (lv : List (Nat × Value)) (pc : Nat) (ws : va_W) (qa : Nat → Nat), decode b pc = .ok (.return_, 1) → ws = post qa → IG Y mc ms ws lv pc []) → IG Y 0 0 [(h0, e0)] (lv_args 0 (.ref h0 :: As)) 0 []) : CI l D t y b n d mc ms h0 As e0 post := by
  intro sz
  refine mt_ofWF (cc := b) (maxL := n) (ret := none) hy rfl ?_
  intro p e s m args below meth c s₁ B hml hv
  obtain ⟨rfl, hsz, hP, hK⟩ := hv
  subst hsz
  have hts := atoms_spec (ws := .code y b n none :: GW) B.pre
  have hown : s.vm.findClass y.cls = some m.cls := findClass_of_methodNamed B.named
  have hl := lv_entry (.ref h0 :: As) (n := n) hn
  have hnm : meth.name = "<init>" := by rw [← hyn]; exact (name_of_methodNamed B.named B.method).1
  have hD : va_D (va_A [(h0, e0)] s.heap.size) [(h0, e0)] := by
    refine ⟨fun i j x z hi hj _ => ?_, fun k x hx => Or.inl ⟨k, x.2, hx⟩⟩
    have h1 := (List.getElem?_eq_some_iff.mp hi).1
    have h2 := (List.getElem?_eq_some_iff.mp hj).1
    simp at h1 h2
    omega
  have hr := B.returns
  have hx := B.exec
  have hb := B.bytes
  have hlk := B.notSynchronized
  rw [lg_entry_eq]
  refine h (p, l, e, rmC d mc ms, s, m, (Value.ref h0 :: As).toArray, below, meth, c, D, t, n, va_A [(h0, e0)] s.heap.size, MQ below (QCI D (va_A [(h0, e0)] s.heap.size) post) (Value.ref h0 :: As).toArray s mc ms (va_A [(h0, e0)] s.heap.size)) rfl rfl rfl rfl hnm ⟨hx, hb, hml, hown, fun w hw => hts w (List.mem_cons_of_mem _ hw), hK, fun q hq => Or.inr hq, rfl⟩ ?_ s.heap [] _ hP hD va_S.rf hl
  intro lv pc ws qa hd hws H locs ls hP1 hD1 hS1 hl1
  subst hws
  exact W.vret hx hb hr (fun t2 ht _ => ⟨⟨qa, rfl, trivial, by rw [ht]; exact hP1, hD1⟩, hS1.F ht⟩) hS1.2.2 hd hlk
