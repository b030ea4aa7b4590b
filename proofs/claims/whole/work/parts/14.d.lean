/-! the worlds of the law -/
def mkE (D : va_G) (t : C3) (tB : Nat) (ad : Nat → Nat) : Ev := (D, ad, t.1, (fun w => if w = 0 then t.2.1 else t.2.2), tB)
theorem permIx {α : Type} {ws ws' : List α} (is : List Nat) (h1 : is.Perm (List.range ws.length)) (h2 : is.map (fun i => ws[i]?) = ws'.map some) : ws'.Perm ws := by
  have h3 : (List.range ws.length).map (fun i => ws[i]?) = ws.map some := by
    apply List.ext_getElem
    · simp
    · intro i h6 h7
      simp at h6 h7
      simp [h7]
  have h4 := h1.map (fun i => ws[i]?)
  rw [h2, h3] at h4
  have h5 := h4.filterMap id
  simpa [List.filterMap_map] using h5
theorem qaE (ad : Nat → Nat) (rs : List Nat) : (fun i : Nat => (rs[i]?).map ad) = fun i : Nat => (rs.map ad)[i]? := by
  funext i
  rw [List.getElem?_map]
def adC (h : Nat) (q : Nat → Nat) : Nat → Nat := fun k => [h, (q 0), (q 1), (q 2), (q 3), (q 12), (q 13), (q 14), (q 15), (q 16), (q 17), (q 4), (q 5), (q 6), (q 7), (q 8), (q 9), (q 10), (q 11), (q 18), (q 19), (q 20), (q 21), (q 30), (q 31), (q 32), (q 33), (q 34), (q 35), (q 22), (q 23), (q 24), (q 25), (q 26), (q 27), (q 28), (q 29), (q 36), (q 37), (q 38), (q 39), (q 40), (q 41), (q 42), (q 43), (q 44), (q 45), (q 46), (q 48), (q 49), (q 50), (q 51), (q 52), (q 53), (q 54), (q 55), (q 47)].getD k 0
def adM (h : Nat) (q : Nat → Nat) : Nat → Nat := fun k => [h, (q 0), (q 1), (q 2), (q 3), (q 4), (q 5), (q 6), (q 7), (q 8), (q 9)].getD k 0
def d0 : Nat → Int32 := upd (upd (upd (upd (upd (upd (upd (upd (fun _ => 0) (12 : Int32).toNatClampNeg (12 : Int32)) (13 : Int32).toNatClampNeg (20 : Int32)) (15 : Int32).toNatClampNeg (12 : Int32)) (16 : Int32).toNatClampNeg (20 : Int32)) (5 : Int32).toNatClampNeg (60 : Int32)) (6 : Int32).toNatClampNeg (5 : Int32)) (7 : Int32).toNatClampNeg (30 : Int32)) (8 : Int32).toNatClampNeg (1 : Int32)
def gM0 : Fn := fun k => match k with
  | 0 => fun j => if j = 10 then -1 else 0
  | 1 => d0
  | _ => fun _ => 0
def rw7 : Nat → Int32 := fun j => match j with
  | 2 => 60
  | 3 => 5
  | 4 => 30
  | 15 => 1
  | _ => 0
def rw4 : Nat → Int32 := fun j => match j with
  | 0 => 12
  | 1 => 20
  | _ => 0
def rw1a : Nat → Int32 := fun j => match j with
  | 0 => 1
  | 1 => 1
  | 2 => 30
  | _ => 0
def rw1b : Nat → Int32 := fun j => match j with
  | 0 => 0
  | 1 => -99
  | 2 => 99
  | _ => 0
def fC0 : Fn := fun k => match k with
  | 1 => rw7
  | 19 => rw7
  | 2 => rw4
  | 3 => rw4
  | 20 => rw4
  | 21 => rw4
  | 38 => rw4
  | 39 => rw4
  | 12 => rw1a
  | 30 => rw1a
  | 15 => rw1b
  | 33 => rw1b
  | _ => fun _ => 0
def LC2 (t : C3) (h : Nat) (q : Nat → Nat) : va_W := [(h, .inr (8, [.ref (q 0), .ref (q 18), .ref (q 36), .ref (q 41), .ref (q 43), .ref (q 46), .ref (q 47), .int (0 : Int32)])),
  ((q 54), .inr (3, [.ref (q 55), .int (0 : Int32), .int (0 : Int32)])),
  ((q 55), .inl (t.1, 40, .inl (fun _ => 0))),
  ((q 52), .inr (3, [.ref (q 53), .int (0 : Int32), .int (0 : Int32)])),
  ((q 53), .inl (t.1, 40, .inl (fun _ => 0))),
  ((q 50), .inr (3, [.ref (q 51), .int (0 : Int32), .int (0 : Int32)])),
  ((q 51), .inl (t.1, 40, .inl (fun _ => 0))),
  ((q 48), .inr (3, [.ref (q 49), .int (0 : Int32), .int (0 : Int32)])),
  ((q 49), .inl (t.1, 40, .inl (fun _ => 0))),
  ((q 47), .inl (t.1, 6, .inl (fun _ => 0))),
  ((q 46), .inl (t.2.2, 4, .inr (.inr (.inr (.inr (fun i => [(q 48), (q 50), (q 52), (q 54)][i]?)))))),
  ((q 43), .inr (6, [.ref (q 44), .int (0 : Int32), .int (0 : Int32), .ref (q 45)])),
  ((q 45), .inr (0, [.int (0 : Int32), .int (0 : Int32), .int (0 : Int32), .int (0 : Int32)])),
  ((q 44), .inl (t.1, 40, .inl (fun _ => 0))),
  ((q 41), .inr (2, [.ref (q 0), .ref (q 42), .int (0 : Int32), .int (0 : Int32), .int (0 : Int32)])),
  ((q 42), .inl (t.1, 50, .inl (fun _ => 0))),
  ((q 36), .inr (5, [.ref (q 0), .ref (q 37), .ref (q 38), .ref (q 39), .ref (q 40), .int (0 : Int32), .int (0 : Int32), .int (0 : Int32), .int (0 : Int32)])),
  ((q 40), .inl (t.1, 60, .inl (fun _ => 0))),
  ((q 39), .inr (0, [.int (0 : Int32), .int (0 : Int32), .int (0 : Int32), .int (0 : Int32)])),
  ((q 38), .inr (4, [.int (12 : Int32), .int (20 : Int32), .int (0 : Int32)])),
  ((q 37), .inr (4, [.int (12 : Int32), .int (20 : Int32), .int (0 : Int32)])),
  ((q 18), .inr (7, [.ref (q 19), .ref (q 20), .int (60 : Int32), .int (5 : Int32), .int (30 : Int32), .int (0 : Int32), .ref (q 21), .int (0 : Int32), .ref (q 22), .int (0 : Int32), .ref (q 23), .ref (q 26), .int (0 : Int32), .int (0 : Int32), .int (0 : Int32), .int (1 : Int32), .ref (q 29), .int (0 : Int32)])),
  ((q 35), .inr (0, [.int (0 : Int32), .int (0 : Int32), .int (0 : Int32), .int (0 : Int32)])),
  ((q 34), .inr (0, [.int (0 : Int32), .int (0 : Int32), .int (0 : Int32), .int (0 : Int32)])),
  ((q 33), .inr (0, [.int (0 : Int32), .int (0 : Int32), .int (0 : Int32), .int (0 : Int32)])),
  ((q 32), .inr (0, [.int (0 : Int32), .int (0 : Int32), .int (0 : Int32), .int (0 : Int32)])),
  ((q 31), .inr (0, [.int (0 : Int32), .int (0 : Int32), .int (0 : Int32), .int (0 : Int32)])),
  ((q 30), .inr (0, [.int (0 : Int32), .int (0 : Int32), .int (0 : Int32), .int (0 : Int32)])),
  ((q 29), .inl (t.1, 20, .inl (fun _ => 0))),
  ((q 26), .inr (1, [.int (0 : Int32), .int (-99 : Int32), .int (99 : Int32), .ref (q 27), .ref (q 28), .int (0 : Int32)])),
  ((q 28), .inl (t.1, 50, .inl (fun _ => 0))),
  ((q 27), .inl (t.1, 50, .inl (fun _ => 0))),
  ((q 23), .inr (1, [.int (1 : Int32), .int (1 : Int32), .int (30 : Int32), .ref (q 24), .ref (q 25), .int (0 : Int32)])),
  ((q 25), .inl (t.1, 50, .inl (fun _ => 0))),
  ((q 24), .inl (t.1, 50, .inl (fun _ => 0))),
  ((q 22), .inl (t.1, 50, .inl (fun _ => 0))),
  ((q 21), .inl (t.2.1, 6, .inr (.inr (.inr (.inr (fun i => [(q 30), (q 31), (q 32), (q 33), (q 34), (q 35)][i]?)))))),
  ((q 20), .inr (4, [.int (12 : Int32), .int (20 : Int32), .int (0 : Int32)])),
  ((q 19), .inr (4, [.int (12 : Int32), .int (20 : Int32), .int (0 : Int32)])),
  ((q 0), .inr (7, [.ref (q 1), .ref (q 2), .int (60 : Int32), .int (5 : Int32), .int (30 : Int32), .int (0 : Int32), .ref (q 3), .int (0 : Int32), .ref (q 4), .int (0 : Int32), .ref (q 5), .ref (q 8), .int (0 : Int32), .int (0 : Int32), .int (0 : Int32), .int (1 : Int32), .ref (q 11), .int (0 : Int32)])),
  ((q 17), .inr (0, [.int (0 : Int32), .int (0 : Int32), .int (0 : Int32), .int (0 : Int32)])),
  ((q 16), .inr (0, [.int (0 : Int32), .int (0 : Int32), .int (0 : Int32), .int (0 : Int32)])),
  ((q 15), .inr (0, [.int (0 : Int32), .int (0 : Int32), .int (0 : Int32), .int (0 : Int32)])),
  ((q 14), .inr (0, [.int (0 : Int32), .int (0 : Int32), .int (0 : Int32), .int (0 : Int32)])),
  ((q 13), .inr (0, [.int (0 : Int32), .int (0 : Int32), .int (0 : Int32), .int (0 : Int32)])),
  ((q 12), .inr (0, [.int (0 : Int32), .int (0 : Int32), .int (0 : Int32), .int (0 : Int32)])),
  ((q 11), .inl (t.1, 20, .inl (fun _ => 0))),
  ((q 8), .inr (1, [.int (0 : Int32), .int (-99 : Int32), .int (99 : Int32), .ref (q 9), .ref (q 10), .int (0 : Int32)])),
  ((q 10), .inl (t.1, 50, .inl (fun _ => 0))),
  ((q 9), .inl (t.1, 50, .inl (fun _ => 0))),
  ((q 5), .inr (1, [.int (1 : Int32), .int (1 : Int32), .int (30 : Int32), .ref (q 6), .ref (q 7), .int (0 : Int32)])),
  ((q 7), .inl (t.1, 50, .inl (fun _ => 0))),
  ((q 6), .inl (t.1, 50, .inl (fun _ => 0))),
  ((q 4), .inl (t.1, 50, .inl (fun _ => 0))),
  ((q 3), .inl (t.2.1, 6, .inr (.inr (.inr (.inr (fun i => [(q 12), (q 13), (q 14), (q 15), (q 16), (q 17)][i]?)))))),
  ((q 2), .inr (4, [.int (12 : Int32), .int (20 : Int32), .int (0 : Int32)])),
  ((q 1), .inr (4, [.int (12 : Int32), .int (20 : Int32), .int (0 : Int32)]))]
def LC1 (t : C3) (h : Nat) (q : Nat → Nat) : va_W := [(h, .inr (8, [.ref (q 0), .ref (q 18), .ref (q 36), .ref (q 41), .ref (q 43), .ref (q 46), .ref (q 47), .int (0 : Int32)])),
  ((q 0), .inr (7, [.ref (q 1), .ref (q 2), .int (60 : Int32), .int (5 : Int32), .int (30 : Int32), .int (0 : Int32), .ref (q 3), .int (0 : Int32), .ref (q 4), .int (0 : Int32), .ref (q 5), .ref (q 8), .int (0 : Int32), .int (0 : Int32), .int (0 : Int32), .int (1 : Int32), .ref (q 11), .int (0 : Int32)])),
  ((q 1), .inr (4, [.int (12 : Int32), .int (20 : Int32), .int (0 : Int32)])),
  ((q 2), .inr (4, [.int (12 : Int32), .int (20 : Int32), .int (0 : Int32)])),
  ((q 3), .inl (t.2.1, 6, .inr (.inr (.inr (.inr (fun i => [(q 12), (q 13), (q 14), (q 15), (q 16), (q 17)][i]?)))))),
  ((q 12), .inr (0, [.int (0 : Int32), .int (0 : Int32), .int (0 : Int32), .int (0 : Int32)])),
  ((q 13), .inr (0, [.int (0 : Int32), .int (0 : Int32), .int (0 : Int32), .int (0 : Int32)])),
  ((q 14), .inr (0, [.int (0 : Int32), .int (0 : Int32), .int (0 : Int32), .int (0 : Int32)])),
  ((q 15), .inr (0, [.int (0 : Int32), .int (0 : Int32), .int (0 : Int32), .int (0 : Int32)])),
  ((q 16), .inr (0, [.int (0 : Int32), .int (0 : Int32), .int (0 : Int32), .int (0 : Int32)])),
  ((q 17), .inr (0, [.int (0 : Int32), .int (0 : Int32), .int (0 : Int32), .int (0 : Int32)])),
  ((q 4), .inl (t.1, 50, .inl (fun _ => 0))),
  ((q 5), .inr (1, [.int (1 : Int32), .int (1 : Int32), .int (30 : Int32), .ref (q 6), .ref (q 7), .int (0 : Int32)])),
  ((q 6), .inl (t.1, 50, .inl (fun _ => 0))),
  ((q 7), .inl (t.1, 50, .inl (fun _ => 0))),
  ((q 8), .inr (1, [.int (0 : Int32), .int (-99 : Int32), .int (99 : Int32), .ref (q 9), .ref (q 10), .int (0 : Int32)])),
  ((q 9), .inl (t.1, 50, .inl (fun _ => 0))),
  ((q 10), .inl (t.1, 50, .inl (fun _ => 0))),
  ((q 11), .inl (t.1, 20, .inl (fun _ => 0))),
  ((q 18), .inr (7, [.ref (q 19), .ref (q 20), .int (60 : Int32), .int (5 : Int32), .int (30 : Int32), .int (0 : Int32), .ref (q 21), .int (0 : Int32), .ref (q 22), .int (0 : Int32), .ref (q 23), .ref (q 26), .int (0 : Int32), .int (0 : Int32), .int (0 : Int32), .int (1 : Int32), .ref (q 29), .int (0 : Int32)])),
  ((q 19), .inr (4, [.int (12 : Int32), .int (20 : Int32), .int (0 : Int32)])),
  ((q 20), .inr (4, [.int (12 : Int32), .int (20 : Int32), .int (0 : Int32)])),
  ((q 21), .inl (t.2.1, 6, .inr (.inr (.inr (.inr (fun i => [(q 30), (q 31), (q 32), (q 33), (q 34), (q 35)][i]?)))))),
  ((q 30), .inr (0, [.int (0 : Int32), .int (0 : Int32), .int (0 : Int32), .int (0 : Int32)])),
  ((q 31), .inr (0, [.int (0 : Int32), .int (0 : Int32), .int (0 : Int32), .int (0 : Int32)])),
  ((q 32), .inr (0, [.int (0 : Int32), .int (0 : Int32), .int (0 : Int32), .int (0 : Int32)])),
  ((q 33), .inr (0, [.int (0 : Int32), .int (0 : Int32), .int (0 : Int32), .int (0 : Int32)])),
  ((q 34), .inr (0, [.int (0 : Int32), .int (0 : Int32), .int (0 : Int32), .int (0 : Int32)])),
  ((q 35), .inr (0, [.int (0 : Int32), .int (0 : Int32), .int (0 : Int32), .int (0 : Int32)])),
  ((q 22), .inl (t.1, 50, .inl (fun _ => 0))),
  ((q 23), .inr (1, [.int (1 : Int32), .int (1 : Int32), .int (30 : Int32), .ref (q 24), .ref (q 25), .int (0 : Int32)])),
  ((q 24), .inl (t.1, 50, .inl (fun _ => 0))),
  ((q 25), .inl (t.1, 50, .inl (fun _ => 0))),
  ((q 26), .inr (1, [.int (0 : Int32), .int (-99 : Int32), .int (99 : Int32), .ref (q 27), .ref (q 28), .int (0 : Int32)])),
  ((q 27), .inl (t.1, 50, .inl (fun _ => 0))),
  ((q 28), .inl (t.1, 50, .inl (fun _ => 0))),
  ((q 29), .inl (t.1, 20, .inl (fun _ => 0))),
  ((q 36), .inr (5, [.ref (q 0), .ref (q 37), .ref (q 38), .ref (q 39), .ref (q 40), .int (0 : Int32), .int (0 : Int32), .int (0 : Int32), .int (0 : Int32)])),
  ((q 37), .inr (4, [.int (12 : Int32), .int (20 : Int32), .int (0 : Int32)])),
  ((q 38), .inr (4, [.int (12 : Int32), .int (20 : Int32), .int (0 : Int32)])),
  ((q 39), .inr (0, [.int (0 : Int32), .int (0 : Int32), .int (0 : Int32), .int (0 : Int32)])),
  ((q 40), .inl (t.1, 60, .inl (fun _ => 0))),
  ((q 41), .inr (2, [.ref (q 0), .ref (q 42), .int (0 : Int32), .int (0 : Int32), .int (0 : Int32)])),
  ((q 42), .inl (t.1, 50, .inl (fun _ => 0))),
  ((q 43), .inr (6, [.ref (q 44), .int (0 : Int32), .int (0 : Int32), .ref (q 45)])),
  ((q 44), .inl (t.1, 40, .inl (fun _ => 0))),
  ((q 45), .inr (0, [.int (0 : Int32), .int (0 : Int32), .int (0 : Int32), .int (0 : Int32)])),
  ((q 46), .inl (t.2.2, 4, .inr (.inr (.inr (.inr (fun i => [(q 48), (q 50), (q 52), (q 54)][i]?)))))),
  ((q 48), .inr (3, [.ref (q 49), .int (0 : Int32), .int (0 : Int32)])),
  ((q 49), .inl (t.1, 40, .inl (fun _ => 0))),
  ((q 50), .inr (3, [.ref (q 51), .int (0 : Int32), .int (0 : Int32)])),
  ((q 51), .inl (t.1, 40, .inl (fun _ => 0))),
  ((q 52), .inr (3, [.ref (q 53), .int (0 : Int32), .int (0 : Int32)])),
  ((q 53), .inl (t.1, 40, .inl (fun _ => 0))),
  ((q 54), .inr (3, [.ref (q 55), .int (0 : Int32), .int (0 : Int32)])),
  ((q 55), .inl (t.1, 40, .inl (fun _ => 0))),
  ((q 47), .inl (t.1, 6, .inl (fun _ => 0)))]
set_option maxHeartbeats 4000000 in
set_option maxRecDepth 100000 in
theorem eLC2 (t : C3) (h : Nat) (q : Nat → Nat) : wsX8 t h q = LC2 t h q := rfl
set_option maxHeartbeats 4000000 in
set_option maxRecDepth 100000 in
theorem cw_L (E : Ev) (f : Fn) : cw E layC f = [(E.2.1 0, cel E (f 0) (.inl (8, [3, 21, 39, 44, 46, 49, 58, 0]))), (E.2.1 1, cel E (f 1) (.inl (7, [4, 5, 0, 0, 0, 0, 6, 0, 13, 0, 14, 17, 0, 0, 0, 0, 20, 0]))), (E.2.1 2, cel E (f 2) (.inl (4, [0, 0, 0]))), (E.2.1 3, cel E (f 3) (.inl (4, [0, 0, 0]))), (E.2.1 4, cel E (f 4) (.inr (.inr (0, [5, 6, 7, 8, 9, 10])))), (E.2.1 5, cel E (f 5) (.inl (0, [0, 0, 0, 0]))), (E.2.1 6, cel E (f 6) (.inl (0, [0, 0, 0, 0]))), (E.2.1 7, cel E (f 7) (.inl (0, [0, 0, 0, 0]))), (E.2.1 8, cel E (f 8) (.inl (0, [0, 0, 0, 0]))), (E.2.1 9, cel E (f 9) (.inl (0, [0, 0, 0, 0]))), (E.2.1 10, cel E (f 10) (.inl (0, [0, 0, 0, 0]))), (E.2.1 11, cel E (f 11) (.inr (.inl 50))), (E.2.1 12, cel E (f 12) (.inl (1, [0, 0, 0, 15, 16, 0]))), (E.2.1 13, cel E (f 13) (.inr (.inl 50))), (E.2.1 14, cel E (f 14) (.inr (.inl 50))), (E.2.1 15, cel E (f 15) (.inl (1, [0, 0, 0, 18, 19, 0]))), (E.2.1 16, cel E (f 16) (.inr (.inl 50))), (E.2.1 17, cel E (f 17) (.inr (.inl 50))), (E.2.1 18, cel E (f 18) (.inr (.inl 20))), (E.2.1 19, cel E (f 19) (.inl (7, [22, 23, 0, 0, 0, 0, 24, 0, 31, 0, 32, 35, 0, 0, 0, 0, 38, 0]))), (E.2.1 20, cel E (f 20) (.inl (4, [0, 0, 0]))), (E.2.1 21, cel E (f 21) (.inl (4, [0, 0, 0]))), (E.2.1 22, cel E (f 22) (.inr (.inr (0, [23, 24, 25, 26, 27, 28])))), (E.2.1 23, cel E (f 23) (.inl (0, [0, 0, 0, 0]))), (E.2.1 24, cel E (f 24) (.inl (0, [0, 0, 0, 0]))), (E.2.1 25, cel E (f 25) (.inl (0, [0, 0, 0, 0]))), (E.2.1 26, cel E (f 26) (.inl (0, [0, 0, 0, 0]))), (E.2.1 27, cel E (f 27) (.inl (0, [0, 0, 0, 0]))), (E.2.1 28, cel E (f 28) (.inl (0, [0, 0, 0, 0]))), (E.2.1 29, cel E (f 29) (.inr (.inl 50))), (E.2.1 30, cel E (f 30) (.inl (1, [0, 0, 0, 33, 34, 0]))), (E.2.1 31, cel E (f 31) (.inr (.inl 50))), (E.2.1 32, cel E (f 32) (.inr (.inl 50))), (E.2.1 33, cel E (f 33) (.inl (1, [0, 0, 0, 36, 37, 0]))), (E.2.1 34, cel E (f 34) (.inr (.inl 50))), (E.2.1 35, cel E (f 35) (.inr (.inl 50))), (E.2.1 36, cel E (f 36) (.inr (.inl 20))), (E.2.1 37, cel E (f 37) (.inl (5, [3, 40, 41, 42, 43, 0, 0, 0, 0]))), (E.2.1 38, cel E (f 38) (.inl (4, [0, 0, 0]))), (E.2.1 39, cel E (f 39) (.inl (4, [0, 0, 0]))), (E.2.1 40, cel E (f 40) (.inl (0, [0, 0, 0, 0]))), (E.2.1 41, cel E (f 41) (.inr (.inl 60))), (E.2.1 42, cel E (f 42) (.inl (2, [3, 45, 0, 0, 0]))), (E.2.1 43, cel E (f 43) (.inr (.inl 50))), (E.2.1 44, cel E (f 44) (.inl (6, [47, 0, 0, 48]))), (E.2.1 45, cel E (f 45) (.inr (.inl 40))), (E.2.1 46, cel E (f 46) (.inl (0, [0, 0, 0, 0]))), (E.2.1 47, cel E (f 47) (.inr (.inr (1, [48, 50, 52, 54])))), (E.2.1 48, cel E (f 48) (.inl (3, [51, 0, 0]))), (E.2.1 49, cel E (f 49) (.inr (.inl 40))), (E.2.1 50, cel E (f 50) (.inl (3, [53, 0, 0]))), (E.2.1 51, cel E (f 51) (.inr (.inl 40))), (E.2.1 52, cel E (f 52) (.inl (3, [55, 0, 0]))), (E.2.1 53, cel E (f 53) (.inr (.inl 40))), (E.2.1 54, cel E (f 54) (.inl (3, [57, 0, 0]))), (E.2.1 55, cel E (f 55) (.inr (.inl 40))), (E.2.1 56, cel E (f 56) (.inr (.inl 6)))] := by
  simp only [cw, layC, List.mapIdx_cons, List.mapIdx_nil, Nat.reduceAdd]
set_option maxHeartbeats 4000000 in
set_option maxRecDepth 100000 in
theorem cw_M (E : Ev) (f : Fn) : cw E layM f = [(E.2.1 0, cel E (f 0) (.inl (9, [3, 4, 0, 5, 0, 0, 0, 0, 0, 6, 0, 0, 0, 0, 0, 0, 1, 0, 7, 8, 0, 0, 9, 10, 11, 12]))), (E.2.1 1, cel E (f 1) (.inr (.inl 264))), (E.2.1 2, cel E (f 2) (.inr (.inl 264))), (E.2.1 3, cel E (f 3) (.inr (.inl 6))), (E.2.1 4, cel E (f 4) (.inr (.inl 3))), (E.2.1 5, cel E (f 5) (.inr (.inl 60))), (E.2.1 6, cel E (f 6) (.inr (.inl 40))), (E.2.1 7, cel E (f 7) (.inr (.inl 4))), (E.2.1 8, cel E (f 8) (.inr (.inl 4))), (E.2.1 9, cel E (f 9) (.inr (.inl 160))), (E.2.1 10, cel E (f 10) (.inr (.inl 40)))] := by
  simp only [cw, layM, List.mapIdx_cons, List.mapIdx_nil, Nat.reduceAdd]
theorem cel_o (E : Ev) (r : Nat → Int32) (ci : Nat) (fl : List Nat) : cel E r (.inl (ci, fl)) = .inr (ci, fl.mapIdx (fvl E.2.1 r)) := rfl
theorem cel_a (E : Ev) (r : Nat → Int32) (n : Nat) : cel E r (.inr (.inl n)) = .inl (E.2.2.1, n, .inl r) := rfl
theorem cel_q (E : Ev) (r : Nat → Int32) (w : Nat) (rs : List Nat) : cel E r (.inr (.inr (w, rs))) = .inl (E.2.2.2.1 w, rs.length, .inr (.inr (.inr (.inr (fun i => (rs.map E.2.1)[i]?))))) := by
  rw [← qaE]; rfl
set_option maxHeartbeats 4000000 in
set_option maxRecDepth 100000 in
theorem eLC1 (D : va_G) (t : C3) (tB h : Nat) (q : Nat → Nat) : cw (mkE D t tB (adC h q)) layC fC0 = LC1 t h q := by
  rw [cw_L]
  simp only [cel_o, cel_a, cel_q, List.mapIdx_cons, List.mapIdx_nil, Nat.reduceAdd, List.length_cons, List.length_nil, List.map_cons, List.map_nil]
  rfl
set_option maxHeartbeats 4000000 in
set_option maxRecDepth 100000 in
theorem permC (D : va_G) (t : C3) (tB h : Nat) (q : Nat → Nat) : (wsX8 t h q).Perm (cw (mkE D t tB (adC h q)) layC fC0) := by
  rw [eLC2, eLC1]
  exact (permIx (ws := LC2 t h q) (ws' := LC1 t h q) [0, 39, 56, 55, 54, 45, 44, 43, 42, 41, 40, 53, 50, 52, 51, 47, 49, 48, 46, 21, 38, 37, 36, 27, 26, 25, 24, 23, 22, 35, 32, 34, 33, 29, 31, 30, 28, 16, 20, 19, 18, 17, 14, 15, 11, 13, 12, 10, 7, 8, 5, 6, 3, 4, 1, 2, 9] (by show List.Perm _ (List.range 57); decide +kernel) rfl).symm
def LM1 (t : C3) (h : Nat) (q : Nat → Nat) : va_W := [(h, .inr (9, [.ref (q 0), .ref (q 1), .int (0 : Int32), .ref (q 2), .int (0 : Int32), .int (0 : Int32), .int (0 : Int32), .int (0 : Int32), .int (0 : Int32), .ref (q 3), .int (-1 : Int32), .int (0 : Int32), .int (0 : Int32), .int (0 : Int32), .int (0 : Int32), .int (0 : Int32), .long 0, .int (0 : Int32), .ref (q 4), .ref (q 5), .int (0 : Int32), .int (0 : Int32), .ref (q 6), .ref (q 7), .ref (q 8), .ref (q 9)])),
  ((q 0), .inl (t.1, 264, .inl d0)),
  ((q 1), .inl (t.1, 264, .inl (fun _ => 0))),
  ((q 2), .inl (t.1, 6, .inl (fun _ => 0))),
  ((q 3), .inl (t.1, 3, .inl (fun _ => 0))),
  ((q 4), .inl (t.1, 60, .inl (fun _ => 0))),
  ((q 5), .inl (t.1, 40, .inl (fun _ => 0))),
  ((q 6), .inl (t.1, 4, .inl (fun _ => 0))),
  ((q 7), .inl (t.1, 4, .inl (fun _ => 0))),
  ((q 8), .inl (t.1, 160, .inl (fun _ => 0))),
  ((q 9), .inl (t.1, 40, .inl (fun _ => 0)))]
set_option maxHeartbeats 4000000 in
set_option maxRecDepth 100000 in
theorem eLM1 (D : va_G) (t : C3) (tB h : Nat) (q : Nat → Nat) : cw (mkE D t tB (adM h q)) layM gM0 = LM1 t h q := by
  rw [cw_M]
  simp only [cel_o, cel_a, cel_q, List.mapIdx_cons, List.mapIdx_nil, Nat.reduceAdd, List.length_cons, List.length_nil, List.map_cons, List.map_nil]
  rfl
set_option maxHeartbeats 4000000 in
set_option maxRecDepth 100000 in
theorem permM (D : va_G) (t : C3) (tB h : Nat) (q : Nat → Nat) : (wsX9 t h q).Perm (cw (mkE D t tB (adM h q)) layM gM0) := by
  rw [eLM1]
  exact (permIx (ws := wsX9 t h q) (ws' := LM1 t h q) [0, 10, 9, 8, 7, 6, 5, 4, 3, 2, 1] (by show List.Perm _ (List.range 11); decide +kernel) rfl).symm
theorem d0E (j : Nat) : d0 j = if j = 8 then 1 else if j = 7 then 30 else if j = 6 then 5 else if j = 5 then 60 else if j = 16 then 20 else if j = 15 then 12 else if j = 13 then 20 else if j = 12 then 12 else 0 := rfl
theorem d0Z {j : Nat} (h : j < 5 ∨ 16 < j) : d0 j = 0 := by
  rw [d0E, if_neg (by omega), if_neg (by omega), if_neg (by omega), if_neg (by omega), if_neg (by omega), if_neg (by omega), if_neg (by omega), if_neg (by omega)]
theorem Inv0 : InvM gM0 := by
  refine ⟨⟨⟨12, 20, 0, by omega, by omega, by omega, by omega, by omega, rfl, rfl, rfl⟩, ⟨12, 20, 0, by omega, by omega, by omega, by omega, by omega, rfl, rfl, rfl⟩, Or.inl rfl, Or.inl rfl, ⟨0, by omega, rfl, fun i hi => by omega⟩, ⟨0, by omega, rfl⟩, ⟨60, by omega, rfl⟩, ⟨5, by omega, rfl⟩, ⟨by decide, by decide⟩, ⟨0, by omega, rfl⟩, ⟨0, by omega, rfl⟩, ⟨0, by omega, rfl⟩, ⟨0, by omega, rfl⟩, ⟨0, by omega, rfl⟩, fun k hk => ?_⟩, Or.inl rfl, rfl, fun i hi => ⟨?_, ?_⟩, ⟨0, by omega, rfl⟩⟩
  · show 0 ≤ d0 (212 + k) ∧ d0 (212 + k) < 256
    rw [d0Z (by omega)]; decide
  · rcases (by omega : i = 0 ∨ i = 1 ∨ i = 2 ∨ i = 3) with rfl | rfl | rfl | rfl <;> exact Or.inl rfl
  · rcases (by omega : i = 0 ∨ i = 1 ∨ i = 2 ∨ i = 3) with rfl | rfl | rfl | rfl <;> exact ⟨0, by omega, rfl⟩
theorem Cpl0 : Cpl fC0 gM0 := by
  refine ⟨⟨?_, ?_, rfl, rfl, rfl, rfl, rfl, rfl, rfl, rfl, rfl, rfl, rfl, ?_, ?_, ?_, ⟨rfl, rfl, rfl, Or.inl ⟨rfl, rfl⟩⟩, ⟨rfl, rfl, rfl, Or.inl ⟨rfl, rfl⟩⟩⟩, Or.inl rfl, ⟨rfl, rfl, rfl, rfl, rfl, rfl⟩, rfl, ?_, rfl, ?_, ?_⟩
  · intro j hj; rcases (by omega : j = 0 ∨ j = 1 ∨ j = 2) with rfl | rfl | rfl <;> rfl
  · intro j hj; rcases (by omega : j = 0 ∨ j = 1 ∨ j = 2) with rfl | rfl | rfl <;> rfl
  · intro i j hi hj
    have e : gM0 1 (fl4 i + j) = 0 := d0Z (Or.inr (by unfold fl4; omega))
    rw [e]
    rcases (by omega : i = 0 ∨ i = 1 ∨ i = 2 ∨ i = 3 ∨ i = 4 ∨ i = 5) with rfl | rfl | rfl | rfl | rfl | rfl <;> rfl
  · intro j hj
    exact (d0Z (j := 212 + j) (Or.inr (by omega))).symm
  · intro j hj
    exact (d0Z (j := 92 + j) (Or.inr (by omega))).symm
  · intro k h1 h2
    show (0 : Int32) = gM0 3 k
    rfl
  · intro j _ _
    show (0 : Int32) = gM0 6 j
    rfl
  · intro i hi
    rcases (by omega : i = 0 ∨ i = 1 ∨ i = 2 ∨ i = 3) with rfl | rfl | rfl | rfl <;> exact ⟨rfl, rfl, fun _ _ => rfl⟩
