/-! THE REGISTERS: u k i is the place i of cell k -/
abbrev mg_Rg : Type := Nat → Nat → Int32
def mg_rw (u : mg_Rg) (k : Nat) (f : Nat → Int32) : mg_Rg := fun j => if j = k then f else u j
def mg_up (u : mg_Rg) (k i : Nat) (v : Int32) : mg_Rg := fun j => if j = k then upd (u k) i v else u j
def mg_F : Nat := 6000
def hp (u : mg_Rg) (fL : Nat → Int64) (fD : Nat → UInt64) : List mg_C := [.inr (7, [.ref 2, .ref 3, .ref 16, .ref 30, .ref 34, .ref 38, .int (u 0 6), .int (u 0 7), .int (u 0 8), .int (u 0 9)]), .inr (2, [.ref 3, .ref 16, .ref 23, .ref 26, .ref 29]), .inr (5, [.ref 4, .ref 7, .ref 10, .ref 13]), .inr (4, [.int 20, .int 3, .ref 5, .ref 6]), .inl (0, 61, .inl (u 4)), .inl (0, 549, .inl (u 5)), .inr (4, [.int 10, .int 4, .ref 8, .ref 9]), .inl (0, 41, .inl (u 7)), .inl (0, 369, .inl (u 8)), .inr (4, [.int 6, .int 3, .ref 11, .ref 12]), .inl (0, 19, .inl (u 10)), .inl (0, 171, .inl (u 11)), .inr (4, [.int 3, .int 1, .ref 14, .ref 15]), .inl (0, 4, .inl (u 13)), .inl (0, 36, .inl (u 14)), .inr (1, [.ref 17, .ref 20]), .inr (4, [.int 3, .int 1, .ref 18, .ref 19]), .inl (0, 4, .inl (u 17)), .inl (0, 36, .inl (u 18)), .inr (4, [.int 8, .int 1, .ref 21, .ref 22]), .inl (0, 9, .inl (u 20)), .inl (0, 81, .inl (u 21)), .inr (4, [.int 6, .int 9, .ref 24, .ref 25]), .inl (0, 55, .inl (u 23)), .inl (0, 495, .inl (u 24)), .inr (4, [.int 30, .int 15, .ref 27, .ref 28]), .inl (0, 451, .inl (u 26)), .inl (0, 4059, .inl (u 27)), .inr (0, [.int (u 28 0), .int (u 28 1), .int (u 28 2), .int (u 28 3), .int (u 28 4)]), .inr (3, [.ref 31]), .inr (4, [.int 4, .int 2, .ref 32, .ref 33]), .inl (0, 9, .inl (u 31)), .inl (0, 81, .inl (u 32)), .inr (3, [.ref 35]), .inr (4, [.int 4, .int 2, .ref 36, .ref 37]), .inl (0, 9, .inl (u 35)), .inl (0, 0, .inl (u 36)), .inr (6, [.ref 39, .ref 40, .int (u 37 2), .int (u 37 3), .int (u 37 4)]), .inl (1, 60, .inl (u 38)), .inr (4, [.int 8, .int 13, .ref 41, .ref 42]), .inl (0, 105, .inl (u 40)), .inl (0, 0, .inl (u 41)), .inr (8, [.int (u 42 0), .ref 44, .ref 45, .int (u 42 3), .ref 46, .int (u 42 5), .ref 47, .int (u 42 7), .int (u 42 8), .ref 48, .int (u 42 10), .int (u 42 11), .ref 49, .int (u 42 13), .int (u 42 14), .ref 50]), .inl (0, 690, .inl (u 43)), .inl (0, 5520, .inl (u 44)), .inl (0, 690, .inl (u 45)), .inl (0, 690, .inl (u 46)), .inl (1, 60, .inl (u 47)), .inl (0, 30, .inl (u 48)), .inl (0, 840, .inl (u 49)), .inl (2, 1, .inr (.inl fL)), .inl (3, 1, .inr (.inr (.inr (.inl fD))))]
def xri (t : Int32 ⊕ Nat) : Option Value ⊕ Nat := match t with
  | .inl v => .inl (some (.int v))
  | .inr e => .inr e
def xru (t : Unit ⊕ Nat) : Option Value ⊕ Nat := match t with
  | .inl _ => .inl none
  | .inr e => .inr e
def xrr (k : Nat) (t : Unit ⊕ Nat) : Option Value ⊕ Nat := match t with
  | .inl _ => .inl (some (.ref k))
  | .inr e => .inr e
def xrd (t : UInt64 ⊕ Nat) : Option Value ⊕ Nat := match t with
  | .inl v => .inl (some (.double v))
  | .inr e => .inr e
def xrf (t : UInt32 ⊕ Nat) : Option Value ⊕ Nat := match t with
  | .inl v => .inl (some (.float v))
  | .inr e => .inr e
def xw {α : Type} (t : α ⊕ Nat) (l : List mg_C) (c z : Nat) : mg_S := match t with
  | .inl _ => (l, c, z)
  | .inr _ => (l, c + 1, z + 6)
