/-! A SMALL MACHINE of our own: its cells are a list, its addresses are places in that list (0 is the script, k + 1 is cell k); one theorem says that the real machine does what it does. -/
abbrev mg_C : Type := (Nat × vp_A) ⊕ (Nat × List Value)
abbrev mg_S : Type := List mg_C × Nat × Nat
abbrev mg_E : Type := Nat × Instr × Nat × List Nat
abbrev mg_L : Type := List (Option Value)
abbrev mg_R : Type := (Option Value ⊕ Nat) × mg_S
abbrev mg_Sc : Type := Nat × (Nat → Int32)
/-- what the classes are: name, fields, how many -/
abbrev mg_cl : List vw_C := [(RX0, TX0, 5), (RX1, TX1, 2), (RX2, TX2, 5), (RX3, TX3, 1), (RX4, TX4, 4), (RX5, TX5, 4), (RX6, TX6, 5), (RX7, TX7, 10), (RX8, TX8, 16)]
def mg_ty (ci : Nat) : Nat → FieldType := match ci with
  | 0 => tyX0 | 1 => tyX1 | 2 => tyX2 | 3 => tyX3 | 4 => tyX4 | 5 => tyX5 | 6 => tyX6 | 7 => tyX7 | _ => tyX8
