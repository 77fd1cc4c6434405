def RX0 : String := "CustomsDesk$Goods"
def TX0 : u_T := fun k => match k with
  | 0 => ("CustomsDesk$Goods", "heading", "I", false)
  | 1 => ("CustomsDesk$Goods", "country", "I", false)
  | 2 => ("CustomsDesk$Goods", "value", "I", false)
  | 3 => ("CustomsDesk$Goods", "proof", "I", false)
  | _ => ("CustomsDesk$Goods", "day", "I", false)
def tyX0 : Nat → FieldType := fun k => match k with
  | 0 => .int
  | 1 => .int
  | 2 => .int
  | 3 => .int
  | _ => .int
theorem nmX0 : ∀ a, a < 5 → ∀ b, b < 5 → a ≠ b → (TX0 a).2.1 ≠ (TX0 b).2.1 := by decide +kernel
theorem tyX0_ok : ∀ k, k < 5 → parseFieldDescriptor (TX0 k).2.2.1 = some (tyX0 k) := by decide +kernel
def RX1 : String := "CustomsDesk$Ledger"
def TX1 : u_T := fun k => match k with
  | 0 => ("CustomsDesk$Ledger", "totals", "LCustomsDesk$Table;", true)
  | _ => ("CustomsDesk$Ledger", "byCountry", "LCustomsDesk$Table;", true)
def tyX1 : Nat → FieldType := fun k => match k with
  | 0 => .object "CustomsDesk$Table"
  | _ => .object "CustomsDesk$Table"
theorem nmX1 : ∀ a, a < 2 → ∀ b, b < 2 → a ≠ b → (TX1 a).2.1 ≠ (TX1 b).2.1 := by decide +kernel
theorem tyX1_ok : ∀ k, k < 2 → parseFieldDescriptor (TX1 k).2.2.1 = some (tyX1 k) := by decide +kernel
def RX2 : String := "CustomsDesk$Office"
def TX2 : u_T := fun k => match k with
  | 0 => ("CustomsDesk$Office", "tariff", "LCustomsDesk$Tariff;", true)
  | 1 => ("CustomsDesk$Office", "ledger", "LCustomsDesk$Ledger;", true)
  | 2 => ("CustomsDesk$Office", "quotas", "LCustomsDesk$Table;", true)
  | 3 => ("CustomsDesk$Office", "declarations", "LCustomsDesk$Table;", true)
  | _ => ("CustomsDesk$Office", "goods", "LCustomsDesk$Goods;", true)
def tyX2 : Nat → FieldType := fun k => match k with
  | 0 => .object "CustomsDesk$Tariff"
  | 1 => .object "CustomsDesk$Ledger"
  | 2 => .object "CustomsDesk$Table"
  | 3 => .object "CustomsDesk$Table"
  | _ => .object "CustomsDesk$Goods"
theorem nmX2 : ∀ a, a < 5 → ∀ b, b < 5 → a ≠ b → (TX2 a).2.1 ≠ (TX2 b).2.1 := by decide +kernel
theorem tyX2_ok : ∀ k, k < 5 → parseFieldDescriptor (TX2 k).2.2.1 = some (tyX2 k) := by decide +kernel
def RX3 : String := "CustomsDesk$Parts"
def TX3 : u_T := fun k => match k with
  | _ => ("CustomsDesk$Parts", "rows", "LCustomsDesk$Table;", true)
def tyX3 : Nat → FieldType := fun k => match k with
  | _ => .object "CustomsDesk$Table"
theorem nmX3 : ∀ a, a < 1 → ∀ b, b < 1 → a ≠ b → (TX3 a).2.1 ≠ (TX3 b).2.1 := by decide +kernel
theorem tyX3_ok : ∀ k, k < 1 → parseFieldDescriptor (TX3 k).2.2.1 = some (tyX3 k) := by decide +kernel
def RX4 : String := "CustomsDesk$Table"
def TX4 : u_T := fun k => match k with
  | 0 => ("CustomsDesk$Table", "most", "I", true)
  | 1 => ("CustomsDesk$Table", "width", "I", true)
  | 2 => ("CustomsDesk$Table", "cells", "[I", true)
  | _ => ("CustomsDesk$Table", "copies", "[I", true)
def tyX4 : Nat → FieldType := fun k => match k with
  | 0 => .int
  | 1 => .int
  | 2 => .array .int
  | _ => .array .int
theorem nmX4 : ∀ a, a < 4 → ∀ b, b < 4 → a ≠ b → (TX4 a).2.1 ≠ (TX4 b).2.1 := by decide +kernel
theorem tyX4_ok : ∀ k, k < 4 → parseFieldDescriptor (TX4 k).2.2.1 = some (tyX4 k) := by decide +kernel
def RX5 : String := "CustomsDesk$Tariff"
def TX5 : u_T := fun k => match k with
  | 0 => ("CustomsDesk$Tariff", "headings", "LCustomsDesk$Table;", true)
  | 1 => ("CustomsDesk$Tariff", "preferences", "LCustomsDesk$Table;", true)
  | 2 => ("CustomsDesk$Tariff", "suspensions", "LCustomsDesk$Table;", true)
  | _ => ("CustomsDesk$Tariff", "settings", "LCustomsDesk$Table;", true)
def tyX5 : Nat → FieldType := fun k => match k with
  | 0 => .object "CustomsDesk$Table"
  | 1 => .object "CustomsDesk$Table"
  | 2 => .object "CustomsDesk$Table"
  | _ => .object "CustomsDesk$Table"
theorem nmX5 : ∀ a, a < 4 → ∀ b, b < 4 → a ≠ b → (TX5 a).2.1 ≠ (TX5 b).2.1 := by decide +kernel
theorem tyX5_ok : ∀ k, k < 4 → parseFieldDescriptor (TX5 k).2.2.1 = some (tyX5 k) := by decide +kernel
def RX6 : String := "CustomsDesk$Text"
def TX6 : u_T := fun k => match k with
  | 0 => ("CustomsDesk$Text", "characters", "[C", true)
  | 1 => ("CustomsDesk$Text", "entries", "LCustomsDesk$Table;", true)
  | 2 => ("CustomsDesk$Text", "length", "I", false)
  | 3 => ("CustomsDesk$Text", "at", "I", false)
  | _ => ("CustomsDesk$Text", "lastError", "I", false)
def tyX6 : Nat → FieldType := fun k => match k with
  | 0 => .array .char
  | 1 => .object "CustomsDesk$Table"
  | 2 => .int
  | 3 => .int
  | _ => .int
theorem nmX6 : ∀ a, a < 5 → ∀ b, b < 5 → a ≠ b → (TX6 a).2.1 ≠ (TX6 b).2.1 := by decide +kernel
theorem tyX6_ok : ∀ k, k < 5 → parseFieldDescriptor (TX6 k).2.2.1 = some (tyX6 k) := by decide +kernel
def RX7 : String := "CustomsDesk"
def TX7 : u_T := fun k => match k with
  | 0 => ("CustomsDesk", "office", "LCustomsDesk$Office;", true)
  | 1 => ("CustomsDesk", "tariff", "LCustomsDesk$Tariff;", true)
  | 2 => ("CustomsDesk", "ledger", "LCustomsDesk$Ledger;", true)
  | 3 => ("CustomsDesk", "parts", "LCustomsDesk$Parts;", true)
  | 4 => ("CustomsDesk", "entryParts", "LCustomsDesk$Parts;", true)
  | 5 => ("CustomsDesk", "text", "LCustomsDesk$Text;", true)
  | 6 => ("CustomsDesk", "nextSlot", "I", false)
  | 7 => ("CustomsDesk", "undoable", "I", false)
  | 8 => ("CustomsDesk", "hasSaved", "Z", false)
  | _ => ("CustomsDesk", "lastRefusal", "I", false)
def tyX7 : Nat → FieldType := fun k => match k with
  | 0 => .object "CustomsDesk$Office"
  | 1 => .object "CustomsDesk$Tariff"
  | 2 => .object "CustomsDesk$Ledger"
  | 3 => .object "CustomsDesk$Parts"
  | 4 => .object "CustomsDesk$Parts"
  | 5 => .object "CustomsDesk$Text"
  | 6 => .int
  | 7 => .int
  | 8 => .boolean
  | _ => .int
theorem nmX7 : ∀ a, a < 10 → ∀ b, b < 10 → a ≠ b → (TX7 a).2.1 ≠ (TX7 b).2.1 := by decide +kernel
theorem tyX7_ok : ∀ k, k < 10 → parseFieldDescriptor (TX7 k).2.2.1 = some (tyX7 k) := by decide +kernel
def RX8 : String := "CustomsDeskModel"
def TX8 : u_T := fun k => match k with
  | 0 => ("CustomsDeskModel", "thrown", "I", false)
  | 1 => ("CustomsDeskModel", "g", "[I", true)
  | 2 => ("CustomsDeskModel", "history", "[I", true)
  | 3 => ("CustomsDeskModel", "steps", "I", false)
  | 4 => ("CustomsDeskModel", "keptRow", "[I", true)
  | 5 => ("CustomsDeskModel", "hasKept", "Z", false)
  | 6 => ("CustomsDeskModel", "before", "[I", true)
  | 7 => ("CustomsDeskModel", "isQuiet", "Z", false)
  | 8 => ("CustomsDeskModel", "reason", "I", false)
  | 9 => ("CustomsDeskModel", "tape", "[C", true)
  | 10 => ("CustomsDeskModel", "taped", "I", false)
  | 11 => ("CustomsDeskModel", "wrongAt", "I", false)
  | 12 => ("CustomsDeskModel", "gets", "[I", true)
  | 13 => ("CustomsDeskModel", "place", "I", false)
  | 14 => ("CustomsDeskModel", "isWrong", "Z", false)
  | _ => ("CustomsDeskModel", "toldRow", "[I", true)
def tyX8 : Nat → FieldType := fun k => match k with
  | 0 => .int
  | 1 => .array .int
  | 2 => .array .int
  | 3 => .int
  | 4 => .array .int
  | 5 => .boolean
  | 6 => .array .int
  | 7 => .boolean
  | 8 => .int
  | 9 => .array .char
  | 10 => .int
  | 11 => .int
  | 12 => .array .int
  | 13 => .int
  | 14 => .boolean
  | _ => .array .int
theorem nmX8 : ∀ a, a < 16 → ∀ b, b < 16 → a ≠ b → (TX8 a).2.1 ≠ (TX8 b).2.1 := by decide +kernel
theorem tyX8_ok : ∀ k, k < 16 → parseFieldDescriptor (TX8 k).2.2.1 = some (tyX8 k) := by decide +kernel
def RL : String := "CustomsDeskLaw"
