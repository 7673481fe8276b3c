def TX0 : u_T := fun k => match k with
  | _ => ("StepMachine$Memory", "cells", "[I", true)
def tyX0 : Nat → FieldType := fun k => match k with
  | _ => .array .int
theorem nmX0 : ∀ a, a < 1 → ∀ b, b < 1 → a ≠ b → (TX0 a).2.1 ≠ (TX0 b).2.1 := by decide +kernel
theorem tyX0_ok : ∀ k, k < 1 → parseFieldDescriptor (TX0 k).2.2.1 = some (tyX0 k) := by decide +kernel
def TX1 : u_T := fun k => match k with
  | 0 => ("StepMachine$Guard", "begins", "[I", true)
  | 1 => ("StepMachine$Guard", "sizes", "[I", true)
  | 2 => ("StepMachine$Guard", "allowed", "[I", true)
  | 3 => ("StepMachine$Guard", "marks", "[I", true)
  | _ => ("StepMachine$Guard", "marking", "Z", false)
def tyX1 : Nat → FieldType := fun k => match k with
  | 0 => .array .int
  | 1 => .array .int
  | 2 => .array .int
  | 3 => .array .int
  | _ => .boolean
theorem nmX1 : ∀ a, a < 5 → ∀ b, b < 5 → a ≠ b → (TX1 a).2.1 ≠ (TX1 b).2.1 := by decide +kernel
theorem tyX1_ok : ∀ k, k < 5 → parseFieldDescriptor (TX1 k).2.2.1 = some (tyX1 k) := by decide +kernel
def TX2 : u_T := fun k => match k with
  | 0 => ("StepMachine$Halts", "places", "[I", true)
  | _ => ("StepMachine$Halts", "count", "I", false)
def tyX2 : Nat → FieldType := fun k => match k with
  | 0 => .array .int
  | _ => .int
theorem nmX2 : ∀ a, a < 2 → ∀ b, b < 2 → a ≠ b → (TX2 a).2.1 ≠ (TX2 b).2.1 := by decide +kernel
theorem tyX2_ok : ∀ k, k < 2 → parseFieldDescriptor (TX2 k).2.2.1 = some (tyX2 k) := by decide +kernel
def TX3 : u_T := fun k => match k with
  | 0 => ("StepMachine$Ports", "in", "[B", true)
  | 1 => ("StepMachine$Ports", "out", "[B", true)
  | 2 => ("StepMachine$Ports", "givenCount", "I", false)
  | 3 => ("StepMachine$Ports", "takenCount", "I", false)
  | _ => ("StepMachine$Ports", "putCount", "I", false)
def tyX3 : Nat → FieldType := fun k => match k with
  | 0 => .array .byte
  | 1 => .array .byte
  | 2 => .int
  | 3 => .int
  | _ => .int
theorem nmX3 : ∀ a, a < 5 → ∀ b, b < 5 → a ≠ b → (TX3 a).2.1 ≠ (TX3 b).2.1 := by decide +kernel
theorem tyX3_ok : ∀ k, k < 5 → parseFieldDescriptor (TX3 k).2.2.1 = some (tyX3 k) := by decide +kernel
def TX4 : u_T := fun k => match k with
  | 0 => ("StepMachine$Word", "bytes", "I", false)
  | 1 => ("StepMachine$Word", "kind", "I", false)
  | 2 => ("StepMachine$Word", "d", "I", false)
  | 3 => ("StepMachine$Word", "a", "I", false)
  | 4 => ("StepMachine$Word", "b", "I", false)
  | _ => ("StepMachine$Word", "i", "I", false)
def tyX4 : Nat → FieldType := fun k => match k with
  | 0 => .int
  | 1 => .int
  | 2 => .int
  | 3 => .int
  | 4 => .int
  | _ => .int
theorem nmX4 : ∀ a, a < 6 → ∀ b, b < 6 → a ≠ b → (TX4 a).2.1 ≠ (TX4 b).2.1 := by decide +kernel
theorem tyX4_ok : ∀ k, k < 6 → parseFieldDescriptor (TX4 k).2.2.1 = some (tyX4 k) := by decide +kernel
def TX5 : u_T := fun k => match k with
  | 0 => ("StepMachine$Kept", "pc", "I", false)
  | 1 => ("StepMachine$Kept", "state", "I", false)
  | 2 => ("StepMachine$Kept", "culprit", "I", false)
  | 3 => ("StepMachine$Kept", "value", "I", false)
  | 4 => ("StepMachine$Kept", "steps", "I", false)
  | 5 => ("StepMachine$Kept", "units", "I", false)
  | 6 => ("StepMachine$Kept", "putCount", "I", false)
  | 7 => ("StepMachine$Kept", "takenCount", "I", false)
  | 8 => ("StepMachine$Kept", "register", "I", false)
  | 9 => ("StepMachine$Kept", "registerWas", "I", false)
  | 10 => ("StepMachine$Kept", "cellAt", "I", false)
  | _ => ("StepMachine$Kept", "cellWas", "I", false)
def tyX5 : Nat → FieldType := fun k => match k with
  | 0 => .int
  | 1 => .int
  | 2 => .int
  | 3 => .int
  | 4 => .int
  | 5 => .int
  | 6 => .int
  | 7 => .int
  | 8 => .int
  | 9 => .int
  | 10 => .int
  | _ => .int
theorem nmX5 : ∀ a, a < 12 → ∀ b, b < 12 → a ≠ b → (TX5 a).2.1 ≠ (TX5 b).2.1 := by decide +kernel
theorem tyX5_ok : ∀ k, k < 12 → parseFieldDescriptor (TX5 k).2.2.1 = some (tyX5 k) := by decide +kernel
def TX6 : u_T := fun k => match k with
  | 0 => ("StepMachine$Trail", "ring", "[LStepMachine$Kept;", true)
  | 1 => ("StepMachine$Trail", "next", "I", false)
  | _ => ("StepMachine$Trail", "count", "I", false)
def tyX6 : Nat → FieldType := fun k => match k with
  | 0 => .array (.object "StepMachine$Kept")
  | 1 => .int
  | _ => .int
theorem nmX6 : ∀ a, a < 3 → ∀ b, b < 3 → a ≠ b → (TX6 a).2.1 ≠ (TX6 b).2.1 := by decide +kernel
theorem tyX6_ok : ∀ k, k < 3 → parseFieldDescriptor (TX6 k).2.2.1 = some (tyX6 k) := by decide +kernel
def TX7 : u_T := fun k => match k with
  | 0 => ("StepMachine$Core", "memory", "LStepMachine$Memory;", true)
  | 1 => ("StepMachine$Core", "guard", "LStepMachine$Guard;", true)
  | 2 => ("StepMachine$Core", "ports", "LStepMachine$Ports;", true)
  | 3 => ("StepMachine$Core", "trail", "LStepMachine$Trail;", true)
  | 4 => ("StepMachine$Core", "word", "LStepMachine$Word;", true)
  | 5 => ("StepMachine$Core", "registers", "[I", true)
  | 6 => ("StepMachine$Core", "pc", "I", false)
  | 7 => ("StepMachine$Core", "state", "I", false)
  | 8 => ("StepMachine$Core", "culprit", "I", false)
  | 9 => ("StepMachine$Core", "value", "I", false)
  | 10 => ("StepMachine$Core", "steps", "I", false)
  | _ => ("StepMachine$Core", "units", "I", false)
def tyX7 : Nat → FieldType := fun k => match k with
  | 0 => .object "StepMachine$Memory"
  | 1 => .object "StepMachine$Guard"
  | 2 => .object "StepMachine$Ports"
  | 3 => .object "StepMachine$Trail"
  | 4 => .object "StepMachine$Word"
  | 5 => .array .int
  | 6 => .int
  | 7 => .int
  | 8 => .int
  | 9 => .int
  | 10 => .int
  | _ => .int
theorem nmX7 : ∀ a, a < 12 → ∀ b, b < 12 → a ≠ b → (TX7 a).2.1 ≠ (TX7 b).2.1 := by decide +kernel
theorem tyX7_ok : ∀ k, k < 12 → parseFieldDescriptor (TX7 k).2.2.1 = some (tyX7 k) := by decide +kernel
def TX8 : u_T := fun k => match k with
  | 0 => ("StepMachine", "memory", "LStepMachine$Memory;", true)
  | 1 => ("StepMachine", "guard", "LStepMachine$Guard;", true)
  | 2 => ("StepMachine", "halts", "LStepMachine$Halts;", true)
  | 3 => ("StepMachine", "ports", "LStepMachine$Ports;", true)
  | 4 => ("StepMachine", "trail", "LStepMachine$Trail;", true)
  | _ => ("StepMachine", "core", "LStepMachine$Core;", true)
def tyX8 : Nat → FieldType := fun k => match k with
  | 0 => .object "StepMachine$Memory"
  | 1 => .object "StepMachine$Guard"
  | 2 => .object "StepMachine$Halts"
  | 3 => .object "StepMachine$Ports"
  | 4 => .object "StepMachine$Trail"
  | _ => .object "StepMachine$Core"
theorem nmX8 : ∀ a, a < 6 → ∀ b, b < 6 → a ≠ b → (TX8 a).2.1 ≠ (TX8 b).2.1 := by decide +kernel
theorem tyX8_ok : ∀ k, k < 6 → parseFieldDescriptor (TX8 k).2.2.1 = some (tyX8 k) := by decide +kernel
def TX9 : u_T := fun k => match k with
  | 0 => ("StepMachineModel", "row", "[I", true)
  | 1 => ("StepMachineModel", "part", "[I", true)
  | 2 => ("StepMachineModel", "memory", "[I", true)
  | 3 => ("StepMachineModel", "marked", "[Z", true)
  | 4 => ("StepMachineModel", "segmentFrom", "[I", true)
  | 5 => ("StepMachineModel", "segmentSize", "[I", true)
  | 6 => ("StepMachineModel", "segmentRights", "[I", true)
  | 7 => ("StepMachineModel", "marking", "Z", false)
  | 8 => ("StepMachineModel", "halts", "[I", true)
  | 9 => ("StepMachineModel", "haltCount", "I", false)
  | 10 => ("StepMachineModel", "register", "[I", true)
  | 11 => ("StepMachineModel", "pc", "I", false)
  | 12 => ("StepMachineModel", "input", "[I", true)
  | 13 => ("StepMachineModel", "inputSize", "I", false)
  | 14 => ("StepMachineModel", "taken", "I", false)
  | 15 => ("StepMachineModel", "output", "[I", true)
  | 16 => ("StepMachineModel", "outputSize", "I", false)
  | 17 => ("StepMachineModel", "state", "I", false)
  | 18 => ("StepMachineModel", "culprit", "I", false)
  | 19 => ("StepMachineModel", "value", "I", false)
  | 20 => ("StepMachineModel", "steps", "I", false)
  | 21 => ("StepMachineModel", "units", "I", false)
  | 22 => ("StepMachineModel", "kept", "[I", true)
  | 23 => ("StepMachineModel", "keptCount", "I", false)
  | 24 => ("StepMachineModel", "keptNext", "I", false)
  | 25 => ("StepMachineModel", "bytes", "I", false)
  | 26 => ("StepMachineModel", "kind", "I", false)
  | 27 => ("StepMachineModel", "target", "I", false)
  | _ => ("StepMachineModel", "jumps", "Z", false)
def tyX9 : Nat → FieldType := fun k => match k with
  | 0 => .array .int
  | 1 => .array .int
  | 2 => .array .int
  | 3 => .array .boolean
  | 4 => .array .int
  | 5 => .array .int
  | 6 => .array .int
  | 7 => .boolean
  | 8 => .array .int
  | 9 => .int
  | 10 => .array .int
  | 11 => .int
  | 12 => .array .int
  | 13 => .int
  | 14 => .int
  | 15 => .array .int
  | 16 => .int
  | 17 => .int
  | 18 => .int
  | 19 => .int
  | 20 => .int
  | 21 => .int
  | 22 => .array .int
  | 23 => .int
  | 24 => .int
  | 25 => .int
  | 26 => .int
  | 27 => .int
  | _ => .boolean
theorem nmX9 : ∀ a, a < 29 → ∀ b, b < 29 → a ≠ b → (TX9 a).2.1 ≠ (TX9 b).2.1 := by decide +kernel
theorem tyX9_ok : ∀ k, k < 29 → parseFieldDescriptor (TX9 k).2.2.1 = some (tyX9 k) := by decide +kernel
abbrev vwCl : List vw_C := [("StepMachine$Memory", TX0, 1), ("StepMachine$Guard", TX1, 5), ("StepMachine$Halts", TX2, 2), ("StepMachine$Ports", TX3, 5), ("StepMachine$Word", TX4, 6), ("StepMachine$Kept", TX5, 12), ("StepMachine$Trail", TX6, 3), ("StepMachine$Core", TX7, 12), ("StepMachine", TX8, 6), ("StepMachineModel", TX9, 29)]
