def F_Bl : u_T := fun k => match k with
  | _ => ("LogDesk$Block", "cells", "[B", true)
def t_Bl : Nat → FieldType := fun k => match k with
  | _ => .array .byte
theorem n_Bl : ∀ a, a < 1 → ∀ b, b < 1 → a ≠ b → (F_Bl a).2.1 ≠ (F_Bl b).2.1 := by decide +kernel
theorem t_Bl_ok : ∀ k, k < 1 → parseFieldDescriptor (F_Bl k).2.2.1 = some (t_Bl k) := by decide +kernel
theorem hin_Bl : ∀ w ∈ u_ws "LogDesk$Block" F_Bl 1, w ∈ gw := by decide +kernel
def F_Di : u_T := fun k => match k with
  | 0 => ("LogDesk$Disk", "written", "I", false)
  | _ => ("LogDesk$Disk", "left", "I", false)
def t_Di : Nat → FieldType := fun k => match k with
  | 0 => .int
  | _ => .int
theorem n_Di : ∀ a, a < 2 → ∀ b, b < 2 → a ≠ b → (F_Di a).2.1 ≠ (F_Di b).2.1 := by decide +kernel
theorem t_Di_ok : ∀ k, k < 2 → parseFieldDescriptor (F_Di k).2.2.1 = some (t_Di k) := by decide +kernel
theorem hin_Di : ∀ w ∈ u_ws "LogDesk$Disk" F_Di 2, w ∈ gw := by decide +kernel
def F_Ha : u_T := fun k => match k with
  | 0 => ("LogDesk$Hand", "bytes", "[B", true)
  | _ => ("LogDesk$Hand", "count", "I", false)
def t_Ha : Nat → FieldType := fun k => match k with
  | 0 => .array .byte
  | _ => .int
theorem n_Ha : ∀ a, a < 2 → ∀ b, b < 2 → a ≠ b → (F_Ha a).2.1 ≠ (F_Ha b).2.1 := by decide +kernel
theorem t_Ha_ok : ∀ k, k < 2 → parseFieldDescriptor (F_Ha k).2.2.1 = some (t_Ha k) := by decide +kernel
theorem hin_Ha : ∀ w ∈ u_ws "LogDesk$Hand" F_Ha 2, w ∈ gw := by decide +kernel
def F_Pa : u_T := fun k => match k with
  | 0 => ("LogDesk$Pages", "bits", "[J", true)
  | _ => ("LogDesk$Pages", "count", "I", false)
def t_Pa : Nat → FieldType := fun k => match k with
  | 0 => .array .long
  | _ => .int
theorem n_Pa : ∀ a, a < 2 → ∀ b, b < 2 → a ≠ b → (F_Pa a).2.1 ≠ (F_Pa b).2.1 := by decide +kernel
theorem t_Pa_ok : ∀ k, k < 2 → parseFieldDescriptor (F_Pa k).2.2.1 = some (t_Pa k) := by decide +kernel
theorem hin_Pa : ∀ w ∈ u_ws "LogDesk$Pages" F_Pa 2, w ∈ gw := by decide +kernel
def F_Ri : u_T := fun k => match k with
  | _ => ("LogDesk$Ring", "blocks", "[LLogDesk$Block;", true)
def t_Ri : Nat → FieldType := fun k => match k with
  | _ => .array (.object "LogDesk$Block")
theorem n_Ri : ∀ a, a < 1 → ∀ b, b < 1 → a ≠ b → (F_Ri a).2.1 ≠ (F_Ri b).2.1 := by decide +kernel
theorem t_Ri_ok : ∀ k, k < 1 → parseFieldDescriptor (F_Ri k).2.2.1 = some (t_Ri k) := by decide +kernel
theorem hin_Ri : ∀ w ∈ u_ws "LogDesk$Ring" F_Ri 1, w ∈ gw := by decide +kernel
def F_Wa : u_T := fun k => match k with
  | _ => ("LogDesk$Waiting", "ends", "[I", true)
def t_Wa : Nat → FieldType := fun k => match k with
  | _ => .array .int
theorem n_Wa : ∀ a, a < 1 → ∀ b, b < 1 → a ≠ b → (F_Wa a).2.1 ≠ (F_Wa b).2.1 := by decide +kernel
theorem t_Wa_ok : ∀ k, k < 1 → parseFieldDescriptor (F_Wa k).2.2.1 = some (t_Wa k) := by decide +kernel
theorem hin_Wa : ∀ w ∈ u_ws "LogDesk$Waiting" F_Wa 1, w ∈ gw := by decide +kernel
def F_De : u_T := fun k => match k with
  | 0 => ("LogDesk", "room", "I", true)
  | 1 => ("LogDesk", "ring", "LLogDesk$Ring;", true)
  | 2 => ("LogDesk", "hand", "LLogDesk$Hand;", true)
  | 3 => ("LogDesk", "waiting", "LLogDesk$Waiting;", true)
  | 4 => ("LogDesk", "pages", "LLogDesk$Pages;", true)
  | 5 => ("LogDesk", "disk", "LLogDesk$Disk;", true)
  | 6 => ("LogDesk", "begin", "I", false)
  | 7 => ("LogDesk", "end", "I", false)
  | 8 => ("LogDesk", "flushed", "I", false)
  | _ => ("LogDesk", "readStart", "I", false)
def t_De : Nat → FieldType := fun k => match k with
  | 0 => .int
  | 1 => .object "LogDesk$Ring"
  | 2 => .object "LogDesk$Hand"
  | 3 => .object "LogDesk$Waiting"
  | 4 => .object "LogDesk$Pages"
  | 5 => .object "LogDesk$Disk"
  | 6 => .int
  | 7 => .int
  | 8 => .int
  | _ => .int
theorem n_De : ∀ a, a < 10 → ∀ b, b < 10 → a ≠ b → (F_De a).2.1 ≠ (F_De b).2.1 := by decide +kernel
theorem t_De_ok : ∀ k, k < 10 → parseFieldDescriptor (F_De k).2.2.1 = some (t_De k) := by decide +kernel
theorem hin_De : ∀ w ∈ u_ws "LogDesk" F_De 10, w ∈ gw := by decide +kernel
def F_Mo : u_T := fun k => match k with
  | 0 => ("LogDeskModel", "thrown", "I", false)
  | 1 => ("LogDeskModel", "blocks", "I", true)
  | 2 => ("LogDeskModel", "records", "I", false)
  | 3 => ("LogDeskModel", "kinds", "[I", true)
  | 4 => ("LogDeskModel", "froms", "[I", true)
  | 5 => ("LogDeskModel", "sizes", "[I", true)
  | 6 => ("LogDeskModel", "ends", "[I", true)
  | 7 => ("LogDeskModel", "used", "I", false)
  | 8 => ("LogDeskModel", "first", "I", false)
  | 9 => ("LogDeskModel", "bytes", "[B", true)
  | 10 => ("LogDeskModel", "hand", "[I", true)
  | 11 => ("LogDeskModel", "inHand", "I", false)
  | 12 => ("LogDeskModel", "begin", "I", false)
  | 13 => ("LogDeskModel", "end", "I", false)
  | 14 => ("LogDeskModel", "flushed", "I", false)
  | 15 => ("LogDeskModel", "written", "I", false)
  | 16 => ("LogDeskModel", "left", "I", false)
  | 17 => ("LogDeskModel", "waits", "[I", true)
  | 18 => ("LogDeskModel", "touched", "[Z", true)
  | _ => ("LogDeskModel", "read", "I", false)
def t_Mo : Nat → FieldType := fun k => match k with
  | 0 => .int
  | 1 => .int
  | 2 => .int
  | 3 => .array .int
  | 4 => .array .int
  | 5 => .array .int
  | 6 => .array .int
  | 7 => .int
  | 8 => .int
  | 9 => .array .byte
  | 10 => .array .int
  | 11 => .int
  | 12 => .int
  | 13 => .int
  | 14 => .int
  | 15 => .int
  | 16 => .int
  | 17 => .array .int
  | 18 => .array .boolean
  | _ => .int
theorem n_Mo : ∀ a, a < 20 → ∀ b, b < 20 → a ≠ b → (F_Mo a).2.1 ≠ (F_Mo b).2.1 := by decide +kernel
theorem t_Mo_ok : ∀ k, k < 20 → parseFieldDescriptor (F_Mo k).2.2.1 = some (t_Mo k) := by decide +kernel
theorem hin_Mo : ∀ w ∈ u_ws "LogDeskModel" F_Mo 20, w ∈ gw := by decide +kernel
abbrev vwCl : List vw_C := [("LogDesk$Block", F_Bl, 1), ("LogDesk$Disk", F_Di, 2), ("LogDesk$Hand", F_Ha, 2), ("LogDesk$Pages", F_Pa, 2), ("LogDesk$Ring", F_Ri, 1), ("LogDesk$Waiting", F_Wa, 1), ("LogDesk", F_De, 10), ("LogDeskModel", F_Mo, 20)]
