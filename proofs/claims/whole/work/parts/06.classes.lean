/-! printed: the classes -/
def mm_cn : List String := ["HillPaths$Choice", "HillPaths$Counter", "HillPaths$Flights", "HillPaths$Hills", "HillPaths$Hut", "HillPaths$Reader", "HillPaths$Roster", "HillPaths$Rows", "HillPaths$Stretch", "HillPaths$Text", "HillPaths$Walk", "HillPaths", "HillPathsModel", "HillPathsLaw"]
def Tc_0 : u_T := fun k => match k with
  | 0 => ("HillPaths$Choice", "worths", "[I", true)
  | 1 => ("HillPaths$Choice", "prices", "[I", true)
  | 2 => ("HillPaths$Choice", "offered", "[Z", true)
  | 3 => ("HillPaths$Choice", "hope", "[I", true)
  | 4 => ("HillPaths$Choice", "picked", "[I", true)
  | 5 => ("HillPaths$Choice", "best", "[I", true)
  | 6 => ("HillPaths$Choice", "many", "I", false)
  | 7 => ("HillPaths$Choice", "coins", "I", false)
  | 8 => ("HillPaths$Choice", "bestWorth", "I", false)
  | _ => ("HillPaths$Choice", "bestPrice", "I", false)
def ty_0 : Nat → FieldType := fun k => match k with
  | 0 => .array .int
  | 1 => .array .int
  | 2 => .array .boolean
  | 3 => .array .int
  | 4 => .array .int
  | 5 => .array .int
  | 6 => .int
  | 7 => .int
  | 8 => .int
  | _ => .int
theorem nm_0 : ∀ a, a < 10 → ∀ b, b < 10 → a ≠ b → (Tc_0 a).2.1 ≠ (Tc_0 b).2.1 := by decide +kernel
theorem tk_0 : ∀ k, k < 10 → parseFieldDescriptor (Tc_0 k).2.2.1 = some (ty_0 k) := by decide +kernel
def Tc_1 : u_T := fun k => match k with
  | 0 => ("HillPaths$Counter", "sort", "I", false)
  | 1 => ("HillPaths$Counter", "size", "I", false)
  | _ => ("HillPaths$Counter", "places", "[I", true)
def ty_1 : Nat → FieldType := fun k => match k with
  | 0 => .int
  | 1 => .int
  | _ => .array .int
theorem nm_1 : ∀ a, a < 3 → ∀ b, b < 3 → a ≠ b → (Tc_1 a).2.1 ≠ (Tc_1 b).2.1 := by decide +kernel
theorem tk_1 : ∀ k, k < 3 → parseFieldDescriptor (Tc_1 k).2.2.1 = some (ty_1 k) := by decide +kernel
def Tc_2 : u_T := fun k => match k with
  | 0 => ("HillPaths$Flights", "flightOf", "[I", true)
  | 1 => ("HillPaths$Flights", "carried", "[I", true)
  | _ => ("HillPaths$Flights", "limit", "I", false)
def ty_2 : Nat → FieldType := fun k => match k with
  | 0 => .array .int
  | 1 => .array .int
  | _ => .int
theorem nm_2 : ∀ a, a < 3 → ∀ b, b < 3 → a ≠ b → (Tc_2 a).2.1 ≠ (Tc_2 b).2.1 := by decide +kernel
theorem tk_2 : ∀ k, k < 3 → parseFieldDescriptor (Tc_2 k).2.2.1 = some (ty_2 k) := by decide +kernel
def Tc_3 : u_T := fun k => match k with
  | 0 => ("HillPaths$Hills", "stretches", "[LHillPaths$Stretch;", true)
  | 1 => ("HillPaths$Hills", "stretchCount", "I", false)
  | 2 => ("HillPaths$Hills", "trips", "LHillPaths$Rows;", true)
  | 3 => ("HillPaths$Hills", "rain", "[I", true)
  | 4 => ("HillPaths$Hills", "year", "I", false)
  | 5 => ("HillPaths$Hills", "textCount", "I", false)
  | 6 => ("HillPaths$Hills", "mends", "LHillPaths$Rows;", true)
  | 7 => ("HillPaths$Hills", "purse", "I", false)
  | 8 => ("HillPaths$Hills", "chosen", "LHillPaths$Rows;", true)
  | 9 => ("HillPaths$Hills", "donors", "LHillPaths$Rows;", true)
  | 10 => ("HillPaths$Hills", "loads", "LHillPaths$Rows;", true)
  | 11 => ("HillPaths$Hills", "people", "LHillPaths$Rows;", true)
  | 12 => ("HillPaths$Hills", "jobs", "LHillPaths$Rows;", true)
  | _ => ("HillPaths$Hills", "beds", "I", false)
def ty_3 : Nat → FieldType := fun k => match k with
  | 0 => .array (.object "HillPaths$Stretch")
  | 1 => .int
  | 2 => .object "HillPaths$Rows"
  | 3 => .array .int
  | 4 => .int
  | 5 => .int
  | 6 => .object "HillPaths$Rows"
  | 7 => .int
  | 8 => .object "HillPaths$Rows"
  | 9 => .object "HillPaths$Rows"
  | 10 => .object "HillPaths$Rows"
  | 11 => .object "HillPaths$Rows"
  | 12 => .object "HillPaths$Rows"
  | _ => .int
theorem nm_3 : ∀ a, a < 14 → ∀ b, b < 14 → a ≠ b → (Tc_3 a).2.1 ≠ (Tc_3 b).2.1 := by decide +kernel
theorem tk_3 : ∀ k, k < 14 → parseFieldDescriptor (Tc_3 k).2.2.1 = some (ty_3 k) := by decide +kernel
def Tc_4 : u_T := fun k => match k with
  | 0 => ("HillPaths$Hut", "thing", "I", false)
  | 1 => ("HillPaths$Hut", "stretch", "LHillPaths$Stretch;", true)
  | 2 => ("HillPaths$Hut", "row", "LHillPaths$Counter;", true)
  | _ => ("HillPaths$Hut", "coins", "I", false)
def ty_4 : Nat → FieldType := fun k => match k with
  | 0 => .int
  | 1 => .object "HillPaths$Stretch"
  | 2 => .object "HillPaths$Counter"
  | _ => .int
theorem nm_4 : ∀ a, a < 4 → ∀ b, b < 4 → a ≠ b → (Tc_4 a).2.1 ≠ (Tc_4 b).2.1 := by decide +kernel
theorem tk_4 : ∀ k, k < 4 → parseFieldDescriptor (Tc_4 k).2.2.1 = some (ty_4 k) := by decide +kernel
def Tc_5 : u_T := fun k => match k with
  | 0 => ("HillPaths$Reader", "bytes", "[I", true)
  | 1 => ("HillPaths$Reader", "length", "I", false)
  | 2 => ("HillPaths$Reader", "acts", "[I", true)
  | 3 => ("HillPaths$Reader", "actCount", "I", false)
  | 4 => ("HillPaths$Reader", "operands", "I", false)
  | 5 => ("HillPaths$Reader", "key", "I", false)
  | 6 => ("HillPaths$Reader", "sort", "I", false)
  | 7 => ("HillPaths$Reader", "start", "I", false)
  | _ => ("HillPaths$Reader", "end", "I", false)
def ty_5 : Nat → FieldType := fun k => match k with
  | 0 => .array .int
  | 1 => .int
  | 2 => .array .int
  | 3 => .int
  | 4 => .int
  | 5 => .int
  | 6 => .int
  | 7 => .int
  | _ => .int
theorem nm_5 : ∀ a, a < 9 → ∀ b, b < 9 → a ≠ b → (Tc_5 a).2.1 ≠ (Tc_5 b).2.1 := by decide +kernel
theorem tk_5 : ∀ k, k < 9 → parseFieldDescriptor (Tc_5 k).2.2.1 = some (ty_5 k) := by decide +kernel
def Tc_6 : u_T := fun k => match k with
  | 0 => ("HillPaths$Roster", "gives", "[I", true)
  | 1 => ("HillPaths$Roster", "hope", "[I", true)
  | 2 => ("HillPaths$Roster", "needs", "[I", true)
  | 3 => ("HillPaths$Roster", "has", "[I", true)
  | 4 => ("HillPaths$Roster", "picked", "[I", true)
  | 5 => ("HillPaths$Roster", "best", "[I", true)
  | 6 => ("HillPaths$Roster", "jobs", "I", false)
  | 7 => ("HillPaths$Roster", "bestMet", "I", false)
  | _ => ("HillPaths$Roster", "bestDays", "I", false)
def ty_6 : Nat → FieldType := fun k => match k with
  | 0 => .array .int
  | 1 => .array .int
  | 2 => .array .int
  | 3 => .array .int
  | 4 => .array .int
  | 5 => .array .int
  | 6 => .int
  | 7 => .int
  | _ => .int
theorem nm_6 : ∀ a, a < 9 → ∀ b, b < 9 → a ≠ b → (Tc_6 a).2.1 ≠ (Tc_6 b).2.1 := by decide +kernel
theorem tk_6 : ∀ k, k < 9 → parseFieldDescriptor (Tc_6 k).2.2.1 = some (ty_6 k) := by decide +kernel
def Tc_7 : u_T := fun k => match k with
  | 0 => ("HillPaths$Rows", "cells", "[I", true)
  | 1 => ("HillPaths$Rows", "most", "I", true)
  | 2 => ("HillPaths$Rows", "across", "I", true)
  | _ => ("HillPaths$Rows", "many", "I", false)
def ty_7 : Nat → FieldType := fun k => match k with
  | 0 => .array .int
  | 1 => .int
  | 2 => .int
  | _ => .int
theorem nm_7 : ∀ a, a < 4 → ∀ b, b < 4 → a ≠ b → (Tc_7 a).2.1 ≠ (Tc_7 b).2.1 := by decide +kernel
theorem tk_7 : ∀ k, k < 4 → parseFieldDescriptor (Tc_7 k).2.2.1 = some (ty_7 k) := by decide +kernel
def Tc_8 : u_T := fun k => match k with
  | 0 => ("HillPaths$Stretch", "first", "I", false)
  | 1 => ("HillPaths$Stretch", "second", "I", false)
  | 2 => ("HillPaths$Stretch", "length", "I", false)
  | 3 => ("HillPaths$Stretch", "slope", "I", false)
  | 4 => ("HillPaths$Stretch", "soil", "I", false)
  | 5 => ("HillPaths$Stretch", "owner", "I", false)
  | 6 => ("HillPaths$Stretch", "width", "I", false)
  | 7 => ("HillPaths$Stretch", "kind", "I", false)
  | _ => ("HillPaths$Stretch", "shut", "Z", false)
def ty_8 : Nat → FieldType := fun k => match k with
  | 0 => .int
  | 1 => .int
  | 2 => .int
  | 3 => .int
  | 4 => .int
  | 5 => .int
  | 6 => .int
  | 7 => .int
  | _ => .boolean
theorem nm_8 : ∀ a, a < 9 → ∀ b, b < 9 → a ≠ b → (Tc_8 a).2.1 ≠ (Tc_8 b).2.1 := by decide +kernel
theorem tk_8 : ∀ k, k < 9 → parseFieldDescriptor (Tc_8 k).2.2.1 = some (ty_8 k) := by decide +kernel
def Tc_9 : u_T := fun k => match k with
  | 0 => ("HillPaths$Text", "owner", "I", false)
  | 1 => ("HillPaths$Text", "year", "I", false)
  | 2 => ("HillPaths$Text", "key", "I", false)
  | 3 => ("HillPaths$Text", "operands", "I", false)
  | 4 => ("HillPaths$Text", "length", "I", false)
  | 5 => ("HillPaths$Text", "acts", "[I", true)
  | _ => ("HillPaths$Text", "held", "[I", true)
def ty_9 : Nat → FieldType := fun k => match k with
  | 0 => .int
  | 1 => .int
  | 2 => .int
  | 3 => .int
  | 4 => .int
  | 5 => .array .int
  | _ => .array .int
theorem nm_9 : ∀ a, a < 7 → ∀ b, b < 7 → a ≠ b → (Tc_9 a).2.1 ≠ (Tc_9 b).2.1 := by decide +kernel
theorem tk_9 : ∀ k, k < 7 → parseFieldDescriptor (Tc_9 k).2.2.1 = some (ty_9 k) := by decide +kernel
def Tc_10 : u_T := fun k => match k with
  | 0 => ("HillPaths$Walk", "weights", "[I", true)
  | 1 => ("HillPaths$Walk", "toGo", "[I", true)
  | 2 => ("HillPaths$Walk", "path", "[I", true)
  | 3 => ("HillPaths$Walk", "boots", "[I", true)
  | 4 => ("HillPaths$Walk", "steps", "I", false)
  | _ => ("HillPaths$Walk", "effort", "I", false)
def ty_10 : Nat → FieldType := fun k => match k with
  | 0 => .array .int
  | 1 => .array .int
  | 2 => .array .int
  | 3 => .array .int
  | 4 => .int
  | _ => .int
theorem nm_10 : ∀ a, a < 6 → ∀ b, b < 6 → a ≠ b → (Tc_10 a).2.1 ≠ (Tc_10 b).2.1 := by decide +kernel
theorem tk_10 : ∀ k, k < 6 → parseFieldDescriptor (Tc_10 k).2.2.1 = some (ty_10 k) := by decide +kernel
def Tc_11 : u_T := fun k => match k with
  | 0 => ("HillPaths", "now", "LHillPaths$Hills;", true)
  | 1 => ("HillPaths", "image", "LHillPaths$Hills;", true)
  | 2 => ("HillPaths", "trial", "LHillPaths$Hills;", true)
  | 3 => ("HillPaths", "kept", "Z", false)
  | 4 => ("HillPaths", "walk", "LHillPaths$Walk;", true)
  | 5 => ("HillPaths", "likeness", "LHillPaths$Stretch;", true)
  | 6 => ("HillPaths", "tape", "LHillPaths$Reader;", true)
  | 7 => ("HillPaths", "texts", "[LHillPaths$Text;", true)
  | 8 => ("HillPaths", "names", "[I", true)
  | 9 => ("HillPaths", "washes", "[I", true)
  | 10 => ("HillPaths", "chooser", "LHillPaths$Choice;", true)
  | 11 => ("HillPaths", "flights", "LHillPaths$Flights;", true)
  | 12 => ("HillPaths", "planner", "LHillPaths$Roster;", true)
  | 13 => ("HillPaths", "counters", "[LHillPaths$Counter;", true)
  | 14 => ("HillPaths", "huts", "[LHillPaths$Hut;", true)
  | 15 => ("HillPaths", "numbers", "[I", true)
  | _ => ("HillPaths", "waiting", "I", false)
def ty_11 : Nat → FieldType := fun k => match k with
  | 0 => .object "HillPaths$Hills"
  | 1 => .object "HillPaths$Hills"
  | 2 => .object "HillPaths$Hills"
  | 3 => .boolean
  | 4 => .object "HillPaths$Walk"
  | 5 => .object "HillPaths$Stretch"
  | 6 => .object "HillPaths$Reader"
  | 7 => .array (.object "HillPaths$Text")
  | 8 => .array .int
  | 9 => .array .int
  | 10 => .object "HillPaths$Choice"
  | 11 => .object "HillPaths$Flights"
  | 12 => .object "HillPaths$Roster"
  | 13 => .array (.object "HillPaths$Counter")
  | 14 => .array (.object "HillPaths$Hut")
  | 15 => .array .int
  | _ => .int
theorem nm_11 : ∀ a, a < 17 → ∀ b, b < 17 → a ≠ b → (Tc_11 a).2.1 ≠ (Tc_11 b).2.1 := by decide +kernel
theorem tk_11 : ∀ k, k < 17 → parseFieldDescriptor (Tc_11 k).2.2.1 = some (ty_11 k) := by decide +kernel
def Tc_12 : u_T := fun k => match k with
  | 0 => ("HillPathsModel", "now", "[I", true)
  | 1 => ("HillPathsModel", "image", "[I", true)
  | 2 => ("HillPathsModel", "aside", "[I", true)
  | 3 => ("HillPathsModel", "hasImage", "Z", false)
  | 4 => ("HillPathsModel", "least", "[I", true)
  | 5 => ("HillPathsModel", "fewest", "[I", true)
  | 6 => ("HillPathsModel", "wayOf", "[I", true)
  | 7 => ("HillPathsModel", "wayMany", "I", false)
  | 8 => ("HillPathsModel", "alsoShut", "I", false)
  | 9 => ("HillPathsModel", "boots", "[I", true)
  | 10 => ("HillPathsModel", "tape", "[I", true)
  | 11 => ("HillPathsModel", "taped", "I", false)
  | 12 => ("HillPathsModel", "next", "I", false)
  | 13 => ("HillPathsModel", "from", "I", false)
  | 14 => ("HillPathsModel", "token", "I", false)
  | 15 => ("HillPathsModel", "value", "I", false)
  | 16 => ("HillPathsModel", "ended", "I", false)
  | 17 => ("HillPathsModel", "key", "I", false)
  | 18 => ("HillPathsModel", "keys", "[C", true)
  | 19 => ("HillPathsModel", "keyAt", "[I", true)
  | 20 => ("HillPathsModel", "code", "[I", true)
  | 21 => ("HillPathsModel", "codes", "I", false)
  | 22 => ("HillPathsModel", "atoms", "I", false)
  | 23 => ("HillPathsModel", "waits", "[I", true)
  | 24 => ("HillPathsModel", "held", "I", false)
  | 25 => ("HillPathsModel", "tested", "[Z", true)
  | 26 => ("HillPathsModel", "stack", "[I", true)
  | 27 => ("HillPathsModel", "facts", "[I", true)
  | 28 => ("HillPathsModel", "worths", "[I", true)
  | 29 => ("HillPathsModel", "prices", "[I", true)
  | 30 => ("HillPathsModel", "bestWorth", "I", false)
  | 31 => ("HillPathsModel", "bestPrice", "I", false)
  | 32 => ("HillPathsModel", "bestKinds", "I", false)
  | 33 => ("HillPathsModel", "flightOf", "[I", true)
  | 34 => ("HillPathsModel", "flown", "[I", true)
  | 35 => ("HillPathsModel", "done", "[I", true)
  | 36 => ("HillPathsModel", "has", "[I", true)
  | 37 => ("HillPathsModel", "bestJobs", "I", false)
  | 38 => ("HillPathsModel", "bestSum", "I", false)
  | 39 => ("HillPathsModel", "bestRoster", "I", false)
  | 40 => ("HillPathsModel", "rowSort", "[I", true)
  | 41 => ("HillPathsModel", "rowSize", "[I", true)
  | 42 => ("HillPathsModel", "rowAt", "[I", true)
  | 43 => ("HillPathsModel", "carried", "[I", true)
  | 44 => ("HillPathsModel", "hut", "[I", true)
  | 45 => ("HillPathsModel", "hutPath", "[I", true)
  | 46 => ("HillPathsModel", "coins", "[I", true)
  | 47 => ("HillPathsModel", "waiting", "I", false)
  | 48 => ("HillPathsModel", "told", "[I", true)
  | _ => ("HillPathsModel", "due", "[I", true)
def ty_12 : Nat → FieldType := fun k => match k with
  | 0 => .array .int
  | 1 => .array .int
  | 2 => .array .int
  | 3 => .boolean
  | 4 => .array .int
  | 5 => .array .int
  | 6 => .array .int
  | 7 => .int
  | 8 => .int
  | 9 => .array .int
  | 10 => .array .int
  | 11 => .int
  | 12 => .int
  | 13 => .int
  | 14 => .int
  | 15 => .int
  | 16 => .int
  | 17 => .int
  | 18 => .array .char
  | 19 => .array .int
  | 20 => .array .int
  | 21 => .int
  | 22 => .int
  | 23 => .array .int
  | 24 => .int
  | 25 => .array .boolean
  | 26 => .array .int
  | 27 => .array .int
  | 28 => .array .int
  | 29 => .array .int
  | 30 => .int
  | 31 => .int
  | 32 => .int
  | 33 => .array .int
  | 34 => .array .int
  | 35 => .array .int
  | 36 => .array .int
  | 37 => .int
  | 38 => .int
  | 39 => .int
  | 40 => .array .int
  | 41 => .array .int
  | 42 => .array .int
  | 43 => .array .int
  | 44 => .array .int
  | 45 => .array .int
  | 46 => .array .int
  | 47 => .int
  | 48 => .array .int
  | _ => .array .int
theorem nm_12 : ∀ a, a < 50 → ∀ b, b < 50 → a ≠ b → (Tc_12 a).2.1 ≠ (Tc_12 b).2.1 := by decide +kernel
theorem tk_12 : ∀ k, k < 50 → parseFieldDescriptor (Tc_12 k).2.2.1 = some (ty_12 k) := by decide +kernel
def mm_cl : List vw_C := [("HillPaths$Choice", Tc_0, 10), ("HillPaths$Counter", Tc_1, 3), ("HillPaths$Flights", Tc_2, 3), ("HillPaths$Hills", Tc_3, 14), ("HillPaths$Hut", Tc_4, 4), ("HillPaths$Reader", Tc_5, 9), ("HillPaths$Roster", Tc_6, 9), ("HillPaths$Rows", Tc_7, 4), ("HillPaths$Stretch", Tc_8, 9), ("HillPaths$Text", Tc_9, 7), ("HillPaths$Walk", Tc_10, 6), ("HillPaths", Tc_11, 17), ("HillPathsModel", Tc_12, 50)]
def mm_ty : Nat → Nat → FieldType := fun k => match k with
  | 0 => ty_0
  | 1 => ty_1
  | 2 => ty_2
  | 3 => ty_3
  | 4 => ty_4
  | 5 => ty_5
  | 6 => ty_6
  | 7 => ty_7
  | 8 => ty_8
  | 9 => ty_9
  | 10 => ty_10
  | 11 => ty_11
  | _ => ty_12
def mm_fl : List (List Nat) := [[21, 22, 201, 23, 24, 25, 0, 0, 0, 0], [0, 0, 26], [27, 28, 0], [301, 0, 8, 29, 0, 0, 8, 0, 8, 8, 8, 8, 8, 0], [0, 9, 2, 0], [30, 0, 31, 0, 0, 0, 0, 0, 0], [32, 33, 34, 35, 36, 37, 0, 0, 0], [38, 0, 0, 0], [0, 0, 0, 0, 0, 0, 0, 0, 0], [0, 0, 0, 0, 0, 39, 40], [41, 42, 43, 44, 0, 0], [4, 4, 4, 0, 11, 9, 6, 302, 45, 46, 1, 3, 7, 303, 304, 47, 0], [48, 48, 48, 0, 49, 50, 51, 0, 0, 52, 53, 0, 0, 0, 0, 0, 0, 0, 211, 54, 55, 0, 0, 56, 0, 202, 57, 58, 59, 60, 0, 0, 0, 61, 62, 63, 64, 0, 0, 0, 65, 66, 67, 68, 69, 70, 71, 0, 72, 73]]
def mm_nf (k : Nat) : Nat := mm_at 0 [10, 3, 3, 14, 4, 9, 9, 4, 9, 7, 6, 17, 50] k
def mm_ftj (k j : Nat) : Nat := mm_at 0 (mm_at [] mm_fl k) j
def mm_big : List Cond := lw_tbl.filter goodWord
theorem mm_cl_in : (mm_cl.all fun q => (u_ws q.1 q.2.1 q.2.2).all fun w => decide (w ∈ tables_1) && goodWord w) = true := by decide +kernel
