def TB : List Cond := lw_tbl.filter goodWord
theorem tb {w : Cond} (h : w ∈ lw_tbl) (g : goodWord w = true) : w ∈ TB := List.mem_filter.mpr ⟨h, g⟩
/-! ===== printed by wip/whole/gen_tab.py: classes, methods, shapes, the machine, and that the tables say so ===== -/
def F_Acts : u_T := fun k => match k with
  | 0 => ("MiddleOne$Acts", "kinds", "[I", true)
  | 1 => ("MiddleOne$Acts", "count", "I", false)
  | 2 => ("MiddleOne$Acts", "trace", "[I", true)
  | 3 => ("MiddleOne$Acts", "ran", "I", false)
  | 4 => ("MiddleOne$Acts", "own", "I", false)
  | _ => ("MiddleOne$Acts", "number", "I", false)
def t_Acts : Nat → FieldType := fun k => match k with
  | 0 => .array .int
  | 1 => .int
  | 2 => .array .int
  | 3 => .int
  | 4 => .int
  | _ => .int
theorem n_Acts : ∀ a, a < 6 → ∀ b, b < 6 → a ≠ b → (F_Acts a).2.1 ≠ (F_Acts b).2.1 := by decide +kernel
theorem t_Acts_ok : ∀ k, k < 6 → parseFieldDescriptor (F_Acts k).2.2.1 = some (t_Acts k) := by decide +kernel
theorem i_Acts : ∀ w ∈ u_ws "MiddleOne$Acts" F_Acts 6, w ∈ lw_tbl ∧ goodWord w = true := by decide +kernel
theorem j_Acts : ∀ w ∈ u_ws "MiddleOne$Acts" F_Acts 6, w ∈ TB := fun w h => tb (i_Acts w h).1 (i_Acts w h).2
def F_Changes : u_T := fun k => match k with
  | 0 => ("MiddleOne$Changes", "told", "LMiddleOne$Crowd;", true)
  | 1 => ("MiddleOne$Changes", "person", "[I", true)
  | 2 => ("MiddleOne$Changes", "what", "[I", true)
  | 3 => ("MiddleOne$Changes", "before", "[I", true)
  | 4 => ("MiddleOne$Changes", "after", "[I", true)
  | 5 => ("MiddleOne$Changes", "done", "I", false)
  | _ => ("MiddleOne$Changes", "kept", "I", false)
def t_Changes : Nat → FieldType := fun k => match k with
  | 0 => .object "MiddleOne$Crowd"
  | 1 => .array .int
  | 2 => .array .int
  | 3 => .array .int
  | 4 => .array .int
  | 5 => .int
  | _ => .int
theorem n_Changes : ∀ a, a < 7 → ∀ b, b < 7 → a ≠ b → (F_Changes a).2.1 ≠ (F_Changes b).2.1 := by decide +kernel
theorem t_Changes_ok : ∀ k, k < 7 → parseFieldDescriptor (F_Changes k).2.2.1 = some (t_Changes k) := by decide +kernel
theorem i_Changes : ∀ w ∈ u_ws "MiddleOne$Changes" F_Changes 7, w ∈ lw_tbl ∧ goodWord w = true := by decide +kernel
theorem j_Changes : ∀ w ∈ u_ws "MiddleOne$Changes" F_Changes 7, w ∈ TB := fun w h => tb (i_Changes w h).1 (i_Changes w h).2
def F_Crowd : u_T := fun k => match k with
  | 0 => ("MiddleOne$Crowd", "numbers", "[I", true)
  | 1 => ("MiddleOne$Crowd", "count", "I", false)
  | 2 => ("MiddleOne$Crowd", "there", "[I", true)
  | _ => ("MiddleOne$Crowd", "thereIsStale", "Z", false)
def t_Crowd : Nat → FieldType := fun k => match k with
  | 0 => .array .int
  | 1 => .int
  | 2 => .array .int
  | _ => .boolean
theorem n_Crowd : ∀ a, a < 4 → ∀ b, b < 4 → a ≠ b → (F_Crowd a).2.1 ≠ (F_Crowd b).2.1 := by decide +kernel
theorem t_Crowd_ok : ∀ k, k < 4 → parseFieldDescriptor (F_Crowd k).2.2.1 = some (t_Crowd k) := by decide +kernel
theorem i_Crowd : ∀ w ∈ u_ws "MiddleOne$Crowd" F_Crowd 4, w ∈ lw_tbl ∧ goodWord w = true := by decide +kernel
theorem j_Crowd : ∀ w ∈ u_ws "MiddleOne$Crowd" F_Crowd 4, w ∈ TB := fun w h => tb (i_Crowd w h).1 (i_Crowd w h).2
def F_Day : u_T := fun k => match k with
  | 0 => ("MiddleOne$Day", "picker", "LMiddleOne$Picker;", true)
  | 1 => ("MiddleOne$Day", "crowd", "LMiddleOne$Crowd;", true)
  | 2 => ("MiddleOne$Day", "inAt", "[I", true)
  | 3 => ("MiddleOne$Day", "outside", "I", false)
  | 4 => ("MiddleOne$Day", "inside", "I", false)
  | 5 => ("MiddleOne$Day", "waited", "I", false)
  | _ => ("MiddleOne$Day", "longest", "I", false)
def t_Day : Nat → FieldType := fun k => match k with
  | 0 => .object "MiddleOne$Picker"
  | 1 => .object "MiddleOne$Crowd"
  | 2 => .array .int
  | 3 => .int
  | 4 => .int
  | 5 => .int
  | _ => .int
theorem n_Day : ∀ a, a < 7 → ∀ b, b < 7 → a ≠ b → (F_Day a).2.1 ≠ (F_Day b).2.1 := by decide +kernel
theorem t_Day_ok : ∀ k, k < 7 → parseFieldDescriptor (F_Day k).2.2.1 = some (t_Day k) := by decide +kernel
theorem i_Day : ∀ w ∈ u_ws "MiddleOne$Day" F_Day 7, w ∈ lw_tbl ∧ goodWord w = true := by decide +kernel
theorem j_Day : ∀ w ∈ u_ws "MiddleOne$Day" F_Day 7, w ∈ TB := fun w h => tb (i_Day w h).1 (i_Day w h).2
def F_Deed : u_T := fun k => match k with
  | 0 => ("MiddleOne$Deed", "told", "LMiddleOne$Crowd;", true)
  | 1 => ("MiddleOne$Deed", "picker", "LMiddleOne$Picker;", true)
  | 2 => ("MiddleOne$Deed", "state", "[I", true)
  | 3 => ("MiddleOne$Deed", "inAt", "[I", true)
  | 4 => ("MiddleOne$Deed", "keptState", "[I", true)
  | 5 => ("MiddleOne$Deed", "keptInAt", "[I", true)
  | _ => ("MiddleOne$Deed", "kept", "Z", false)
def t_Deed : Nat → FieldType := fun k => match k with
  | 0 => .object "MiddleOne$Crowd"
  | 1 => .object "MiddleOne$Picker"
  | 2 => .array .int
  | 3 => .array .int
  | 4 => .array .int
  | 5 => .array .int
  | _ => .boolean
theorem n_Deed : ∀ a, a < 7 → ∀ b, b < 7 → a ≠ b → (F_Deed a).2.1 ≠ (F_Deed b).2.1 := by decide +kernel
theorem t_Deed_ok : ∀ k, k < 7 → parseFieldDescriptor (F_Deed k).2.2.1 = some (t_Deed k) := by decide +kernel
theorem i_Deed : ∀ w ∈ u_ws "MiddleOne$Deed" F_Deed 7, w ∈ lw_tbl ∧ goodWord w = true := by decide +kernel
theorem j_Deed : ∀ w ∈ u_ws "MiddleOne$Deed" F_Deed 7, w ∈ TB := fun w h => tb (i_Deed w h).1 (i_Deed w h).2
def F_Law : u_T := fun k => match k with
  | 0 => ("MiddleOne$Law", "steps", "[I", true)
  | 1 => ("MiddleOne$Law", "details", "[I", true)
  | 2 => ("MiddleOne$Law", "size", "I", false)
  | _ => ("MiddleOne$Law", "stack", "[I", true)
def t_Law : Nat → FieldType := fun k => match k with
  | 0 => .array .int
  | 1 => .array .int
  | 2 => .int
  | _ => .array .int
theorem n_Law : ∀ a, a < 4 → ∀ b, b < 4 → a ≠ b → (F_Law a).2.1 ≠ (F_Law b).2.1 := by decide +kernel
theorem t_Law_ok : ∀ k, k < 4 → parseFieldDescriptor (F_Law k).2.2.1 = some (t_Law k) := by decide +kernel
theorem i_Law : ∀ w ∈ u_ws "MiddleOne$Law" F_Law 4, w ∈ lw_tbl ∧ goodWord w = true := by decide +kernel
theorem j_Law : ∀ w ∈ u_ws "MiddleOne$Law" F_Law 4, w ∈ TB := fun w h => tb (i_Law w h).1 (i_Law w h).2
def F_Picker : u_T := fun k => match k with
  | 0 => ("MiddleOne$Picker", "law", "LMiddleOne$Law;", true)
  | 1 => ("MiddleOne$Picker", "order", "[I", true)
  | _ => ("MiddleOne$Picker", "tallness", "[I", true)
def t_Picker : Nat → FieldType := fun k => match k with
  | 0 => .object "MiddleOne$Law"
  | 1 => .array .int
  | _ => .array .int
theorem n_Picker : ∀ a, a < 3 → ∀ b, b < 3 → a ≠ b → (F_Picker a).2.1 ≠ (F_Picker b).2.1 := by decide +kernel
theorem t_Picker_ok : ∀ k, k < 3 → parseFieldDescriptor (F_Picker k).2.2.1 = some (t_Picker k) := by decide +kernel
theorem i_Picker : ∀ w ∈ u_ws "MiddleOne$Picker" F_Picker 3, w ∈ lw_tbl ∧ goodWord w = true := by decide +kernel
theorem j_Picker : ∀ w ∈ u_ws "MiddleOne$Picker" F_Picker 3, w ∈ TB := fun w h => tb (i_Picker w h).1 (i_Picker w h).2
def F_Reader : u_T := fun k => match k with
  | 0 => ("MiddleOne$Reader", "tape", "[I", true)
  | 1 => ("MiddleOne$Reader", "length", "I", false)
  | 2 => ("MiddleOne$Reader", "place", "I", false)
  | 3 => ("MiddleOne$Reader", "steps", "[I", true)
  | 4 => ("MiddleOne$Reader", "details", "[I", true)
  | _ => ("MiddleOne$Reader", "made", "I", false)
def t_Reader : Nat → FieldType := fun k => match k with
  | 0 => .array .int
  | 1 => .int
  | 2 => .int
  | 3 => .array .int
  | 4 => .array .int
  | _ => .int
theorem n_Reader : ∀ a, a < 6 → ∀ b, b < 6 → a ≠ b → (F_Reader a).2.1 ≠ (F_Reader b).2.1 := by decide +kernel
theorem t_Reader_ok : ∀ k, k < 6 → parseFieldDescriptor (F_Reader k).2.2.1 = some (t_Reader k) := by decide +kernel
theorem i_Reader : ∀ w ∈ u_ws "MiddleOne$Reader" F_Reader 6, w ∈ lw_tbl ∧ goodWord w = true := by decide +kernel
theorem j_Reader : ∀ w ∈ u_ws "MiddleOne$Reader" F_Reader 6, w ∈ TB := fun w h => tb (i_Reader w h).1 (i_Reader w h).2
def F_Seen : u_T := fun k => match k with
  | 0 => ("MiddleOne$Seen", "told", "LMiddleOne$Crowd;", true)
  | 1 => ("MiddleOne$Seen", "day", "LMiddleOne$Day;", true)
  | _ => ("MiddleOne$Seen", "shelves", "LMiddleOne$Shelves;", true)
def t_Seen : Nat → FieldType := fun k => match k with
  | 0 => .object "MiddleOne$Crowd"
  | 1 => .object "MiddleOne$Day"
  | _ => .object "MiddleOne$Shelves"
theorem n_Seen : ∀ a, a < 3 → ∀ b, b < 3 → a ≠ b → (F_Seen a).2.1 ≠ (F_Seen b).2.1 := by decide +kernel
theorem t_Seen_ok : ∀ k, k < 3 → parseFieldDescriptor (F_Seen k).2.2.1 = some (t_Seen k) := by decide +kernel
theorem i_Seen : ∀ w ∈ u_ws "MiddleOne$Seen" F_Seen 3, w ∈ lw_tbl ∧ goodWord w = true := by decide +kernel
theorem j_Seen : ∀ w ∈ u_ws "MiddleOne$Seen" F_Seen 3, w ∈ TB := fun w h => tb (i_Seen w h).1 (i_Seen w h).2
def F_Shelves : u_T := fun k => match k with
  | 0 => ("MiddleOne$Shelves", "bodies", "[I", true)
  | 1 => ("MiddleOne$Shelves", "sorts", "[I", true)
  | 2 => ("MiddleOne$Shelves", "sizes", "[I", true)
  | _ => ("MiddleOne$Shelves", "cells", "[J", true)
def t_Shelves : Nat → FieldType := fun k => match k with
  | 0 => .array .int
  | 1 => .array .int
  | 2 => .array .int
  | _ => .array .long
theorem n_Shelves : ∀ a, a < 4 → ∀ b, b < 4 → a ≠ b → (F_Shelves a).2.1 ≠ (F_Shelves b).2.1 := by decide +kernel
theorem t_Shelves_ok : ∀ k, k < 4 → parseFieldDescriptor (F_Shelves k).2.2.1 = some (t_Shelves k) := by decide +kernel
theorem i_Shelves : ∀ w ∈ u_ws "MiddleOne$Shelves" F_Shelves 4, w ∈ lw_tbl ∧ goodWord w = true := by decide +kernel
theorem j_Shelves : ∀ w ∈ u_ws "MiddleOne$Shelves" F_Shelves 4, w ∈ TB := fun w h => tb (i_Shelves w h).1 (i_Shelves w h).2
def F_Wishes : u_T := fun k => match k with
  | 0 => ("MiddleOne$Wishes", "told", "LMiddleOne$Crowd;", true)
  | 1 => ("MiddleOne$Wishes", "day", "LMiddleOne$Day;", true)
  | _ => ("MiddleOne$Wishes", "picker", "LMiddleOne$Picker;", true)
def t_Wishes : Nat → FieldType := fun k => match k with
  | 0 => .object "MiddleOne$Crowd"
  | 1 => .object "MiddleOne$Day"
  | _ => .object "MiddleOne$Picker"
theorem n_Wishes : ∀ a, a < 3 → ∀ b, b < 3 → a ≠ b → (F_Wishes a).2.1 ≠ (F_Wishes b).2.1 := by decide +kernel
theorem t_Wishes_ok : ∀ k, k < 3 → parseFieldDescriptor (F_Wishes k).2.2.1 = some (t_Wishes k) := by decide +kernel
theorem i_Wishes : ∀ w ∈ u_ws "MiddleOne$Wishes" F_Wishes 3, w ∈ lw_tbl ∧ goodWord w = true := by decide +kernel
theorem j_Wishes : ∀ w ∈ u_ws "MiddleOne$Wishes" F_Wishes 3, w ∈ TB := fun w h => tb (i_Wishes w h).1 (i_Wishes w h).2
def F_Mo : u_T := fun k => match k with
  | 0 => ("MiddleOne", "told", "LMiddleOne$Crowd;", true)
  | 1 => ("MiddleOne", "law", "LMiddleOne$Law;", true)
  | 2 => ("MiddleOne", "reader", "LMiddleOne$Reader;", true)
  | 3 => ("MiddleOne", "day", "LMiddleOne$Day;", true)
  | 4 => ("MiddleOne", "wishes", "LMiddleOne$Wishes;", true)
  | 5 => ("MiddleOne", "seen", "LMiddleOne$Seen;", true)
  | 6 => ("MiddleOne", "deed", "LMiddleOne$Deed;", true)
  | 7 => ("MiddleOne", "changes", "LMiddleOne$Changes;", true)
  | 8 => ("MiddleOne", "acts", "LMiddleOne$Acts;", true)
  | _ => ("MiddleOne", "shelves", "LMiddleOne$Shelves;", true)
def t_Mo : Nat → FieldType := fun k => match k with
  | 0 => .object "MiddleOne$Crowd"
  | 1 => .object "MiddleOne$Law"
  | 2 => .object "MiddleOne$Reader"
  | 3 => .object "MiddleOne$Day"
  | 4 => .object "MiddleOne$Wishes"
  | 5 => .object "MiddleOne$Seen"
  | 6 => .object "MiddleOne$Deed"
  | 7 => .object "MiddleOne$Changes"
  | 8 => .object "MiddleOne$Acts"
  | _ => .object "MiddleOne$Shelves"
theorem n_Mo : ∀ a, a < 10 → ∀ b, b < 10 → a ≠ b → (F_Mo a).2.1 ≠ (F_Mo b).2.1 := by decide +kernel
theorem t_Mo_ok : ∀ k, k < 10 → parseFieldDescriptor (F_Mo k).2.2.1 = some (t_Mo k) := by decide +kernel
theorem i_Mo : ∀ w ∈ u_ws "MiddleOne" F_Mo 10, w ∈ lw_tbl ∧ goodWord w = true := by decide +kernel
theorem j_Mo : ∀ w ∈ u_ws "MiddleOne" F_Mo 10, w ∈ TB := fun w h => tb (i_Mo w h).1 (i_Mo w h).2
def F_Md : u_T := fun k => match k with
  | 0 => ("MiddleOneModel", "may", "[I", true)
  | 1 => ("MiddleOneModel", "changeAt", "[I", true)
  | 2 => ("MiddleOneModel", "changeWas", "[I", true)
  | 3 => ("MiddleOneModel", "changeIs", "[I", true)
  | 4 => ("MiddleOneModel", "keptMany", "I", false)
  | 5 => ("MiddleOneModel", "done", "I", false)
  | 6 => ("MiddleOneModel", "people", "I", false)
  | 7 => ("MiddleOneModel", "now", "I", false)
  | 8 => ("MiddleOneModel", "letIn", "[I", true)
  | 9 => ("MiddleOneModel", "away", "I", false)
  | 10 => ("MiddleOneModel", "tape", "[I", true)
  | 11 => ("MiddleOneModel", "tapeMany", "I", false)
  | 12 => ("MiddleOneModel", "text", "[I", true)
  | 13 => ("MiddleOneModel", "textMany", "I", false)
  | 14 => ("MiddleOneModel", "base", "I", false)
  | 15 => ("MiddleOneModel", "at", "I", false)
  | 16 => ("MiddleOneModel", "ends", "I", false)
  | 17 => ("MiddleOneModel", "fault", "I", false)
  | 18 => ("MiddleOneModel", "opened", "I", false)
  | 19 => ("MiddleOneModel", "names", "[I", true)
  | 20 => ("MiddleOneModel", "coming", "I", false)
  | 21 => ("MiddleOneModel", "atSecond", "I", false)
  | 22 => ("MiddleOneModel", "boysMany", "I", false)
  | 23 => ("MiddleOneModel", "placeRule", "I", false)
  | 24 => ("MiddleOneModel", "inAt", "[I", true)
  | 25 => ("MiddleOneModel", "waiting", "[I", true)
  | 26 => ("MiddleOneModel", "talls", "[I", true)
  | 27 => ("MiddleOneModel", "waits", "I", false)
  | 28 => ("MiddleOneModel", "longest", "I", false)
  | 29 => ("MiddleOneModel", "heelsHad", "[I", true)
  | 30 => ("MiddleOneModel", "comesHad", "[I", true)
  | 31 => ("MiddleOneModel", "ledStrokes", "I", false)
  | 32 => ("MiddleOneModel", "ledIn", "I", false)
  | 33 => ("MiddleOneModel", "ledAway", "I", false)
  | 34 => ("MiddleOneModel", "ledDawns", "I", false)
  | 35 => ("MiddleOneModel", "ledMost", "I", false)
  | 36 => ("MiddleOneModel", "isKept", "Z", false)
  | 37 => ("MiddleOneModel", "imagePeople", "I", false)
  | 38 => ("MiddleOneModel", "imageAway", "I", false)
  | 39 => ("MiddleOneModel", "image", "[I", true)
  | 40 => ("MiddleOneModel", "bodies", "I", false)
  | 41 => ("MiddleOneModel", "bodyKind", "[I", true)
  | 42 => ("MiddleOneModel", "trace", "[I", true)
  | 43 => ("MiddleOneModel", "ran", "I", false)
  | 44 => ("MiddleOneModel", "ownKind", "I", false)
  | 45 => ("MiddleOneModel", "ownNumber", "I", false)
  | 46 => ("MiddleOneModel", "shelf", "[I", true)
  | 47 => ("MiddleOneModel", "many", "[I", true)
  | 48 => ("MiddleOneModel", "items", "[J", true)
  | _ => ("MiddleOneModel", "carried", "[J", true)
def t_Md : Nat → FieldType := fun k => match k with
  | 0 => .array .int
  | 1 => .array .int
  | 2 => .array .int
  | 3 => .array .int
  | 4 => .int
  | 5 => .int
  | 6 => .int
  | 7 => .int
  | 8 => .array .int
  | 9 => .int
  | 10 => .array .int
  | 11 => .int
  | 12 => .array .int
  | 13 => .int
  | 14 => .int
  | 15 => .int
  | 16 => .int
  | 17 => .int
  | 18 => .int
  | 19 => .array .int
  | 20 => .int
  | 21 => .int
  | 22 => .int
  | 23 => .int
  | 24 => .array .int
  | 25 => .array .int
  | 26 => .array .int
  | 27 => .int
  | 28 => .int
  | 29 => .array .int
  | 30 => .array .int
  | 31 => .int
  | 32 => .int
  | 33 => .int
  | 34 => .int
  | 35 => .int
  | 36 => .boolean
  | 37 => .int
  | 38 => .int
  | 39 => .array .int
  | 40 => .int
  | 41 => .array .int
  | 42 => .array .int
  | 43 => .int
  | 44 => .int
  | 45 => .int
  | 46 => .array .int
  | 47 => .array .int
  | 48 => .array .long
  | _ => .array .long
theorem n_Md : ∀ a, a < 50 → ∀ b, b < 50 → a ≠ b → (F_Md a).2.1 ≠ (F_Md b).2.1 := by decide +kernel
theorem t_Md_ok : ∀ k, k < 50 → parseFieldDescriptor (F_Md k).2.2.1 = some (t_Md k) := by decide +kernel
theorem i_Md : ∀ w ∈ u_ws "MiddleOneModel" F_Md 50, w ∈ lw_tbl ∧ goodWord w = true := by decide +kernel
theorem j_Md : ∀ w ∈ u_ws "MiddleOneModel" F_Md 50, w ∈ TB := fun w h => tb (i_Md w h).1 (i_Md w h).2
abbrev cls : List vw_C := [("MiddleOne$Acts", F_Acts, 6), ("MiddleOne$Changes", F_Changes, 7), ("MiddleOne$Crowd", F_Crowd, 4), ("MiddleOne$Day", F_Day, 7), ("MiddleOne$Deed", F_Deed, 7), ("MiddleOne$Law", F_Law, 4), ("MiddleOne$Picker", F_Picker, 3), ("MiddleOne$Reader", F_Reader, 6), ("MiddleOne$Seen", F_Seen, 3), ("MiddleOne$Shelves", F_Shelves, 4), ("MiddleOne$Wishes", F_Wishes, 3), ("MiddleOne", F_Mo, 10), ("MiddleOneModel", F_Md, 50)]
def y_Acts_isKind : MethodName := ⟨"MiddleOne$Acts", "isKind", "(I)Z"⟩
def y_Acts_isUnder : MethodName := ⟨"MiddleOne$Acts", "isUnder", "(II)Z"⟩
def y_Acts_size : MethodName := ⟨"MiddleOne$Acts", "size", "()I"⟩
def y_Acts_has : MethodName := ⟨"MiddleOne$Acts", "has", "(I)Z"⟩
def y_Acts_kindOf : MethodName := ⟨"MiddleOne$Acts", "kindOf", "(I)I"⟩
def y_Acts_joins : MethodName := ⟨"MiddleOne$Acts", "joins", "(I)I"⟩
def y_Acts_ranLast : MethodName := ⟨"MiddleOne$Acts", "ranLast", "()I"⟩
def y_Acts_traced : MethodName := ⟨"MiddleOne$Acts", "traced", "(I)I"⟩
def y_Acts_does : MethodName := ⟨"MiddleOne$Acts", "does", "(III)I"⟩
def y_Acts_holder : MethodName := ⟨"MiddleOne$Acts", "holder", "(II)I"⟩
def y_Acts_notes : MethodName := ⟨"MiddleOne$Acts", "notes", "(I)V"⟩
def y_Acts_plays : MethodName := ⟨"MiddleOne$Acts", "plays", "(IIII)I"⟩
def y_Changes_undoable : MethodName := ⟨"MiddleOne$Changes", "undoable", "()I"⟩
def y_Changes_redoable : MethodName := ⟨"MiddleOne$Changes", "redoable", "()I"⟩
def y_Changes_happens : MethodName := ⟨"MiddleOne$Changes", "happens", "(III)V"⟩
def y_Changes_forgetsOldest : MethodName := ⟨"MiddleOne$Changes", "forgetsOldest", "()V"⟩
def y_Changes_undoes : MethodName := ⟨"MiddleOne$Changes", "undoes", "()I"⟩
def y_Changes_redoes : MethodName := ⟨"MiddleOne$Changes", "redoes", "()I"⟩
def y_Crowd_isNumber : MethodName := ⟨"MiddleOne$Crowd", "isNumber", "(I)Z"⟩
def y_Crowd_fits : MethodName := ⟨"MiddleOne$Crowd", "fits", "(II)Z"⟩
def y_Crowd_size : MethodName := ⟨"MiddleOne$Crowd", "size", "()I"⟩
def y_Crowd_has : MethodName := ⟨"MiddleOne$Crowd", "has", "(I)Z"⟩
def y_Crowd_everyone : MethodName := ⟨"MiddleOne$Crowd", "everyone", "()I"⟩
def y_Crowd_number : MethodName := ⟨"MiddleOne$Crowd", "number", "(II)I"⟩
def y_Crowd_setNumber : MethodName := ⟨"MiddleOne$Crowd", "setNumber", "(III)V"⟩
def y_Crowd_joins : MethodName := ⟨"MiddleOne$Crowd", "joins", "(III)I"⟩
def y_Crowd_shrinks : MethodName := ⟨"MiddleOne$Crowd", "shrinks", "(I)V"⟩
def y_Crowd_becomes : MethodName := ⟨"MiddleOne$Crowd", "becomes", "(LMiddleOne$Crowd;)V"⟩
def y_Crowd_waiting : MethodName := ⟨"MiddleOne$Crowd", "waiting", "(II)I"⟩
def y_Crowd_thereAt : MethodName := ⟨"MiddleOne$Crowd", "thereAt", "(I)I"⟩
def y_Crowd_comeBy : MethodName := ⟨"MiddleOne$Crowd", "comeBy", "(I)I"⟩
def y_Crowd_priceOf : MethodName := ⟨"MiddleOne$Crowd", "priceOf", "(I)I"⟩
def y_Day_who : MethodName := ⟨"MiddleOne$Day", "who", "()LMiddleOne$Crowd;"⟩
def y_Day_begins : MethodName := ⟨"MiddleOne$Day", "begins", "(LMiddleOne$Crowd;)V"⟩
def y_Day_again : MethodName := ⟨"MiddleOne$Day", "again", "(I)V"⟩
def y_Day_againWith : MethodName := ⟨"MiddleOne$Day", "againWith", "(III)V"⟩
def y_Day_opens : MethodName := ⟨"MiddleOne$Day", "opens", "(III)I"⟩
def y_Day_passes : MethodName := ⟨"MiddleOne$Day", "passes", "(I)I"⟩
def y_Day_runs : MethodName := ⟨"MiddleOne$Day", "runs", "(II)I"⟩
def y_Day_till : MethodName := ⟨"MiddleOne$Day", "till", "(II)I"⟩
def y_Day_twoGates : MethodName := ⟨"MiddleOne$Day", "twoGates", "(II)I"⟩
def y_Day_allAreIn : MethodName := ⟨"MiddleOne$Day", "allAreIn", "()Z"⟩
def y_Day_stillOutside : MethodName := ⟨"MiddleOne$Day", "stillOutside", "()I"⟩
def y_Day_inSince : MethodName := ⟨"MiddleOne$Day", "inSince", "(I)I"⟩
def y_Day_waitedLast : MethodName := ⟨"MiddleOne$Day", "waitedLast", "()I"⟩
def y_Day_mostWaited : MethodName := ⟨"MiddleOne$Day", "mostWaited", "()I"⟩
def y_Day_wentWithout : MethodName := ⟨"MiddleOne$Day", "wentWithout", "(I)I"⟩
def y_Day_waitsWithin : MethodName := ⟨"MiddleOne$Day", "waitsWithin", "()I"⟩
def y_Day_heightsWithin : MethodName := ⟨"MiddleOne$Day", "heightsWithin", "()I"⟩
def y_Day_lastIn : MethodName := ⟨"MiddleOne$Day", "lastIn", "()I"⟩
def y_Deed_leads : MethodName := ⟨"MiddleOne$Deed", "leads", "(I)I"⟩
def y_Deed_waitingNow : MethodName := ⟨"MiddleOne$Deed", "waitingNow", "()I"⟩
def y_Deed_numberIn : MethodName := ⟨"MiddleOne$Deed", "numberIn", "()I"⟩
def y_Deed_inSince : MethodName := ⟨"MiddleOne$Deed", "inSince", "(I)I"⟩
def y_Deed_opensNow : MethodName := ⟨"MiddleOne$Deed", "opensNow", "()I"⟩
def y_Deed_sendsAway : MethodName := ⟨"MiddleOne$Deed", "sendsAway", "(I)I"⟩
def y_Deed_dawns : MethodName := ⟨"MiddleOne$Deed", "dawns", "()I"⟩
def y_Deed_hasImage : MethodName := ⟨"MiddleOne$Deed", "hasImage", "()Z"⟩
def y_Deed_keepsImage : MethodName := ⟨"MiddleOne$Deed", "keepsImage", "()I"⟩
def y_Deed_laysBack : MethodName := ⟨"MiddleOne$Deed", "laysBack", "()I"⟩
def y_Law_learns : MethodName := ⟨"MiddleOne$Law", "learns", "(LMiddleOne$Reader;)V"⟩
def y_Law_tallness : MethodName := ⟨"MiddleOne$Law", "tallness", "(LMiddleOne$Crowd;III)I"⟩
def y_Law_joined : MethodName := ⟨"MiddleOne$Law", "joined", "(III)I"⟩
def y_Picker_picks : MethodName := ⟨"MiddleOne$Picker", "picks", "(LMiddleOne$Crowd;III)I"⟩
def y_Reader_isFull : MethodName := ⟨"MiddleOne$Reader", "isFull", "()Z"⟩
def y_Reader_size : MethodName := ⟨"MiddleOne$Reader", "size", "()I"⟩
def y_Reader_takes : MethodName := ⟨"MiddleOne$Reader", "takes", "(I)I"⟩
def y_Reader_clears : MethodName := ⟨"MiddleOne$Reader", "clears", "()V"⟩
def y_Reader_faultOfText : MethodName := ⟨"MiddleOne$Reader", "faultOfText", "()I"⟩
def y_Reader_copySteps : MethodName := ⟨"MiddleOne$Reader", "copySteps", "([I[I)I"⟩
def y_Reader_reads : MethodName := ⟨"MiddleOne$Reader", "reads", "()Z"⟩
def y_Reader_layer : MethodName := ⟨"MiddleOne$Reader", "layer", "(II)Z"⟩
def y_Reader_operand : MethodName := ⟨"MiddleOne$Reader", "operand", "(I)Z"⟩
def y_Reader_digits : MethodName := ⟨"MiddleOne$Reader", "digits", "()Z"⟩
def y_Reader_sign : MethodName := ⟨"MiddleOne$Reader", "sign", "()I"⟩
def y_Reader_makes : MethodName := ⟨"MiddleOne$Reader", "makes", "(II)V"⟩
def y_Reader_isDigit : MethodName := ⟨"MiddleOne$Reader", "isDigit", "(I)Z"⟩
def y_Reader_isName : MethodName := ⟨"MiddleOne$Reader", "isName", "(I)Z"⟩
def y_Reader_rankOf : MethodName := ⟨"MiddleOne$Reader", "rankOf", "(I)I"⟩
def y_Seen_firstUnlike : MethodName := ⟨"MiddleOne$Seen", "firstUnlike", "(I)I"⟩
def y_Seen_goesOnUnlike : MethodName := ⟨"MiddleOne$Seen", "goesOnUnlike", "(I)I"⟩
def y_Seen_setsThatFit : MethodName := ⟨"MiddleOne$Seen", "setsThatFit", "(II)I"⟩
def y_Seen_leastHeeled : MethodName := ⟨"MiddleOne$Seen", "leastHeeled", "(I)I"⟩
def y_Seen_drawnDays : MethodName := ⟨"MiddleOne$Seen", "drawnDays", "(III)I"⟩
def y_Shelves_isShelf : MethodName := ⟨"MiddleOne$Shelves", "isShelf", "(I)Z"⟩
def y_Shelves_isBare : MethodName := ⟨"MiddleOne$Shelves", "isBare", "(I)Z"⟩
def y_Shelves_bodyOn : MethodName := ⟨"MiddleOne$Shelves", "bodyOn", "(I)I"⟩
def y_Shelves_holdsRow : MethodName := ⟨"MiddleOne$Shelves", "holdsRow", "(II)Z"⟩
def y_Shelves_holdsLikeRows : MethodName := ⟨"MiddleOne$Shelves", "holdsLikeRows", "(II)Z"⟩
def y_Shelves_sizeOf : MethodName := ⟨"MiddleOne$Shelves", "sizeOf", "(I)I"⟩
def y_Shelves_isPlace : MethodName := ⟨"MiddleOne$Shelves", "isPlace", "(II)Z"⟩
def y_Shelves_isSpan : MethodName := ⟨"MiddleOne$Shelves", "isSpan", "(III)Z"⟩
def y_Shelves_holds : MethodName := ⟨"MiddleOne$Shelves", "holds", "(II)V"⟩
def y_Shelves_lays : MethodName := ⟨"MiddleOne$Shelves", "lays", "(III)V"⟩
def y_Shelves_cell : MethodName := ⟨"MiddleOne$Shelves", "cell", "(II)J"⟩
def y_Shelves_sets : MethodName := ⟨"MiddleOne$Shelves", "sets", "(IIJ)V"⟩
def y_Shelves_narrowed : MethodName := ⟨"MiddleOne$Shelves", "narrowed", "(IJ)J"⟩
def y_Shelves_moves : MethodName := ⟨"MiddleOne$Shelves", "moves", "(IIIII)V"⟩
def y_Wishes_sentAway : MethodName := ⟨"MiddleOne$Wishes", "sentAway", "(IIZI)I"⟩
def y_Wishes_isBetter : MethodName := ⟨"MiddleOne$Wishes", "isBetter", "(IIII)Z"⟩
def y_Wishes_boysFor : MethodName := ⟨"MiddleOne$Wishes", "boysFor", "(III)I"⟩
def y_Wishes_heightOfBoys : MethodName := ⟨"MiddleOne$Wishes", "heightOfBoys", "(III)I"⟩
def y_Wishes_heelsFor : MethodName := ⟨"MiddleOne$Wishes", "heelsFor", "(III)I"⟩
def y_Wishes_comesBest : MethodName := ⟨"MiddleOne$Wishes", "comesBest", "(I)I"⟩
def y_Wishes_allChoose : MethodName := ⟨"MiddleOne$Wishes", "allChoose", "(I)I"⟩
def y_Wishes_earliestHeels : MethodName := ⟨"MiddleOne$Wishes", "earliestHeels", "(I)I"⟩
def y_Wishes_betterGate : MethodName := ⟨"MiddleOne$Wishes", "betterGate", "(I)I"⟩
def y_Wishes_fullestSet : MethodName := ⟨"MiddleOne$Wishes", "fullestSet", "(II)I"⟩
def y_Wishes_placeForAll : MethodName := ⟨"MiddleOne$Wishes", "placeForAll", "(I)I"⟩
def y_Mo_person : MethodName := ⟨"MiddleOne", "person", "(II)I"⟩
def y_Mo_people : MethodName := ⟨"MiddleOne", "people", "(III)I"⟩
def y_Mo_joinFromRow : MethodName := ⟨"MiddleOne", "joinFromRow", "(III)I"⟩
def y_Mo_mend : MethodName := ⟨"MiddleOne", "mend", "(III)I"⟩
def y_Mo_of : MethodName := ⟨"MiddleOne", "of", "(II)I"⟩
def y_Mo_feed : MethodName := ⟨"MiddleOne", "feed", "(I)I"⟩
def y_Mo_law : MethodName := ⟨"MiddleOne", "law", "()I"⟩
def y_Mo_tall : MethodName := ⟨"MiddleOne", "tall", "(II)I"⟩
def y_Mo_enters : MethodName := ⟨"MiddleOne", "enters", "(II)I"⟩
def y_Mo_stroke : MethodName := ⟨"MiddleOne", "stroke", "(II)I"⟩
def y_Mo_day : MethodName := ⟨"MiddleOne", "day", "(II)I"⟩
def y_Mo_mean : MethodName := ⟨"MiddleOne", "mean", "(III)J"⟩
def y_Mo_sharedDivisor : MethodName := ⟨"MiddleOne", "sharedDivisor", "(II)I"⟩
def y_Mo_sent : MethodName := ⟨"MiddleOne", "sent", "(III)I"⟩
def y_Mo_brought : MethodName := ⟨"MiddleOne", "brought", "(III)I"⟩
def y_Mo_heels : MethodName := ⟨"MiddleOne", "heels", "(III)I"⟩
def y_Mo_later : MethodName := ⟨"MiddleOne", "later", "(I)I"⟩
def y_Mo_allWear : MethodName := ⟨"MiddleOne", "allWear", "(I)I"⟩
def y_Mo_gates : MethodName := ⟨"MiddleOne", "gates", "(II)I"⟩
def y_Mo_where : MethodName := ⟨"MiddleOne", "where", "(I)I"⟩
def y_Mo_bestSet : MethodName := ⟨"MiddleOne", "bestSet", "(II)I"⟩
def y_Mo_atLast : MethodName := ⟨"MiddleOne", "atLast", "()I"⟩
def y_Mo_rule : MethodName := ⟨"MiddleOne", "rule", "(I)I"⟩
def y_Mo_judge : MethodName := ⟨"MiddleOne", "judge", "(I)I"⟩
def y_Mo_with : MethodName := ⟨"MiddleOne", "with", "(II)I"⟩
def y_Mo_heeled : MethodName := ⟨"MiddleOne", "heeled", "(I)I"⟩
def y_Mo_drawn : MethodName := ⟨"MiddleOne", "drawn", "(III)I"⟩
def y_Mo_refusedAsSeen : MethodName := ⟨"MiddleOne", "refusedAsSeen", "(I)I"⟩
def y_Mo_strike : MethodName := ⟨"MiddleOne", "strike", "()I"⟩
def y_Mo_take : MethodName := ⟨"MiddleOne", "take", "(I)I"⟩
def y_Mo_dawn : MethodName := ⟨"MiddleOne", "dawn", "()I"⟩
def y_Mo_led : MethodName := ⟨"MiddleOne", "led", "(I)I"⟩
def y_Mo_image : MethodName := ⟨"MiddleOne", "image", "()I"⟩
def y_Mo_back : MethodName := ⟨"MiddleOne", "back", "()I"⟩
def y_Mo_undo : MethodName := ⟨"MiddleOne", "undo", "()I"⟩
def y_Mo_redo : MethodName := ⟨"MiddleOne", "redo", "()I"⟩
def y_Mo_body : MethodName := ⟨"MiddleOne", "body", "(I)I"⟩
def y_Mo_act : MethodName := ⟨"MiddleOne", "act", "(III)I"⟩
def y_Mo_trace : MethodName := ⟨"MiddleOne", "trace", "(I)I"⟩
def y_Mo_keep : MethodName := ⟨"MiddleOne", "keep", "(II)I"⟩
def y_Mo_row : MethodName := ⟨"MiddleOne", "row", "(III)I"⟩
def y_Mo_put : MethodName := ⟨"MiddleOne", "put", "(IIJ)I"⟩
def y_Mo_element : MethodName := ⟨"MiddleOne", "element", "(II)J"⟩
def y_Mo_shift : MethodName := ⟨"MiddleOne", "shift", "(IIIII)I"⟩
def y_Mo_taken : MethodName := ⟨"MiddleOne", "taken", "(II)I"⟩
def y_Mo_count : MethodName := ⟨"MiddleOne", "count", "(I)I"⟩
def y_Mo_refusedAsRow : MethodName := ⟨"MiddleOne", "refusedAsRow", "(I)I"⟩
def y_Mo_isOneOrAll : MethodName := ⟨"MiddleOne", "isOneOrAll", "(I)Z"⟩
def y_Mo_isDay : MethodName := ⟨"MiddleOne", "isDay", "(I)Z"⟩
def y_Mo_isEither : MethodName := ⟨"MiddleOne", "isEither", "(I)Z"⟩
def y_Md_within : MethodName := ⟨"MiddleOneModel", "within", "(JJJ)Z"⟩
def y_Md_isIn : MethodName := ⟨"MiddleOneModel", "isIn", "(II)Z"⟩
def y_Md_bitsOf : MethodName := ⟨"MiddleOneModel", "bitsOf", "(I)I"⟩
def y_Md_becomes : MethodName := ⟨"MiddleOneModel", "becomes", "(II)I"⟩
def y_Md_undo : MethodName := ⟨"MiddleOneModel", "undo", "()I"⟩
def y_Md_redo : MethodName := ⟨"MiddleOneModel", "redo", "()I"⟩
def y_Md_isOne : MethodName := ⟨"MiddleOneModel", "isOne", "(J)Z"⟩
def y_Md_mayCome : MethodName := ⟨"MiddleOneModel", "mayCome", "(JJJ)Z"⟩
def y_Md_puts : MethodName := ⟨"MiddleOneModel", "puts", "(IIII)V"⟩
def y_Md_person : MethodName := ⟨"MiddleOneModel", "person", "(II)I"⟩
def y_Md_people : MethodName := ⟨"MiddleOneModel", "people", "(III)I"⟩
def y_Md_mayBecome : MethodName := ⟨"MiddleOneModel", "mayBecome", "(II)Z"⟩
def y_Md_mend : MethodName := ⟨"MiddleOneModel", "mend", "(III)I"⟩
def y_Md_waitsNow : MethodName := ⟨"MiddleOneModel", "waitsNow", "(I)Z"⟩
def y_Md_of : MethodName := ⟨"MiddleOneModel", "of", "(II)I"⟩
def y_Md_feed : MethodName := ⟨"MiddleOneModel", "feed", "(I)I"⟩
def y_Md_byteAt : MethodName := ⟨"MiddleOneModel", "byteAt", "()I"⟩
def y_Md_wrong : MethodName := ⟨"MiddleOneModel", "wrong", "()I"⟩
def y_Md_takes : MethodName := ⟨"MiddleOneModel", "takes", "(I)Z"⟩
def y_Md_either : MethodName := ⟨"MiddleOneModel", "either", "()I"⟩
def y_Md_both : MethodName := ⟨"MiddleOneModel", "both", "()I"⟩
def y_Md_compared : MethodName := ⟨"MiddleOneModel", "compared", "()I"⟩
def y_Md_sums : MethodName := ⟨"MiddleOneModel", "sums", "()I"⟩
def y_Md_product : MethodName := ⟨"MiddleOneModel", "product", "()I"⟩
def y_Md_nameOf : MethodName := ⟨"MiddleOneModel", "nameOf", "(I)I"⟩
def y_Md_one : MethodName := ⟨"MiddleOneModel", "one", "()I"⟩
def y_Md_workOut : MethodName := ⟨"MiddleOneModel", "workOut", "(II)I"⟩
def y_Md_law : MethodName := ⟨"MiddleOneModel", "law", "()I"⟩
def y_Md_tallAt : MethodName := ⟨"MiddleOneModel", "tallAt", "(III)I"⟩
def y_Md_tall : MethodName := ⟨"MiddleOneModel", "tall", "(II)I"⟩
def y_Md_begins1 : MethodName := ⟨"MiddleOneModel", "begins1", "()V"⟩
def y_Md_asksWaiting : MethodName := ⟨"MiddleOneModel", "asksWaiting", "(IZ)V"⟩
def y_Md_atPlace : MethodName := ⟨"MiddleOneModel", "atPlace", "(I)I"⟩
def y_Md_strokes : MethodName := ⟨"MiddleOneModel", "strokes", "(I)I"⟩
def y_Md_goes : MethodName := ⟨"MiddleOneModel", "goes", "(I)V"⟩
def y_Md_isN : MethodName := ⟨"MiddleOneModel", "isN", "(I)Z"⟩
def y_Md_inMany : MethodName := ⟨"MiddleOneModel", "inMany", "()I"⟩
def y_Md_enters : MethodName := ⟨"MiddleOneModel", "enters", "(II)I"⟩
def y_Md_stroke : MethodName := ⟨"MiddleOneModel", "stroke", "(II)I"⟩
def y_Md_day : MethodName := ⟨"MiddleOneModel", "day", "(II)I"⟩
def y_Md_commonOf : MethodName := ⟨"MiddleOneModel", "commonOf", "(JJ)J"⟩
def y_Md_partOf : MethodName := ⟨"MiddleOneModel", "partOf", "(JJI)J"⟩
def y_Md_mean : MethodName := ⟨"MiddleOneModel", "mean", "(III)J"⟩
def y_Md_priceOf : MethodName := ⟨"MiddleOneModel", "priceOf", "(I)I"⟩
def y_Md_sent : MethodName := ⟨"MiddleOneModel", "sent", "(III)I"⟩
def y_Md_brought : MethodName := ⟨"MiddleOneModel", "brought", "(III)I"⟩
def y_Md_wearing : MethodName := ⟨"MiddleOneModel", "wearing", "(III)I"⟩
def y_Md_heels : MethodName := ⟨"MiddleOneModel", "heels", "(III)I"⟩
def y_Md_later : MethodName := ⟨"MiddleOneModel", "later", "(I)I"⟩
def y_Md_chooses : MethodName := ⟨"MiddleOneModel", "chooses", "(I)I"⟩
def y_Md_allWear : MethodName := ⟨"MiddleOneModel", "allWear", "(I)I"⟩
def y_Md_gates : MethodName := ⟨"MiddleOneModel", "gates", "(II)I"⟩
def y_Md_where : MethodName := ⟨"MiddleOneModel", "where", "(I)I"⟩
def y_Md_bestSet : MethodName := ⟨"MiddleOneModel", "bestSet", "(II)I"⟩
def y_Md_atLast : MethodName := ⟨"MiddleOneModel", "atLast", "()I"⟩
def y_Md_rule : MethodName := ⟨"MiddleOneModel", "rule", "(I)I"⟩
def y_Md_bytesIs : MethodName := ⟨"MiddleOneModel", "bytesIs", "(I)I"⟩
def y_Md_firstFalse : MethodName := ⟨"MiddleOneModel", "firstFalse", "(I)I"⟩
def y_Md_judge : MethodName := ⟨"MiddleOneModel", "judge", "(I)I"⟩
def y_Md_with : MethodName := ⟨"MiddleOneModel", "with", "(II)I"⟩
def y_Md_wears : MethodName := ⟨"MiddleOneModel", "wears", "(I)V"⟩
def y_Md_heeled : MethodName := ⟨"MiddleOneModel", "heeled", "(I)I"⟩
def y_Md_drawn : MethodName := ⟨"MiddleOneModel", "drawn", "(III)I"⟩
def y_Md_waitMany : MethodName := ⟨"MiddleOneModel", "waitMany", "()I"⟩
def y_Md_insideMany : MethodName := ⟨"MiddleOneModel", "insideMany", "()I"⟩
def y_Md_strike : MethodName := ⟨"MiddleOneModel", "strike", "()I"⟩
def y_Md_take : MethodName := ⟨"MiddleOneModel", "take", "(I)I"⟩
def y_Md_dawn : MethodName := ⟨"MiddleOneModel", "dawn", "()I"⟩
def y_Md_led : MethodName := ⟨"MiddleOneModel", "led", "(I)I"⟩
def y_Md_image : MethodName := ⟨"MiddleOneModel", "image", "()I"⟩
def y_Md_back : MethodName := ⟨"MiddleOneModel", "back", "()I"⟩
def y_Md_isBody : MethodName := ⟨"MiddleOneModel", "isBody", "(I)Z"⟩
def y_Md_kindOf : MethodName := ⟨"MiddleOneModel", "kindOf", "(I)I"⟩
def y_Md_body : MethodName := ⟨"MiddleOneModel", "body", "(I)I"⟩
def y_Md_above : MethodName := ⟨"MiddleOneModel", "above", "(I)I"⟩
def y_Md_begins : MethodName := ⟨"MiddleOneModel", "begins", "(I)V"⟩
def y_Md_waitsAs : MethodName := ⟨"MiddleOneModel", "waitsAs", "(II)I"⟩
def y_Md_countsAs : MethodName := ⟨"MiddleOneModel", "countsAs", "(II)I"⟩
def y_Md_opensAs : MethodName := ⟨"MiddleOneModel", "opensAs", "(II)I"⟩
def y_Md_tellsAs : MethodName := ⟨"MiddleOneModel", "tellsAs", "(II)I"⟩
def y_Md_act : MethodName := ⟨"MiddleOneModel", "act", "(III)I"⟩
def y_Md_trace : MethodName := ⟨"MiddleOneModel", "trace", "(I)I"⟩
def y_Md_isShelf : MethodName := ⟨"MiddleOneModel", "isShelf", "(I)Z"⟩
def y_Md_keep : MethodName := ⟨"MiddleOneModel", "keep", "(II)I"⟩
def y_Md_row : MethodName := ⟨"MiddleOneModel", "row", "(III)I"⟩
def y_Md_refusal : MethodName := ⟨"MiddleOneModel", "refusal", "(II)I"⟩
def y_Md_asSort : MethodName := ⟨"MiddleOneModel", "asSort", "(IJ)J"⟩
def y_Md_put : MethodName := ⟨"MiddleOneModel", "put", "(IIJ)I"⟩
def y_Md_element : MethodName := ⟨"MiddleOneModel", "element", "(II)J"⟩
def y_Md_shift : MethodName := ⟨"MiddleOneModel", "shift", "(IIIII)I"⟩
def y_Md_taken : MethodName := ⟨"MiddleOneModel", "taken", "(II)I"⟩
def y_Md_count : MethodName := ⟨"MiddleOneModel", "count", "(I)I"⟩
def y_J_bitCount : MethodName := ⟨"java/lang/Integer", "bitCount", "(I)I"⟩
def y_J_rangeCheck : MethodName := ⟨"java/util/Arrays", "rangeCheck", "(III)V"⟩
def y_J_fillL : MethodName := ⟨"java/util/Arrays", "fill", "([JIIJ)V"⟩
def y_J_fillI : MethodName := ⟨"java/util/Arrays", "fill", "([II)V"⟩
def cf_Acts : List (Nat × Nat × Nat × Bool) := [(11, 0, 0, false), (15, 0, 1, false), (19, 0, 2, false), (22, 0, 3, false), (25, 0, 4, false), (28, 0, 5, false)]
def cm_Acts : List (Nat × Option Nat × Nat × Nat) := [(31, none, 0, 1), (38, some 0, 3, 2), (41, some 0, 11, 5), (48, none, 9, 2), (52, some 0, 10, 2)]
def ck_Acts : List (Nat × Int32) := []
def cl_Acts : List (Nat × Int64) := []
def cs_Acts : List (Nat × Nat) := [(35, 1002), (45, 1003)]
def cx_Acts : ACx := (cf_Acts, cm_Acts, ck_Acts, cl_Acts, cs_Acts)
def cf_Changes : List (Nat × Nat × Nat × Bool) := [(9, 1, 1, false), (13, 1, 2, false), (16, 1, 3, false), (19, 1, 4, false), (22, 1, 5, false), (26, 1, 6, false), (29, 1, 0, false)]
def cm_Changes : List (Nat × Option Nat × Nat × Nat) := [(33, some 1, 15, 1), (36, some 2, 23, 3), (42, some 2, 24, 4), (46, none, 99999, 5)]
def ck_Changes : List (Nat × Int32) := []
def cl_Changes : List (Nat × Int64) := []
def cs_Changes : List (Nat × Nat) := []
def cx_Changes : ACx := (cf_Changes, cm_Changes, ck_Changes, cl_Changes, cs_Changes)
def cf_Crowd : List (Nat × Nat × Nat × Bool) := [(11, 2, 0, false), (15, 2, 1, false), (19, 2, 2, false), (22, 2, 3, true)]
def cm_Crowd : List (Nat × Option Nat × Nat × Nat) := [(26, none, 18, 1), (36, none, 99999, 5), (42, some 2, 29, 2), (46, none, 254, 2)]
def ck_Crowd : List (Nat × Int32) := []
def cl_Crowd : List (Nat × Int64) := []
def cs_Crowd : List (Nat × Nat) := [(30, 1000), (33, 1001)]
def cx_Crowd : ACx := (cf_Crowd, cm_Crowd, ck_Crowd, cl_Crowd, cs_Crowd)
def cf_Day : List (Nat × Nat × Nat × Bool) := [(12, 3, 1, false), (18, 3, 2, false), (22, 3, 3, false), (26, 3, 4, false), (29, 3, 5, false), (32, 3, 6, false), (35, 3, 0, false)]
def cm_Day : List (Nat × Option Nat × Nat × Nat) := [(39, some 2, 27, 2), (43, some 2, 22, 1), (47, some 3, 34, 2), (51, none, 254, 2), (57, some 2, 24, 4), (61, some 2, 28, 3), (65, none, 251, 1), (71, none, 99998, 2), (76, some 6, 63, 5), (82, some 2, 21, 2), (86, some 3, 36, 4), (90, some 2, 23, 3), (93, none, 99997, 2), (96, some 2, 20, 1)]
def ck_Day : List (Nat × Int32) := []
def cl_Day : List (Nat × Int64) := []
def cs_Day : List (Nat × Nat) := []
def cx_Day : ACx := (cf_Day, cm_Day, ck_Day, cl_Day, cs_Day)
def cf_Deed : List (Nat × Nat × Nat × Bool) := [(11, 4, 2, false), (17, 4, 3, false), (20, 4, 4, false), (23, 4, 5, false), (26, 4, 6, true), (30, 4, 0, false), (34, 4, 1, false)]
def cm_Deed : List (Nat × Option Nat × Nat × Nat) := [(38, none, 254, 2), (44, some 2, 22, 1), (48, some 2, 28, 3), (52, none, 251, 1), (58, some 4, 51, 1), (63, some 6, 63, 5), (67, none, 99998, 2), (72, some 4, 52, 1), (75, none, 99999, 5)]
def ck_Deed : List (Nat × Int32) := []
def cl_Deed : List (Nat × Int64) := []
def cs_Deed : List (Nat × Nat) := []
def cx_Deed : ACx := (cf_Deed, cm_Deed, ck_Deed, cl_Deed, cs_Deed)
def cf_Law : List (Nat × Nat × Nat × Bool) := [(9, 5, 0, false), (15, 5, 1, false), (18, 5, 2, false), (22, 5, 3, false)]
def cm_Law : List (Nat × Option Nat × Nat × Nat) := [(25, some 7, 69, 3), (31, some 2, 23, 3), (35, none, 99998, 2), (40, none, 62, 3)]
def ck_Law : List (Nat × Int32) := []
def cl_Law : List (Nat × Int64) := []
def cs_Law : List (Nat × Nat) := []
def cx_Law : ACx := (cf_Law, cm_Law, ck_Law, cl_Law, cs_Law)
def cf_Picker : List (Nat × Nat × Nat × Bool) := [(11, 6, 1, false), (17, 6, 2, false), (20, 6, 0, false)]
def cm_Picker : List (Nat × Option Nat × Nat × Nat) := [(24, none, 251, 1), (30, some 2, 20, 1), (34, some 5, 61, 5)]
def ck_Picker : List (Nat × Int32) := []
def cl_Picker : List (Nat × Int64) := []
def cs_Picker : List (Nat × Nat) := []
def cx_Picker : ACx := (cf_Picker, cm_Picker, ck_Picker, cl_Picker, cs_Picker)
def cf_Reader : List (Nat × Nat × Nat × Bool) := [(9, 7, 0, false), (13, 7, 1, false), (17, 7, 2, false), (20, 7, 3, false), (23, 7, 4, false), (26, 7, 5, false)]
def cm_Reader : List (Nat × Option Nat × Nat × Nat) := [(29, some 7, 70, 1), (33, some 7, 74, 1), (37, none, 99997, 2), (43, none, 99999, 5), (49, some 7, 71, 3), (53, some 7, 75, 3), (57, some 7, 72, 2), (61, none, 78, 1), (65, none, 76, 1), (68, some 7, 73, 1), (71, none, 77, 1)]
def ck_Reader : List (Nat × Int32) := []
def cl_Reader : List (Nat × Int64) := []
def cs_Reader : List (Nat × Nat) := []
def cx_Reader : ACx := (cf_Reader, cm_Reader, ck_Reader, cl_Reader, cs_Reader)
def cf_Seen : List (Nat × Nat × Nat × Bool) := [(9, 8, 0, false), (15, 8, 1, false), (19, 8, 2, false)]
def cm_Seen : List (Nat × Option Nat × Nat × Nat) := [(23, some 3, 33, 2), (29, some 8, 80, 2), (33, some 9, 89, 2), (38, some 3, 37, 2), (41, some 9, 94, 3), (45, some 2, 22, 1), (51, some 3, 34, 2), (55, some 2, 20, 1), (58, some 2, 23, 3), (62, none, 99997, 2), (67, some 3, 32, 1), (71, some 2, 24, 4), (78, some 3, 38, 3), (81, some 3, 43, 2)]
def ck_Seen : List (Nat × Int32) := [(75, 1103515245)]
def cl_Seen : List (Nat × Int64) := []
def cs_Seen : List (Nat × Nat) := []
def cx_Seen : ACx := (cf_Seen, cm_Seen, ck_Seen, cl_Seen, cs_Seen)
def cf_Shelves : List (Nat × Nat × Nat × Bool) := [(9, 9, 0, false), (13, 9, 1, false), (16, 9, 2, false), (19, 9, 3, false)]
def cm_Shelves : List (Nat × Option Nat × Nat × Nat) := [(23, none, 254, 2), (29, none, 84, 1), (33, some 9, 89, 2), (37, none, 253, 4), (40, some 9, 90, 3), (44, none, 96, 2), (48, some 9, 91, 4), (52, none, 99999, 5)]
def ck_Shelves : List (Nat × Int32) := []
def cl_Shelves : List (Nat × Int64) := []
def cs_Shelves : List (Nat × Nat) := []
def cx_Shelves : ACx := (cf_Shelves, cm_Shelves, ck_Shelves, cl_Shelves, cs_Shelves)
def cf_Wishes : List (Nat × Nat × Nat × Bool) := [(9, 10, 0, false), (15, 10, 1, false), (19, 10, 2, false)]
def cm_Wishes : List (Nat × Option Nat × Nat × Nat) := [(23, some 3, 33, 2), (29, some 2, 30, 2), (35, some 2, 31, 2), (38, none, 99, 4), (42, some 2, 22, 1), (46, some 3, 34, 2), (50, some 3, 39, 3), (54, none, 251, 1), (61, some 3, 38, 3), (64, some 3, 43, 2), (67, some 10, 101, 4), (71, some 3, 32, 1), (75, some 2, 20, 1), (78, some 2, 26, 2), (81, some 2, 25, 4), (84, some 3, 42, 1), (87, some 2, 28, 3), (90, some 2, 24, 4), (94, some 6, 63, 5), (98, some 3, 35, 4), (101, none, 99997, 2), (106, some 2, 23, 3), (109, some 10, 105, 2), (112, some 3, 40, 3), (115, some 3, 41, 1)]
def ck_Wishes : List (Nat × Int32) := []
def cl_Wishes : List (Nat × Int64) := []
def cs_Wishes : List (Nat × Nat) := []
def cx_Wishes : ACx := (cf_Wishes, cm_Wishes, ck_Wishes, cl_Wishes, cs_Wishes)
def cf_Mo : List (Nat × Nat × Nat × Bool) := [(10, 11, 0, false), (19, 11, 1, false), (26, 11, 2, false), (40, 11, 3, false), (49, 11, 4, false), (56, 11, 9, false), (65, 11, 5, false), (74, 11, 6, false), (83, 11, 7, false), (90, 11, 8, false)]
def cm_Mo : List (Nat × Option Nat × Nat × Nat) := [(94, none, 19, 2), (98, some 2, 20, 1), (102, some 2, 25, 4), (106, none, 84, 1), (110, some 9, 85, 2), (113, some 9, 87, 3), (116, some 11, 111, 4), (119, some 9, 90, 3), (122, some 9, 94, 3), (126, some 2, 21, 2), (129, some 2, 23, 3), (133, some 1, 14, 4), (137, none, 18, 1), (140, some 4, 51, 1), (143, some 4, 53, 2), (147, some 7, 64, 1), (151, some 7, 66, 2), (154, some 7, 68, 1), (157, some 5, 60, 2), (161, some 7, 67, 1), (165, some 5, 61, 5), (169, none, 157, 1), (172, some 3, 33, 2), (175, some 3, 39, 3), (178, none, 158, 1), (181, some 3, 38, 3), (184, some 3, 37, 2), (187, some 3, 44, 1), (190, some 3, 46, 2), (193, some 3, 45, 1), (202, some 3, 47, 1), (205, some 3, 48, 1), (208, none, 121, 2), (211, some 10, 98, 5), (215, some 10, 100, 4), (218, some 10, 102, 4), (221, some 10, 103, 2), (224, some 11, 156, 2), (227, some 10, 104, 2), (230, some 2, 22, 1), (233, some 3, 40, 3), (236, some 3, 43, 2), (237, some 10, 106, 2), (240, some 10, 107, 3), (243, some 3, 49, 1), (246, some 10, 108, 2), (249, some 11, 136, 2), (252, some 8, 79, 2), (255, some 8, 81, 3), (258, some 8, 82, 2), (261, some 8, 83, 4), (264, some 4, 50, 2), (267, some 4, 54, 1), (270, some 4, 55, 2), (273, some 4, 56, 1), (276, some 4, 58, 1), (279, some 4, 57, 1), (282, some 4, 59, 1), (285, some 1, 12, 1), (288, some 1, 16, 1), (291, some 1, 13, 1), (294, some 1, 17, 1), (297, none, 0, 1), (300, some 0, 2, 1), (301, some 0, 5, 2), (303, some 0, 8, 4), (306, some 0, 7, 2), (309, some 0, 3, 2), (310, some 9, 92, 3), (314, some 9, 93, 4), (317, some 11, 155, 2), (320, some 9, 95, 4), (324, some 9, 88, 3), (327, some 9, 91, 4), (331, some 9, 97, 6), (335, some 9, 86, 2), (338, some 0, 4, 2), (341, none, 1, 2), (344, none, 251, 1), (349, some 4, 52, 1), (352, some 7, 65, 1), (353, some 0, 6, 1)]
def ck_Mo : List (Nat × Int32) := [(164, -2000000000)]
def cl_Mo : List (Nat × Int64) := [(198, -9223372036854775808), (200, -2)]
def cs_Mo : List (Nat × Nat) := []
def cx_Mo : ACx := (cf_Mo, cm_Mo, ck_Mo, cl_Mo, cs_Mo)
def cf_Md : List (Nat × Nat × Nat × Bool) := [(11, 12, 0, false), (15, 12, 1, false), (18, 12, 2, false), (21, 12, 3, false), (24, 12, 8, false), (27, 12, 10, false), (30, 12, 12, false), (33, 12, 19, false), (36, 12, 23, false), (40, 12, 24, false), (43, 12, 25, false), (46, 12, 26, false), (49, 12, 29, false), (52, 12, 30, false), (55, 12, 39, false), (58, 12, 41, false), (61, 12, 42, false), (64, 12, 46, false), (67, 12, 47, false), (70, 12, 48, false), (74, 12, 49, false), (77, 12, 13, false), (80, 12, 5, false), (83, 12, 4, false), (86, 12, 6, false), (128, 12, 9, false), (134, 12, 7, false), (142, 12, 11, false), (145, 12, 15, false), (148, 12, 16, false), (151, 12, 14, false), (154, 12, 17, false), (179, 12, 18, false), (202, 12, 20, false), (205, 12, 21, false), (208, 12, 22, false), (211, 12, 28, false), (214, 12, 27, false), (276, 12, 35, false), (279, 12, 32, false), (282, 12, 31, false), (285, 12, 33, false), (291, 12, 34, false), (294, 12, 36, true), (298, 12, 37, false), (301, 12, 38, false), (307, 12, 40, false), (312, 12, 43, false), (321, 12, 45, false), (327, 12, 44, false)]
def cm_Md : List (Nat × Option Nat × Nat × Nat) := [(89, none, 159, 3), (99, none, 166, 3), (102, some 12, 167, 5), (106, none, 241, 1), (114, some 12, 165, 2), (120, none, 170, 2), (124, some 12, 162, 3), (131, none, 160, 2), (137, some 12, 172, 2), (157, some 12, 175, 1), (161, some 12, 179, 1), (164, some 12, 177, 2), (167, some 12, 180, 1), (170, some 12, 181, 1), (173, some 12, 182, 1), (176, some 12, 184, 1), (182, some 12, 176, 1), (185, some 12, 178, 1), (188, none, 183, 1), (192, some 12, 185, 3), (197, some 12, 187, 4), (217, some 12, 190, 3), (221, some 12, 191, 2), (224, some 12, 192, 2), (227, none, 194, 1), (230, some 12, 189, 1), (233, some 12, 193, 2), (239, some 12, 195, 1), (242, none, 199, 2), (250, none, 200, 3), (254, some 12, 202, 2), (257, none, 161, 1), (260, some 12, 205, 4), (263, some 12, 208, 2), (266, some 12, 215, 2), (269, some 12, 216, 2), (272, some 12, 219, 2), (288, some 12, 223, 1), (304, some 12, 227, 2), (315, some 12, 234, 2), (318, some 12, 235, 3), (324, some 12, 236, 3), (330, some 12, 237, 3), (333, some 12, 238, 3), (336, some 12, 230, 2), (341, some 12, 244, 3), (344, none, 245, 2), (348, some 12, 231, 2), (351, none, 233, 1), (354, some 12, 222, 1)]
def ck_Md : List (Nat × Int32) := [(201, -2000000000), (275, 1103515245)]
def cl_Md : List (Nat × Int64) := [(93, 100), (95, 220), (97, 99), (110, 12), (112, 20), (118, 4), (140, 255), (195, 99999), (237, 2), (246, -9223372036854775808), (248, -2), (310, 7), (339, 5)]
def cs_Md : List (Nat × Nat) := []
def cx_Md : ACx := (cf_Md, cm_Md, ck_Md, cl_Md, cs_Md)
def cf_JI : List (Nat × Nat × Nat × Bool) := []
def cm_JI : List (Nat × Option Nat × Nat × Nat) := []
def ck_JI : List (Nat × Int32) := [(265, 1431655765), (266, 858993459), (267, 252645135)]
def cl_JI : List (Nat × Int64) := []
def cs_JI : List (Nat × Nat) := []
def cx_JI : ACx := (cf_JI, cm_JI, ck_JI, cl_JI, cs_JI)
def cf_JA : List (Nat × Nat × Nat × Bool) := []
def cm_JA : List (Nat × Option Nat × Nat × Nat) := [(13, none, 252, 3)]
def ck_JA : List (Nat × Int32) := []
def cl_JA : List (Nat × Int64) := []
def cs_JA : List (Nat × Nat) := []
def cx_JA : ACx := (cf_JA, cm_JA, ck_JA, cl_JA, cs_JA)
def cf_La : List (Nat × Nat × Nat × Bool) := []
def cm_La : List (Nat × Option Nat × Nat × Nat) := [(13, some 11, 109, 3), (17, some 12, 168, 3), (18, some 11, 110, 4), (22, some 12, 169, 4), (23, some 11, 112, 4), (26, some 12, 171, 4), (27, some 11, 113, 3), (30, some 12, 173, 3), (31, some 11, 114, 2), (35, some 12, 174, 2), (36, some 11, 115, 1), (40, some 12, 186, 1), (41, some 11, 116, 3), (44, some 12, 188, 3), (45, some 11, 117, 3), (48, some 12, 196, 3), (49, some 11, 118, 3), (52, some 12, 197, 3), (53, some 11, 119, 3), (56, some 12, 198, 3), (57, some 11, 120, 4), (61, some 12, 201, 4), (62, some 11, 122, 4), (65, some 12, 203, 4), (66, some 11, 123, 4), (69, some 12, 204, 4), (70, some 11, 124, 4), (73, some 12, 206, 4), (74, some 11, 125, 2), (77, some 12, 207, 2), (78, some 11, 126, 2), (81, some 12, 209, 2), (82, some 11, 127, 3), (85, some 12, 210, 3), (86, some 11, 128, 2), (89, some 12, 211, 2), (90, some 11, 129, 3), (93, some 12, 212, 3), (94, some 11, 130, 1), (97, some 12, 213, 1), (98, some 11, 131, 2), (101, some 12, 214, 2), (102, some 11, 132, 2), (105, some 12, 217, 2), (106, some 11, 133, 3), (109, some 12, 218, 3), (110, some 11, 134, 2), (113, some 12, 220, 2), (114, some 11, 135, 4), (117, some 12, 221, 4), (118, some 11, 137, 1), (121, some 12, 224, 1), (122, some 11, 138, 2), (125, some 12, 225, 2), (126, some 11, 139, 1), (129, some 12, 226, 1), (130, some 11, 140, 2), (133, some 12, 227, 2), (134, some 11, 141, 1), (137, some 12, 228, 1), (138, some 11, 142, 1), (141, some 12, 229, 1), (142, some 11, 143, 1), (145, some 12, 163, 1), (146, some 11, 144, 1), (149, some 12, 164, 1), (150, some 11, 145, 2), (153, some 12, 232, 2), (154, some 11, 146, 4), (157, some 12, 239, 4), (158, some 11, 147, 2), (161, some 12, 240, 2), (162, some 11, 148, 3), (165, some 12, 242, 3), (166, some 11, 149, 4), (169, some 12, 243, 4), (172, some 11, 150, 4), (176, some 12, 246, 4), (177, some 11, 151, 3), (181, some 12, 247, 3), (182, some 11, 152, 6), (186, some 12, 248, 6), (187, some 11, 153, 3), (190, some 12, 249, 3), (191, some 11, 154, 2), (194, some 12, 250, 2)]
def ck_La : List (Nat × Int32) := []
def cl_La : List (Nat × Int64) := [(170, 4294967295)]
def cs_La : List (Nat × Nat) := []
def cx_La : ACx := (cf_La, cm_La, ck_La, cl_La, cs_La)
abbrev m_Acts_isKind : AMeth := (y_Acts_isKind, prog_2_method_2_code, 1, (some .boolean), cx_Acts)
abbrev m_Acts_isUnder : AMeth := (y_Acts_isUnder, prog_2_method_3_code, 4, (some .boolean), cx_Acts)
abbrev m_Acts_size : AMeth := (y_Acts_size, prog_2_method_4_code, 1, (some .int), cx_Acts)
abbrev m_Acts_has : AMeth := (y_Acts_has, prog_2_method_5_code, 2, (some .boolean), cx_Acts)
abbrev m_Acts_kindOf : AMeth := (y_Acts_kindOf, prog_2_method_6_code, 2, (some .int), cx_Acts)
abbrev m_Acts_joins : AMeth := (y_Acts_joins, prog_2_method_7_code, 2, (some .int), cx_Acts)
abbrev m_Acts_ranLast : AMeth := (y_Acts_ranLast, prog_2_method_8_code, 1, (some .int), cx_Acts)
abbrev m_Acts_traced : AMeth := (y_Acts_traced, prog_2_method_9_code, 2, (some .int), cx_Acts)
abbrev m_Acts_does : AMeth := (y_Acts_does, prog_2_method_10_code, 4, (some .int), cx_Acts)
abbrev m_Acts_holder : AMeth := (y_Acts_holder, prog_2_method_11_code, 4, (some .int), cx_Acts)
abbrev m_Acts_notes : AMeth := (y_Acts_notes, prog_2_method_12_code, 2, none, cx_Acts)
abbrev m_Acts_plays : AMeth := (y_Acts_plays, prog_2_method_13_code, 9, (some .int), cx_Acts)
abbrev m_Changes_undoable : AMeth := (y_Changes_undoable, prog_3_method_2_code, 1, (some .int), cx_Changes)
abbrev m_Changes_redoable : AMeth := (y_Changes_redoable, prog_3_method_3_code, 1, (some .int), cx_Changes)
abbrev m_Changes_happens : AMeth := (y_Changes_happens, prog_3_method_4_code, 4, none, cx_Changes)
abbrev m_Changes_forgetsOldest : AMeth := (y_Changes_forgetsOldest, prog_3_method_5_code, 1, none, cx_Changes)
abbrev m_Changes_undoes : AMeth := (y_Changes_undoes, prog_3_method_6_code, 1, (some .int), cx_Changes)
abbrev m_Changes_redoes : AMeth := (y_Changes_redoes, prog_3_method_7_code, 1, (some .int), cx_Changes)
abbrev m_Crowd_isNumber : AMeth := (y_Crowd_isNumber, prog_4_method_2_code, 1, (some .boolean), cx_Crowd)
abbrev m_Crowd_fits : AMeth := (y_Crowd_fits, prog_4_method_3_code, 2, (some .boolean), cx_Crowd)
abbrev m_Crowd_size : AMeth := (y_Crowd_size, prog_4_method_4_code, 1, (some .int), cx_Crowd)
abbrev m_Crowd_has : AMeth := (y_Crowd_has, prog_4_method_5_code, 2, (some .boolean), cx_Crowd)
abbrev m_Crowd_everyone : AMeth := (y_Crowd_everyone, prog_4_method_6_code, 1, (some .int), cx_Crowd)
abbrev m_Crowd_number : AMeth := (y_Crowd_number, prog_4_method_7_code, 3, (some .int), cx_Crowd)
abbrev m_Crowd_setNumber : AMeth := (y_Crowd_setNumber, prog_4_method_8_code, 4, none, cx_Crowd)
abbrev m_Crowd_joins : AMeth := (y_Crowd_joins, prog_4_method_9_code, 5, (some .int), cx_Crowd)
abbrev m_Crowd_shrinks : AMeth := (y_Crowd_shrinks, prog_4_method_10_code, 2, none, cx_Crowd)
abbrev m_Crowd_becomes : AMeth := (y_Crowd_becomes, prog_4_method_11_code, 2, none, cx_Crowd)
abbrev m_Crowd_waiting : AMeth := (y_Crowd_waiting, prog_4_method_12_code, 3, (some .int), cx_Crowd)
abbrev m_Crowd_thereAt : AMeth := (y_Crowd_thereAt, prog_4_method_13_code, 5, (some .int), cx_Crowd)
abbrev m_Crowd_comeBy : AMeth := (y_Crowd_comeBy, prog_4_method_14_code, 4, (some .int), cx_Crowd)
abbrev m_Crowd_priceOf : AMeth := (y_Crowd_priceOf, prog_4_method_15_code, 4, (some .int), cx_Crowd)
abbrev m_Day_who : AMeth := (y_Day_who, prog_5_method_2_code, 1, (some (.object "MiddleOne$Crowd")), cx_Day)
abbrev m_Day_begins : AMeth := (y_Day_begins, prog_5_method_3_code, 2, none, cx_Day)
abbrev m_Day_again : AMeth := (y_Day_again, prog_5_method_4_code, 2, none, cx_Day)
abbrev m_Day_againWith : AMeth := (y_Day_againWith, prog_5_method_5_code, 4, none, cx_Day)
abbrev m_Day_opens : AMeth := (y_Day_opens, prog_5_method_6_code, 6, (some .int), cx_Day)
abbrev m_Day_passes : AMeth := (y_Day_passes, prog_5_method_7_code, 2, (some .int), cx_Day)
abbrev m_Day_runs : AMeth := (y_Day_runs, prog_5_method_8_code, 4, (some .int), cx_Day)
abbrev m_Day_till : AMeth := (y_Day_till, prog_5_method_9_code, 5, (some .int), cx_Day)
abbrev m_Day_twoGates : AMeth := (y_Day_twoGates, prog_5_method_10_code, 4, (some .int), cx_Day)
abbrev m_Day_allAreIn : AMeth := (y_Day_allAreIn, prog_5_method_11_code, 1, (some .boolean), cx_Day)
abbrev m_Day_stillOutside : AMeth := (y_Day_stillOutside, prog_5_method_12_code, 1, (some .int), cx_Day)
abbrev m_Day_inSince : AMeth := (y_Day_inSince, prog_5_method_13_code, 2, (some .int), cx_Day)
abbrev m_Day_waitedLast : AMeth := (y_Day_waitedLast, prog_5_method_14_code, 1, (some .int), cx_Day)
abbrev m_Day_mostWaited : AMeth := (y_Day_mostWaited, prog_5_method_15_code, 1, (some .int), cx_Day)
abbrev m_Day_wentWithout : AMeth := (y_Day_wentWithout, prog_5_method_16_code, 5, (some .int), cx_Day)
abbrev m_Day_waitsWithin : AMeth := (y_Day_waitsWithin, prog_5_method_17_code, 3, (some .int), cx_Day)
abbrev m_Day_heightsWithin : AMeth := (y_Day_heightsWithin, prog_5_method_18_code, 3, (some .int), cx_Day)
abbrev m_Day_lastIn : AMeth := (y_Day_lastIn, prog_5_method_19_code, 3, (some .int), cx_Day)
abbrev m_Deed_leads : AMeth := (y_Deed_leads, prog_6_method_2_code, 2, (some .int), cx_Deed)
abbrev m_Deed_waitingNow : AMeth := (y_Deed_waitingNow, prog_6_method_3_code, 1, (some .int), cx_Deed)
abbrev m_Deed_numberIn : AMeth := (y_Deed_numberIn, prog_6_method_4_code, 1, (some .int), cx_Deed)
abbrev m_Deed_inSince : AMeth := (y_Deed_inSince, prog_6_method_5_code, 2, (some .int), cx_Deed)
abbrev m_Deed_opensNow : AMeth := (y_Deed_opensNow, prog_6_method_6_code, 3, (some .int), cx_Deed)
abbrev m_Deed_sendsAway : AMeth := (y_Deed_sendsAway, prog_6_method_7_code, 2, (some .int), cx_Deed)
abbrev m_Deed_dawns : AMeth := (y_Deed_dawns, prog_6_method_8_code, 2, (some .int), cx_Deed)
abbrev m_Deed_hasImage : AMeth := (y_Deed_hasImage, prog_6_method_9_code, 1, (some .boolean), cx_Deed)
abbrev m_Deed_keepsImage : AMeth := (y_Deed_keepsImage, prog_6_method_10_code, 1, (some .int), cx_Deed)
abbrev m_Deed_laysBack : AMeth := (y_Deed_laysBack, prog_6_method_11_code, 1, (some .int), cx_Deed)
abbrev m_Law_learns : AMeth := (y_Law_learns, prog_7_method_2_code, 2, none, cx_Law)
abbrev m_Law_tallness : AMeth := (y_Law_tallness, prog_7_method_3_code, 10, (some .int), cx_Law)
abbrev m_Law_joined : AMeth := (y_Law_joined, prog_7_method_4_code, 3, (some .int), cx_Law)
abbrev m_Picker_picks : AMeth := (y_Picker_picks, prog_8_method_2_code, 11, (some .int), cx_Picker)
abbrev m_Reader_isFull : AMeth := (y_Reader_isFull, prog_9_method_2_code, 1, (some .boolean), cx_Reader)
abbrev m_Reader_size : AMeth := (y_Reader_size, prog_9_method_3_code, 1, (some .int), cx_Reader)
abbrev m_Reader_takes : AMeth := (y_Reader_takes, prog_9_method_4_code, 2, (some .int), cx_Reader)
abbrev m_Reader_clears : AMeth := (y_Reader_clears, prog_9_method_5_code, 1, none, cx_Reader)
abbrev m_Reader_faultOfText : AMeth := (y_Reader_faultOfText, prog_9_method_6_code, 2, (some .int), cx_Reader)
abbrev m_Reader_copySteps : AMeth := (y_Reader_copySteps, prog_9_method_7_code, 4, (some .int), cx_Reader)
abbrev m_Reader_reads : AMeth := (y_Reader_reads, prog_9_method_8_code, 2, (some .boolean), cx_Reader)
abbrev m_Reader_layer : AMeth := (y_Reader_layer, prog_9_method_9_code, 6, (some .boolean), cx_Reader)
abbrev m_Reader_operand : AMeth := (y_Reader_operand, prog_9_method_10_code, 3, (some .boolean), cx_Reader)
abbrev m_Reader_digits : AMeth := (y_Reader_digits, prog_9_method_11_code, 3, (some .boolean), cx_Reader)
abbrev m_Reader_sign : AMeth := (y_Reader_sign, prog_9_method_12_code, 1, (some .int), cx_Reader)
abbrev m_Reader_makes : AMeth := (y_Reader_makes, prog_9_method_13_code, 3, none, cx_Reader)
abbrev m_Reader_isDigit : AMeth := (y_Reader_isDigit, prog_9_method_14_code, 1, (some .boolean), cx_Reader)
abbrev m_Reader_isName : AMeth := (y_Reader_isName, prog_9_method_15_code, 1, (some .boolean), cx_Reader)
abbrev m_Reader_rankOf : AMeth := (y_Reader_rankOf, prog_9_method_16_code, 1, (some .int), cx_Reader)
abbrev m_Seen_firstUnlike : AMeth := (y_Seen_firstUnlike, prog_10_method_2_code, 2, (some .int), cx_Seen)
abbrev m_Seen_goesOnUnlike : AMeth := (y_Seen_goesOnUnlike, prog_10_method_3_code, 4, (some .int), cx_Seen)
abbrev m_Seen_setsThatFit : AMeth := (y_Seen_setsThatFit, prog_10_method_4_code, 6, (some .int), cx_Seen)
abbrev m_Seen_leastHeeled : AMeth := (y_Seen_leastHeeled, prog_10_method_5_code, 6, (some .int), cx_Seen)
abbrev m_Seen_drawnDays : AMeth := (y_Seen_drawnDays, prog_10_method_6_code, 8, (some .int), cx_Seen)
abbrev m_Shelves_isShelf : AMeth := (y_Shelves_isShelf, prog_11_method_2_code, 1, (some .boolean), cx_Shelves)
abbrev m_Shelves_isBare : AMeth := (y_Shelves_isBare, prog_11_method_3_code, 2, (some .boolean), cx_Shelves)
abbrev m_Shelves_bodyOn : AMeth := (y_Shelves_bodyOn, prog_11_method_4_code, 2, (some .int), cx_Shelves)
abbrev m_Shelves_holdsRow : AMeth := (y_Shelves_holdsRow, prog_11_method_5_code, 3, (some .boolean), cx_Shelves)
abbrev m_Shelves_holdsLikeRows : AMeth := (y_Shelves_holdsLikeRows, prog_11_method_6_code, 3, (some .boolean), cx_Shelves)
abbrev m_Shelves_sizeOf : AMeth := (y_Shelves_sizeOf, prog_11_method_7_code, 2, (some .int), cx_Shelves)
abbrev m_Shelves_isPlace : AMeth := (y_Shelves_isPlace, prog_11_method_8_code, 3, (some .boolean), cx_Shelves)
abbrev m_Shelves_isSpan : AMeth := (y_Shelves_isSpan, prog_11_method_9_code, 5, (some .boolean), cx_Shelves)
abbrev m_Shelves_holds : AMeth := (y_Shelves_holds, prog_11_method_10_code, 3, none, cx_Shelves)
abbrev m_Shelves_lays : AMeth := (y_Shelves_lays, prog_11_method_11_code, 4, none, cx_Shelves)
abbrev m_Shelves_cell : AMeth := (y_Shelves_cell, prog_11_method_12_code, 3, (some .long), cx_Shelves)
abbrev m_Shelves_sets : AMeth := (y_Shelves_sets, prog_11_method_13_code, 5, none, cx_Shelves)
abbrev m_Shelves_narrowed : AMeth := (y_Shelves_narrowed, prog_11_method_14_code, 3, (some .long), cx_Shelves)
abbrev m_Shelves_moves : AMeth := (y_Shelves_moves, prog_11_method_15_code, 6, none, cx_Shelves)
abbrev m_Wishes_sentAway : AMeth := (y_Wishes_sentAway, prog_12_method_2_code, 11, (some .int), cx_Wishes)
abbrev m_Wishes_isBetter : AMeth := (y_Wishes_isBetter, prog_12_method_3_code, 4, (some .boolean), cx_Wishes)
abbrev m_Wishes_boysFor : AMeth := (y_Wishes_boysFor, prog_12_method_4_code, 6, (some .int), cx_Wishes)
abbrev m_Wishes_heightOfBoys : AMeth := (y_Wishes_heightOfBoys, prog_12_method_5_code, 10, (some .int), cx_Wishes)
abbrev m_Wishes_heelsFor : AMeth := (y_Wishes_heelsFor, prog_12_method_6_code, 10, (some .int), cx_Wishes)
abbrev m_Wishes_comesBest : AMeth := (y_Wishes_comesBest, prog_12_method_7_code, 6, (some .int), cx_Wishes)
abbrev m_Wishes_allChoose : AMeth := (y_Wishes_allChoose, prog_12_method_8_code, 8, (some .int), cx_Wishes)
abbrev m_Wishes_earliestHeels : AMeth := (y_Wishes_earliestHeels, prog_12_method_9_code, 6, (some .int), cx_Wishes)
abbrev m_Wishes_betterGate : AMeth := (y_Wishes_betterGate, prog_12_method_10_code, 4, (some .int), cx_Wishes)
abbrev m_Wishes_fullestSet : AMeth := (y_Wishes_fullestSet, prog_12_method_11_code, 7, (some .int), cx_Wishes)
abbrev m_Wishes_placeForAll : AMeth := (y_Wishes_placeForAll, prog_12_method_12_code, 3, (some .int), cx_Wishes)
abbrev m_Mo_person : AMeth := (y_Mo_person, prog_1_method_2_code, 3, (some .int), cx_Mo)
abbrev m_Mo_people : AMeth := (y_Mo_people, prog_1_method_3_code, 4, (some .int), cx_Mo)
abbrev m_Mo_joinFromRow : AMeth := (y_Mo_joinFromRow, prog_1_method_4_code, 10, (some .int), cx_Mo)
abbrev m_Mo_mend : AMeth := (y_Mo_mend, prog_1_method_5_code, 5, (some .int), cx_Mo)
abbrev m_Mo_of : AMeth := (y_Mo_of, prog_1_method_6_code, 3, (some .int), cx_Mo)
abbrev m_Mo_feed : AMeth := (y_Mo_feed, prog_1_method_7_code, 2, (some .int), cx_Mo)
abbrev m_Mo_law : AMeth := (y_Mo_law, prog_1_method_8_code, 2, (some .int), cx_Mo)
abbrev m_Mo_tall : AMeth := (y_Mo_tall, prog_1_method_9_code, 3, (some .int), cx_Mo)
abbrev m_Mo_enters : AMeth := (y_Mo_enters, prog_1_method_10_code, 3, (some .int), cx_Mo)
abbrev m_Mo_stroke : AMeth := (y_Mo_stroke, prog_1_method_11_code, 4, (some .int), cx_Mo)
abbrev m_Mo_day : AMeth := (y_Mo_day, prog_1_method_12_code, 4, (some .int), cx_Mo)
abbrev m_Mo_mean : AMeth := (y_Mo_mean, prog_1_method_13_code, 7, (some .long), cx_Mo)
abbrev m_Mo_sharedDivisor : AMeth := (y_Mo_sharedDivisor, prog_1_method_14_code, 6, (some .int), cx_Mo)
abbrev m_Mo_sent : AMeth := (y_Mo_sent, prog_1_method_15_code, 4, (some .int), cx_Mo)
abbrev m_Mo_brought : AMeth := (y_Mo_brought, prog_1_method_16_code, 4, (some .int), cx_Mo)
abbrev m_Mo_heels : AMeth := (y_Mo_heels, prog_1_method_17_code, 4, (some .int), cx_Mo)
abbrev m_Mo_later : AMeth := (y_Mo_later, prog_1_method_18_code, 2, (some .int), cx_Mo)
abbrev m_Mo_allWear : AMeth := (y_Mo_allWear, prog_1_method_19_code, 2, (some .int), cx_Mo)
abbrev m_Mo_gates : AMeth := (y_Mo_gates, prog_1_method_20_code, 4, (some .int), cx_Mo)
abbrev m_Mo_where : AMeth := (y_Mo_where, prog_1_method_21_code, 2, (some .int), cx_Mo)
abbrev m_Mo_bestSet : AMeth := (y_Mo_bestSet, prog_1_method_22_code, 3, (some .int), cx_Mo)
abbrev m_Mo_atLast : AMeth := (y_Mo_atLast, prog_1_method_23_code, 1, (some .int), cx_Mo)
abbrev m_Mo_rule : AMeth := (y_Mo_rule, prog_1_method_24_code, 2, (some .int), cx_Mo)
abbrev m_Mo_judge : AMeth := (y_Mo_judge, prog_1_method_25_code, 3, (some .int), cx_Mo)
abbrev m_Mo_with : AMeth := (y_Mo_with, prog_1_method_26_code, 4, (some .int), cx_Mo)
abbrev m_Mo_heeled : AMeth := (y_Mo_heeled, prog_1_method_27_code, 3, (some .int), cx_Mo)
abbrev m_Mo_drawn : AMeth := (y_Mo_drawn, prog_1_method_28_code, 4, (some .int), cx_Mo)
abbrev m_Mo_refusedAsSeen : AMeth := (y_Mo_refusedAsSeen, prog_1_method_29_code, 2, (some .int), cx_Mo)
abbrev m_Mo_strike : AMeth := (y_Mo_strike, prog_1_method_30_code, 2, (some .int), cx_Mo)
abbrev m_Mo_take : AMeth := (y_Mo_take, prog_1_method_31_code, 2, (some .int), cx_Mo)
abbrev m_Mo_dawn : AMeth := (y_Mo_dawn, prog_1_method_32_code, 1, (some .int), cx_Mo)
abbrev m_Mo_led : AMeth := (y_Mo_led, prog_1_method_33_code, 2, (some .int), cx_Mo)
abbrev m_Mo_image : AMeth := (y_Mo_image, prog_1_method_34_code, 1, (some .int), cx_Mo)
abbrev m_Mo_back : AMeth := (y_Mo_back, prog_1_method_35_code, 1, (some .int), cx_Mo)
abbrev m_Mo_undo : AMeth := (y_Mo_undo, prog_1_method_36_code, 1, (some .int), cx_Mo)
abbrev m_Mo_redo : AMeth := (y_Mo_redo, prog_1_method_37_code, 1, (some .int), cx_Mo)
abbrev m_Mo_body : AMeth := (y_Mo_body, prog_1_method_38_code, 2, (some .int), cx_Mo)
abbrev m_Mo_act : AMeth := (y_Mo_act, prog_1_method_39_code, 4, (some .int), cx_Mo)
abbrev m_Mo_trace : AMeth := (y_Mo_trace, prog_1_method_40_code, 2, (some .int), cx_Mo)
abbrev m_Mo_keep : AMeth := (y_Mo_keep, prog_1_method_41_code, 3, (some .int), cx_Mo)
abbrev m_Mo_row : AMeth := (y_Mo_row, prog_1_method_42_code, 4, (some .int), cx_Mo)
abbrev m_Mo_put : AMeth := (y_Mo_put, prog_1_method_43_code, 6, (some .int), cx_Mo)
abbrev m_Mo_element : AMeth := (y_Mo_element, prog_1_method_44_code, 3, (some .long), cx_Mo)
abbrev m_Mo_shift : AMeth := (y_Mo_shift, prog_1_method_45_code, 6, (some .int), cx_Mo)
abbrev m_Mo_taken : AMeth := (y_Mo_taken, prog_1_method_46_code, 4, (some .int), cx_Mo)
abbrev m_Mo_count : AMeth := (y_Mo_count, prog_1_method_47_code, 2, (some .int), cx_Mo)
abbrev m_Mo_refusedAsRow : AMeth := (y_Mo_refusedAsRow, prog_1_method_48_code, 2, (some .int), cx_Mo)
abbrev m_Mo_isOneOrAll : AMeth := (y_Mo_isOneOrAll, prog_1_method_49_code, 2, (some .boolean), cx_Mo)
abbrev m_Mo_isDay : AMeth := (y_Mo_isDay, prog_1_method_50_code, 1, (some .boolean), cx_Mo)
abbrev m_Mo_isEither : AMeth := (y_Mo_isEither, prog_1_method_51_code, 1, (some .boolean), cx_Mo)
abbrev m_Md_within : AMeth := (y_Md_within, prog_14_method_1_code, 6, (some .boolean), cx_Md)
abbrev m_Md_isIn : AMeth := (y_Md_isIn, prog_14_method_2_code, 2, (some .boolean), cx_Md)
abbrev m_Md_bitsOf : AMeth := (y_Md_bitsOf, prog_14_method_3_code, 3, (some .int), cx_Md)
abbrev m_Md_becomes : AMeth := (y_Md_becomes, prog_14_method_5_code, 5, (some .int), cx_Md)
abbrev m_Md_undo : AMeth := (y_Md_undo, prog_14_method_6_code, 1, (some .int), cx_Md)
abbrev m_Md_redo : AMeth := (y_Md_redo, prog_14_method_7_code, 1, (some .int), cx_Md)
abbrev m_Md_isOne : AMeth := (y_Md_isOne, prog_14_method_8_code, 3, (some .boolean), cx_Md)
abbrev m_Md_mayCome : AMeth := (y_Md_mayCome, prog_14_method_9_code, 6, (some .boolean), cx_Md)
abbrev m_Md_puts : AMeth := (y_Md_puts, prog_14_method_10_code, 5, none, cx_Md)
abbrev m_Md_person : AMeth := (y_Md_person, prog_14_method_11_code, 3, (some .int), cx_Md)
abbrev m_Md_people : AMeth := (y_Md_people, prog_14_method_12_code, 7, (some .int), cx_Md)
abbrev m_Md_mayBecome : AMeth := (y_Md_mayBecome, prog_14_method_13_code, 2, (some .boolean), cx_Md)
abbrev m_Md_mend : AMeth := (y_Md_mend, prog_14_method_14_code, 4, (some .int), cx_Md)
abbrev m_Md_waitsNow : AMeth := (y_Md_waitsNow, prog_14_method_15_code, 3, (some .boolean), cx_Md)
abbrev m_Md_of : AMeth := (y_Md_of, prog_14_method_16_code, 3, (some .int), cx_Md)
abbrev m_Md_feed : AMeth := (y_Md_feed, prog_14_method_17_code, 2, (some .int), cx_Md)
abbrev m_Md_byteAt : AMeth := (y_Md_byteAt, prog_14_method_18_code, 1, (some .int), cx_Md)
abbrev m_Md_wrong : AMeth := (y_Md_wrong, prog_14_method_19_code, 1, (some .int), cx_Md)
abbrev m_Md_takes : AMeth := (y_Md_takes, prog_14_method_20_code, 2, (some .boolean), cx_Md)
abbrev m_Md_either : AMeth := (y_Md_either, prog_14_method_21_code, 3, (some .int), cx_Md)
abbrev m_Md_both : AMeth := (y_Md_both, prog_14_method_22_code, 3, (some .int), cx_Md)
abbrev m_Md_compared : AMeth := (y_Md_compared, prog_14_method_23_code, 4, (some .int), cx_Md)
abbrev m_Md_sums : AMeth := (y_Md_sums, prog_14_method_24_code, 4, (some .int), cx_Md)
abbrev m_Md_product : AMeth := (y_Md_product, prog_14_method_25_code, 4, (some .int), cx_Md)
abbrev m_Md_nameOf : AMeth := (y_Md_nameOf, prog_14_method_26_code, 1, (some .int), cx_Md)
abbrev m_Md_one : AMeth := (y_Md_one, prog_14_method_27_code, 5, (some .int), cx_Md)
abbrev m_Md_workOut : AMeth := (y_Md_workOut, prog_14_method_28_code, 8, (some .int), cx_Md)
abbrev m_Md_law : AMeth := (y_Md_law, prog_14_method_29_code, 4, (some .int), cx_Md)
abbrev m_Md_tallAt : AMeth := (y_Md_tallAt, prog_14_method_30_code, 5, (some .int), cx_Md)
abbrev m_Md_tall : AMeth := (y_Md_tall, prog_14_method_31_code, 3, (some .int), cx_Md)
abbrev m_Md_begins1 : AMeth := (y_Md_begins1, prog_14_method_32_code, 2, none, cx_Md)
abbrev m_Md_asksWaiting : AMeth := (y_Md_asksWaiting, prog_14_method_33_code, 6, none, cx_Md)
abbrev m_Md_atPlace : AMeth := (y_Md_atPlace, prog_14_method_34_code, 5, (some .int), cx_Md)
abbrev m_Md_strokes : AMeth := (y_Md_strokes, prog_14_method_35_code, 5, (some .int), cx_Md)
abbrev m_Md_goes : AMeth := (y_Md_goes, prog_14_method_36_code, 3, none, cx_Md)
abbrev m_Md_isN : AMeth := (y_Md_isN, prog_14_method_37_code, 1, (some .boolean), cx_Md)
abbrev m_Md_inMany : AMeth := (y_Md_inMany, prog_14_method_38_code, 3, (some .int), cx_Md)
abbrev m_Md_enters : AMeth := (y_Md_enters, prog_14_method_39_code, 3, (some .int), cx_Md)
abbrev m_Md_stroke : AMeth := (y_Md_stroke, prog_14_method_40_code, 5, (some .int), cx_Md)
abbrev m_Md_day : AMeth := (y_Md_day, prog_14_method_41_code, 5, (some .int), cx_Md)
abbrev m_Md_commonOf : AMeth := (y_Md_commonOf, prog_14_method_42_code, 10, (some .long), cx_Md)
abbrev m_Md_partOf : AMeth := (y_Md_partOf, prog_14_method_43_code, 7, (some .long), cx_Md)
abbrev m_Md_mean : AMeth := (y_Md_mean, prog_14_method_44_code, 7, (some .long), cx_Md)
abbrev m_Md_priceOf : AMeth := (y_Md_priceOf, prog_14_method_45_code, 4, (some .int), cx_Md)
abbrev m_Md_sent : AMeth := (y_Md_sent, prog_14_method_46_code, 8, (some .int), cx_Md)
abbrev m_Md_brought : AMeth := (y_Md_brought, prog_14_method_47_code, 7, (some .int), cx_Md)
abbrev m_Md_wearing : AMeth := (y_Md_wearing, prog_14_method_48_code, 6, (some .int), cx_Md)
abbrev m_Md_heels : AMeth := (y_Md_heels, prog_14_method_49_code, 10, (some .int), cx_Md)
abbrev m_Md_later : AMeth := (y_Md_later, prog_14_method_50_code, 8, (some .int), cx_Md)
abbrev m_Md_chooses : AMeth := (y_Md_chooses, prog_14_method_51_code, 6, (some .int), cx_Md)
abbrev m_Md_allWear : AMeth := (y_Md_allWear, prog_14_method_52_code, 6, (some .int), cx_Md)
abbrev m_Md_gates : AMeth := (y_Md_gates, prog_14_method_53_code, 3, (some .int), cx_Md)
abbrev m_Md_where : AMeth := (y_Md_where, prog_14_method_54_code, 4, (some .int), cx_Md)
abbrev m_Md_bestSet : AMeth := (y_Md_bestSet, prog_14_method_55_code, 6, (some .int), cx_Md)
abbrev m_Md_atLast : AMeth := (y_Md_atLast, prog_14_method_56_code, 3, (some .int), cx_Md)
abbrev m_Md_rule : AMeth := (y_Md_rule, prog_14_method_57_code, 4, (some .int), cx_Md)
abbrev m_Md_bytesIs : AMeth := (y_Md_bytesIs, prog_14_method_58_code, 2, (some .int), cx_Md)
abbrev m_Md_firstFalse : AMeth := (y_Md_firstFalse, prog_14_method_59_code, 4, (some .int), cx_Md)
abbrev m_Md_judge : AMeth := (y_Md_judge, prog_14_method_60_code, 2, (some .int), cx_Md)
abbrev m_Md_with : AMeth := (y_Md_with, prog_14_method_61_code, 6, (some .int), cx_Md)
abbrev m_Md_wears : AMeth := (y_Md_wears, prog_14_method_62_code, 4, none, cx_Md)
abbrev m_Md_heeled : AMeth := (y_Md_heeled, prog_14_method_63_code, 4, (some .int), cx_Md)
abbrev m_Md_drawn : AMeth := (y_Md_drawn, prog_14_method_64_code, 8, (some .int), cx_Md)
abbrev m_Md_waitMany : AMeth := (y_Md_waitMany, prog_14_method_65_code, 3, (some .int), cx_Md)
abbrev m_Md_insideMany : AMeth := (y_Md_insideMany, prog_14_method_66_code, 3, (some .int), cx_Md)
abbrev m_Md_strike : AMeth := (y_Md_strike, prog_14_method_67_code, 2, (some .int), cx_Md)
abbrev m_Md_take : AMeth := (y_Md_take, prog_14_method_68_code, 2, (some .int), cx_Md)
abbrev m_Md_dawn : AMeth := (y_Md_dawn, prog_14_method_69_code, 3, (some .int), cx_Md)
abbrev m_Md_led : AMeth := (y_Md_led, prog_14_method_70_code, 2, (some .int), cx_Md)
abbrev m_Md_image : AMeth := (y_Md_image, prog_14_method_71_code, 2, (some .int), cx_Md)
abbrev m_Md_back : AMeth := (y_Md_back, prog_14_method_72_code, 2, (some .int), cx_Md)
abbrev m_Md_isBody : AMeth := (y_Md_isBody, prog_14_method_73_code, 2, (some .boolean), cx_Md)
abbrev m_Md_kindOf : AMeth := (y_Md_kindOf, prog_14_method_74_code, 2, (some .int), cx_Md)
abbrev m_Md_body : AMeth := (y_Md_body, prog_14_method_75_code, 2, (some .int), cx_Md)
abbrev m_Md_above : AMeth := (y_Md_above, prog_14_method_76_code, 1, (some .int), cx_Md)
abbrev m_Md_begins : AMeth := (y_Md_begins, prog_14_method_77_code, 2, none, cx_Md)
abbrev m_Md_waitsAs : AMeth := (y_Md_waitsAs, prog_14_method_78_code, 3, (some .int), cx_Md)
abbrev m_Md_countsAs : AMeth := (y_Md_countsAs, prog_14_method_79_code, 4, (some .int), cx_Md)
abbrev m_Md_opensAs : AMeth := (y_Md_opensAs, prog_14_method_80_code, 4, (some .int), cx_Md)
abbrev m_Md_tellsAs : AMeth := (y_Md_tellsAs, prog_14_method_81_code, 4, (some .int), cx_Md)
abbrev m_Md_act : AMeth := (y_Md_act, prog_14_method_82_code, 4, (some .int), cx_Md)
abbrev m_Md_trace : AMeth := (y_Md_trace, prog_14_method_83_code, 2, (some .int), cx_Md)
abbrev m_Md_isShelf : AMeth := (y_Md_isShelf, prog_14_method_84_code, 1, (some .boolean), cx_Md)
abbrev m_Md_keep : AMeth := (y_Md_keep, prog_14_method_85_code, 3, (some .int), cx_Md)
abbrev m_Md_row : AMeth := (y_Md_row, prog_14_method_86_code, 5, (some .int), cx_Md)
abbrev m_Md_refusal : AMeth := (y_Md_refusal, prog_14_method_87_code, 3, (some .int), cx_Md)
abbrev m_Md_asSort : AMeth := (y_Md_asSort, prog_14_method_88_code, 3, (some .long), cx_Md)
abbrev m_Md_put : AMeth := (y_Md_put, prog_14_method_89_code, 6, (some .int), cx_Md)
abbrev m_Md_element : AMeth := (y_Md_element, prog_14_method_90_code, 3, (some .long), cx_Md)
abbrev m_Md_shift : AMeth := (y_Md_shift, prog_14_method_91_code, 7, (some .int), cx_Md)
abbrev m_Md_taken : AMeth := (y_Md_taken, prog_14_method_92_code, 4, (some .int), cx_Md)
abbrev m_Md_count : AMeth := (y_Md_count, prog_14_method_93_code, 2, (some .int), cx_Md)
abbrev m_J_bitCount : AMeth := (y_J_bitCount, prog_15_method_49_code, 1, (some .int), cx_JI)
abbrev m_J_rangeCheck : AMeth := (y_J_rangeCheck, prog_18_method_30_code, 3, none, cx_JA)
abbrev m_J_fillL : AMeth := (y_J_fillL, prog_18_method_102_code, 6, none, cx_JA)
abbrev m_J_fillI : AMeth := (y_J_fillI, prog_18_method_103_code, 4, none, cx_JA)
def gM : List AMeth := [m_Acts_isKind, m_Acts_isUnder, m_Acts_size, m_Acts_has, m_Acts_kindOf, m_Acts_joins, m_Acts_ranLast, m_Acts_traced, m_Acts_does, m_Acts_holder, m_Acts_notes, m_Acts_plays, m_Changes_undoable, m_Changes_redoable, m_Changes_happens, m_Changes_forgetsOldest, m_Changes_undoes, m_Changes_redoes, m_Crowd_isNumber, m_Crowd_fits, m_Crowd_size, m_Crowd_has, m_Crowd_everyone, m_Crowd_number, m_Crowd_setNumber, m_Crowd_joins, m_Crowd_shrinks, m_Crowd_becomes, m_Crowd_waiting, m_Crowd_thereAt, m_Crowd_comeBy, m_Crowd_priceOf, m_Day_who, m_Day_begins, m_Day_again, m_Day_againWith, m_Day_opens, m_Day_passes, m_Day_runs, m_Day_till, m_Day_twoGates, m_Day_allAreIn, m_Day_stillOutside, m_Day_inSince, m_Day_waitedLast, m_Day_mostWaited, m_Day_wentWithout, m_Day_waitsWithin, m_Day_heightsWithin, m_Day_lastIn, m_Deed_leads, m_Deed_waitingNow, m_Deed_numberIn, m_Deed_inSince, m_Deed_opensNow, m_Deed_sendsAway, m_Deed_dawns, m_Deed_hasImage, m_Deed_keepsImage, m_Deed_laysBack, m_Law_learns, m_Law_tallness, m_Law_joined, m_Picker_picks, m_Reader_isFull, m_Reader_size, m_Reader_takes, m_Reader_clears, m_Reader_faultOfText, m_Reader_copySteps, m_Reader_reads, m_Reader_layer, m_Reader_operand, m_Reader_digits, m_Reader_sign, m_Reader_makes, m_Reader_isDigit, m_Reader_isName, m_Reader_rankOf, m_Seen_firstUnlike, m_Seen_goesOnUnlike, m_Seen_setsThatFit, m_Seen_leastHeeled, m_Seen_drawnDays, m_Shelves_isShelf, m_Shelves_isBare, m_Shelves_bodyOn, m_Shelves_holdsRow, m_Shelves_holdsLikeRows, m_Shelves_sizeOf, m_Shelves_isPlace, m_Shelves_isSpan, m_Shelves_holds, m_Shelves_lays, m_Shelves_cell, m_Shelves_sets, m_Shelves_narrowed, m_Shelves_moves, m_Wishes_sentAway, m_Wishes_isBetter, m_Wishes_boysFor, m_Wishes_heightOfBoys, m_Wishes_heelsFor, m_Wishes_comesBest, m_Wishes_allChoose, m_Wishes_earliestHeels, m_Wishes_betterGate, m_Wishes_fullestSet, m_Wishes_placeForAll, m_Mo_person, m_Mo_people, m_Mo_joinFromRow, m_Mo_mend, m_Mo_of, m_Mo_feed, m_Mo_law, m_Mo_tall, m_Mo_enters, m_Mo_stroke, m_Mo_day, m_Mo_mean, m_Mo_sharedDivisor, m_Mo_sent, m_Mo_brought, m_Mo_heels, m_Mo_later, m_Mo_allWear, m_Mo_gates, m_Mo_where, m_Mo_bestSet, m_Mo_atLast, m_Mo_rule, m_Mo_judge, m_Mo_with, m_Mo_heeled, m_Mo_drawn, m_Mo_refusedAsSeen, m_Mo_strike, m_Mo_take, m_Mo_dawn, m_Mo_led, m_Mo_image, m_Mo_back, m_Mo_undo, m_Mo_redo, m_Mo_body, m_Mo_act, m_Mo_trace, m_Mo_keep, m_Mo_row, m_Mo_put, m_Mo_element, m_Mo_shift, m_Mo_taken, m_Mo_count, m_Mo_refusedAsRow, m_Mo_isOneOrAll, m_Mo_isDay, m_Mo_isEither, m_Md_within, m_Md_isIn, m_Md_bitsOf, m_Md_becomes, m_Md_undo, m_Md_redo, m_Md_isOne, m_Md_mayCome, m_Md_puts, m_Md_person, m_Md_people, m_Md_mayBecome, m_Md_mend, m_Md_waitsNow, m_Md_of, m_Md_feed, m_Md_byteAt, m_Md_wrong, m_Md_takes, m_Md_either, m_Md_both, m_Md_compared, m_Md_sums, m_Md_product, m_Md_nameOf, m_Md_one, m_Md_workOut, m_Md_law, m_Md_tallAt, m_Md_tall, m_Md_begins1, m_Md_asksWaiting, m_Md_atPlace, m_Md_strokes, m_Md_goes, m_Md_isN, m_Md_inMany, m_Md_enters, m_Md_stroke, m_Md_day, m_Md_commonOf, m_Md_partOf, m_Md_mean, m_Md_priceOf, m_Md_sent, m_Md_brought, m_Md_wearing, m_Md_heels, m_Md_later, m_Md_chooses, m_Md_allWear, m_Md_gates, m_Md_where, m_Md_bestSet, m_Md_atLast, m_Md_rule, m_Md_bytesIs, m_Md_firstFalse, m_Md_judge, m_Md_with, m_Md_wears, m_Md_heeled, m_Md_drawn, m_Md_waitMany, m_Md_insideMany, m_Md_strike, m_Md_take, m_Md_dawn, m_Md_led, m_Md_image, m_Md_back, m_Md_isBody, m_Md_kindOf, m_Md_body, m_Md_above, m_Md_begins, m_Md_waitsAs, m_Md_countsAs, m_Md_opensAs, m_Md_tellsAs, m_Md_act, m_Md_trace, m_Md_isShelf, m_Md_keep, m_Md_row, m_Md_refusal, m_Md_asSort, m_Md_put, m_Md_element, m_Md_shift, m_Md_taken, m_Md_count, m_J_bitCount, m_J_rangeCheck, m_J_fillL, m_J_fillI]
def gSh : List ASh := [.inl (11, [some 1, some 4, some 8, some 15, some 20, some 26, some 27, some 32, some 37, some 21]), .inl (2, [some 2, none, some 3, none]), .inr (false, 75), .inr (false, 100), .inl (5, [some 5, some 6, none, some 7]), .inr (false, 121), .inr (false, 121), .inr (false, 61), .inl (7, [some 9, none, none, some 10, some 11, none]), .inr (false, 120), .inr (false, 121), .inr (false, 121), .inl (6, [some 4, some 13, some 14]), .inr (false, 15), .inr (false, 15), .inl (3, [some 12, some 16, some 19, none, none, none, none]), .inl (2, [some 17, none, some 18, none]), .inr (false, 75), .inr (false, 100), .inr (false, 15), .inl (10, [some 1, some 15, some 12]), .inl (9, [some 22, some 23, some 24, some 25]), .inr (false, 6), .inr (false, 6), .inr (false, 6), .inr (true, 360), .inl (8, [some 1, some 15, some 21]), .inl (4, [some 1, some 12, some 28, some 29, some 30, some 31, none]), .inr (false, 8), .inr (false, 12), .inr (false, 8), .inr (false, 12), .inl (1, [some 1, some 33, some 34, some 35, some 36, none, none]), .inr (false, 40), .inr (false, 40), .inr (false, 40), .inr (false, 40), .inl (0, [some 38, none, some 39, none, none, none]), .inr (false, 50), .inr (false, 24), .inl (12, [some 41, some 42, some 43, some 44, none, none, none, none, some 45, none, some 46, none, some 47, none, none, none, none, none, none, some 48, none, none, none, none, some 49, some 50, some 51, none, none, some 52, some 53, none, none, none, none, none, none, none, none, some 54, none, some 55, some 56, none, none, none, some 57, some 58, some 59, some 60]), .inr (false, 75), .inr (false, 40), .inr (false, 40), .inr (false, 40), .inr (false, 12), .inr (false, 120), .inr (false, 120), .inr (false, 6), .inr (false, 15), .inr (false, 15), .inr (false, 15), .inr (false, 12), .inr (false, 12), .inr (false, 18), .inr (false, 50), .inr (false, 24), .inr (false, 6), .inr (false, 6), .inr (true, 360), .inr (true, 60)]
def sLEAST : Nat → Int32 := fun j => [100, 0, 1, 0, 0].getD j 0
def sGREATEST : Nat → Int32 := fun j => [220, 99, 99, 20, 99].getD j 0
def sABOVE : Nat → Int32 := fun j => [-1, 0, 0, 2, 1, 3, 0, 4].getD j 0
def sBODY : Nat → Int32 := fun j => [1, 10, 11, 2, 20, 0, 0, 0, 0, 30, 0, 0, 0, 41, 40, 0, 0, 0, 50, 0, 0, 0, 0, 60, 70, 0, 0, 0, 0, 80, 0, 81].getD j 0
def gSc (L : Nat) (xs : Nat → Int32) : Nat → Option (Nat × (Nat → Int32)) := fun a => if a = 1000 then some (5, sLEAST) else if a = 1001 then some (5, sGREATEST) else if a = 1002 then some (8, sABOVE) else if a = 1003 then some (32, sBODY) else if a = 1004 then some (L, xs) else none
def gSt : List (Nat × String × String) := [(1000, "MiddleOne$Crowd", "LEAST"), (1001, "MiddleOne$Crowd", "GREATEST"), (1002, "MiddleOne$Acts", "ABOVE"), (1003, "MiddleOne$Acts", "BODY")]
abbrev gG (L : Nat) (xs : Nat → Int32) : AG := (gSh, gSc L xs, gM)
theorem k_Acts_isKind : gM[0]? = some m_Acts_isKind := rfl
theorem k_Acts_isUnder : gM[1]? = some m_Acts_isUnder := rfl
theorem k_Acts_size : gM[2]? = some m_Acts_size := rfl
theorem k_Acts_has : gM[3]? = some m_Acts_has := rfl
theorem k_Acts_kindOf : gM[4]? = some m_Acts_kindOf := rfl
theorem k_Acts_joins : gM[5]? = some m_Acts_joins := rfl
theorem k_Acts_ranLast : gM[6]? = some m_Acts_ranLast := rfl
theorem k_Acts_traced : gM[7]? = some m_Acts_traced := rfl
theorem k_Acts_does : gM[8]? = some m_Acts_does := rfl
theorem k_Acts_holder : gM[9]? = some m_Acts_holder := rfl
theorem k_Acts_notes : gM[10]? = some m_Acts_notes := rfl
theorem k_Acts_plays : gM[11]? = some m_Acts_plays := rfl
theorem k_Changes_undoable : gM[12]? = some m_Changes_undoable := rfl
theorem k_Changes_redoable : gM[13]? = some m_Changes_redoable := rfl
theorem k_Changes_happens : gM[14]? = some m_Changes_happens := rfl
theorem k_Changes_forgetsOldest : gM[15]? = some m_Changes_forgetsOldest := rfl
theorem k_Changes_undoes : gM[16]? = some m_Changes_undoes := rfl
theorem k_Changes_redoes : gM[17]? = some m_Changes_redoes := rfl
theorem k_Crowd_isNumber : gM[18]? = some m_Crowd_isNumber := rfl
theorem k_Crowd_fits : gM[19]? = some m_Crowd_fits := rfl
theorem k_Crowd_size : gM[20]? = some m_Crowd_size := rfl
theorem k_Crowd_has : gM[21]? = some m_Crowd_has := rfl
theorem k_Crowd_everyone : gM[22]? = some m_Crowd_everyone := rfl
theorem k_Crowd_number : gM[23]? = some m_Crowd_number := rfl
theorem k_Crowd_setNumber : gM[24]? = some m_Crowd_setNumber := rfl
theorem k_Crowd_joins : gM[25]? = some m_Crowd_joins := rfl
theorem k_Crowd_shrinks : gM[26]? = some m_Crowd_shrinks := rfl
theorem k_Crowd_becomes : gM[27]? = some m_Crowd_becomes := rfl
theorem k_Crowd_waiting : gM[28]? = some m_Crowd_waiting := rfl
theorem k_Crowd_thereAt : gM[29]? = some m_Crowd_thereAt := rfl
theorem k_Crowd_comeBy : gM[30]? = some m_Crowd_comeBy := rfl
theorem k_Crowd_priceOf : gM[31]? = some m_Crowd_priceOf := rfl
theorem k_Day_who : gM[32]? = some m_Day_who := rfl
theorem k_Day_begins : gM[33]? = some m_Day_begins := rfl
theorem k_Day_again : gM[34]? = some m_Day_again := rfl
theorem k_Day_againWith : gM[35]? = some m_Day_againWith := rfl
theorem k_Day_opens : gM[36]? = some m_Day_opens := rfl
theorem k_Day_passes : gM[37]? = some m_Day_passes := rfl
theorem k_Day_runs : gM[38]? = some m_Day_runs := rfl
theorem k_Day_till : gM[39]? = some m_Day_till := rfl
theorem k_Day_twoGates : gM[40]? = some m_Day_twoGates := rfl
theorem k_Day_allAreIn : gM[41]? = some m_Day_allAreIn := rfl
theorem k_Day_stillOutside : gM[42]? = some m_Day_stillOutside := rfl
theorem k_Day_inSince : gM[43]? = some m_Day_inSince := rfl
theorem k_Day_waitedLast : gM[44]? = some m_Day_waitedLast := rfl
theorem k_Day_mostWaited : gM[45]? = some m_Day_mostWaited := rfl
theorem k_Day_wentWithout : gM[46]? = some m_Day_wentWithout := rfl
theorem k_Day_waitsWithin : gM[47]? = some m_Day_waitsWithin := rfl
theorem k_Day_heightsWithin : gM[48]? = some m_Day_heightsWithin := rfl
theorem k_Day_lastIn : gM[49]? = some m_Day_lastIn := rfl
theorem k_Deed_leads : gM[50]? = some m_Deed_leads := rfl
theorem k_Deed_waitingNow : gM[51]? = some m_Deed_waitingNow := rfl
theorem k_Deed_numberIn : gM[52]? = some m_Deed_numberIn := rfl
theorem k_Deed_inSince : gM[53]? = some m_Deed_inSince := rfl
theorem k_Deed_opensNow : gM[54]? = some m_Deed_opensNow := rfl
theorem k_Deed_sendsAway : gM[55]? = some m_Deed_sendsAway := rfl
theorem k_Deed_dawns : gM[56]? = some m_Deed_dawns := rfl
theorem k_Deed_hasImage : gM[57]? = some m_Deed_hasImage := rfl
theorem k_Deed_keepsImage : gM[58]? = some m_Deed_keepsImage := rfl
theorem k_Deed_laysBack : gM[59]? = some m_Deed_laysBack := rfl
theorem k_Law_learns : gM[60]? = some m_Law_learns := rfl
theorem k_Law_tallness : gM[61]? = some m_Law_tallness := rfl
theorem k_Law_joined : gM[62]? = some m_Law_joined := rfl
theorem k_Picker_picks : gM[63]? = some m_Picker_picks := rfl
theorem k_Reader_isFull : gM[64]? = some m_Reader_isFull := rfl
theorem k_Reader_size : gM[65]? = some m_Reader_size := rfl
theorem k_Reader_takes : gM[66]? = some m_Reader_takes := rfl
theorem k_Reader_clears : gM[67]? = some m_Reader_clears := rfl
theorem k_Reader_faultOfText : gM[68]? = some m_Reader_faultOfText := rfl
theorem k_Reader_copySteps : gM[69]? = some m_Reader_copySteps := rfl
theorem k_Reader_reads : gM[70]? = some m_Reader_reads := rfl
theorem k_Reader_layer : gM[71]? = some m_Reader_layer := rfl
theorem k_Reader_operand : gM[72]? = some m_Reader_operand := rfl
theorem k_Reader_digits : gM[73]? = some m_Reader_digits := rfl
theorem k_Reader_sign : gM[74]? = some m_Reader_sign := rfl
theorem k_Reader_makes : gM[75]? = some m_Reader_makes := rfl
theorem k_Reader_isDigit : gM[76]? = some m_Reader_isDigit := rfl
theorem k_Reader_isName : gM[77]? = some m_Reader_isName := rfl
theorem k_Reader_rankOf : gM[78]? = some m_Reader_rankOf := rfl
theorem k_Seen_firstUnlike : gM[79]? = some m_Seen_firstUnlike := rfl
theorem k_Seen_goesOnUnlike : gM[80]? = some m_Seen_goesOnUnlike := rfl
theorem k_Seen_setsThatFit : gM[81]? = some m_Seen_setsThatFit := rfl
theorem k_Seen_leastHeeled : gM[82]? = some m_Seen_leastHeeled := rfl
theorem k_Seen_drawnDays : gM[83]? = some m_Seen_drawnDays := rfl
theorem k_Shelves_isShelf : gM[84]? = some m_Shelves_isShelf := rfl
theorem k_Shelves_isBare : gM[85]? = some m_Shelves_isBare := rfl
theorem k_Shelves_bodyOn : gM[86]? = some m_Shelves_bodyOn := rfl
theorem k_Shelves_holdsRow : gM[87]? = some m_Shelves_holdsRow := rfl
theorem k_Shelves_holdsLikeRows : gM[88]? = some m_Shelves_holdsLikeRows := rfl
theorem k_Shelves_sizeOf : gM[89]? = some m_Shelves_sizeOf := rfl
theorem k_Shelves_isPlace : gM[90]? = some m_Shelves_isPlace := rfl
theorem k_Shelves_isSpan : gM[91]? = some m_Shelves_isSpan := rfl
theorem k_Shelves_holds : gM[92]? = some m_Shelves_holds := rfl
theorem k_Shelves_lays : gM[93]? = some m_Shelves_lays := rfl
theorem k_Shelves_cell : gM[94]? = some m_Shelves_cell := rfl
theorem k_Shelves_sets : gM[95]? = some m_Shelves_sets := rfl
theorem k_Shelves_narrowed : gM[96]? = some m_Shelves_narrowed := rfl
theorem k_Shelves_moves : gM[97]? = some m_Shelves_moves := rfl
theorem k_Wishes_sentAway : gM[98]? = some m_Wishes_sentAway := rfl
theorem k_Wishes_isBetter : gM[99]? = some m_Wishes_isBetter := rfl
theorem k_Wishes_boysFor : gM[100]? = some m_Wishes_boysFor := rfl
theorem k_Wishes_heightOfBoys : gM[101]? = some m_Wishes_heightOfBoys := rfl
theorem k_Wishes_heelsFor : gM[102]? = some m_Wishes_heelsFor := rfl
theorem k_Wishes_comesBest : gM[103]? = some m_Wishes_comesBest := rfl
theorem k_Wishes_allChoose : gM[104]? = some m_Wishes_allChoose := rfl
theorem k_Wishes_earliestHeels : gM[105]? = some m_Wishes_earliestHeels := rfl
theorem k_Wishes_betterGate : gM[106]? = some m_Wishes_betterGate := rfl
theorem k_Wishes_fullestSet : gM[107]? = some m_Wishes_fullestSet := rfl
theorem k_Wishes_placeForAll : gM[108]? = some m_Wishes_placeForAll := rfl
theorem k_Mo_person : gM[109]? = some m_Mo_person := rfl
theorem k_Mo_people : gM[110]? = some m_Mo_people := rfl
theorem k_Mo_joinFromRow : gM[111]? = some m_Mo_joinFromRow := rfl
theorem k_Mo_mend : gM[112]? = some m_Mo_mend := rfl
theorem k_Mo_of : gM[113]? = some m_Mo_of := rfl
theorem k_Mo_feed : gM[114]? = some m_Mo_feed := rfl
theorem k_Mo_law : gM[115]? = some m_Mo_law := rfl
theorem k_Mo_tall : gM[116]? = some m_Mo_tall := rfl
theorem k_Mo_enters : gM[117]? = some m_Mo_enters := rfl
theorem k_Mo_stroke : gM[118]? = some m_Mo_stroke := rfl
theorem k_Mo_day : gM[119]? = some m_Mo_day := rfl
theorem k_Mo_mean : gM[120]? = some m_Mo_mean := rfl
theorem k_Mo_sharedDivisor : gM[121]? = some m_Mo_sharedDivisor := rfl
theorem k_Mo_sent : gM[122]? = some m_Mo_sent := rfl
theorem k_Mo_brought : gM[123]? = some m_Mo_brought := rfl
theorem k_Mo_heels : gM[124]? = some m_Mo_heels := rfl
theorem k_Mo_later : gM[125]? = some m_Mo_later := rfl
theorem k_Mo_allWear : gM[126]? = some m_Mo_allWear := rfl
theorem k_Mo_gates : gM[127]? = some m_Mo_gates := rfl
theorem k_Mo_where : gM[128]? = some m_Mo_where := rfl
theorem k_Mo_bestSet : gM[129]? = some m_Mo_bestSet := rfl
theorem k_Mo_atLast : gM[130]? = some m_Mo_atLast := rfl
theorem k_Mo_rule : gM[131]? = some m_Mo_rule := rfl
theorem k_Mo_judge : gM[132]? = some m_Mo_judge := rfl
theorem k_Mo_with : gM[133]? = some m_Mo_with := rfl
theorem k_Mo_heeled : gM[134]? = some m_Mo_heeled := rfl
theorem k_Mo_drawn : gM[135]? = some m_Mo_drawn := rfl
theorem k_Mo_refusedAsSeen : gM[136]? = some m_Mo_refusedAsSeen := rfl
theorem k_Mo_strike : gM[137]? = some m_Mo_strike := rfl
theorem k_Mo_take : gM[138]? = some m_Mo_take := rfl
theorem k_Mo_dawn : gM[139]? = some m_Mo_dawn := rfl
theorem k_Mo_led : gM[140]? = some m_Mo_led := rfl
theorem k_Mo_image : gM[141]? = some m_Mo_image := rfl
theorem k_Mo_back : gM[142]? = some m_Mo_back := rfl
theorem k_Mo_undo : gM[143]? = some m_Mo_undo := rfl
theorem k_Mo_redo : gM[144]? = some m_Mo_redo := rfl
theorem k_Mo_body : gM[145]? = some m_Mo_body := rfl
theorem k_Mo_act : gM[146]? = some m_Mo_act := rfl
theorem k_Mo_trace : gM[147]? = some m_Mo_trace := rfl
theorem k_Mo_keep : gM[148]? = some m_Mo_keep := rfl
theorem k_Mo_row : gM[149]? = some m_Mo_row := rfl
theorem k_Mo_put : gM[150]? = some m_Mo_put := rfl
set_option maxRecDepth 9000 in
theorem k_Mo_element : gM[151]? = some m_Mo_element := rfl
set_option maxRecDepth 9000 in
theorem k_Mo_shift : gM[152]? = some m_Mo_shift := rfl
set_option maxRecDepth 9000 in
theorem k_Mo_taken : gM[153]? = some m_Mo_taken := rfl
set_option maxRecDepth 9000 in
theorem k_Mo_count : gM[154]? = some m_Mo_count := rfl
set_option maxRecDepth 9000 in
theorem k_Mo_refusedAsRow : gM[155]? = some m_Mo_refusedAsRow := rfl
set_option maxRecDepth 9000 in
theorem k_Mo_isOneOrAll : gM[156]? = some m_Mo_isOneOrAll := rfl
set_option maxRecDepth 9000 in
theorem k_Mo_isDay : gM[157]? = some m_Mo_isDay := rfl
set_option maxRecDepth 9000 in
theorem k_Mo_isEither : gM[158]? = some m_Mo_isEither := rfl
set_option maxRecDepth 9000 in
theorem k_Md_within : gM[159]? = some m_Md_within := rfl
set_option maxRecDepth 9000 in
theorem k_Md_isIn : gM[160]? = some m_Md_isIn := rfl
set_option maxRecDepth 9000 in
theorem k_Md_bitsOf : gM[161]? = some m_Md_bitsOf := rfl
set_option maxRecDepth 9000 in
theorem k_Md_becomes : gM[162]? = some m_Md_becomes := rfl
set_option maxRecDepth 9000 in
theorem k_Md_undo : gM[163]? = some m_Md_undo := rfl
set_option maxRecDepth 9000 in
theorem k_Md_redo : gM[164]? = some m_Md_redo := rfl
set_option maxRecDepth 9000 in
theorem k_Md_isOne : gM[165]? = some m_Md_isOne := rfl
set_option maxRecDepth 9000 in
theorem k_Md_mayCome : gM[166]? = some m_Md_mayCome := rfl
set_option maxRecDepth 9000 in
theorem k_Md_puts : gM[167]? = some m_Md_puts := rfl
set_option maxRecDepth 9000 in
theorem k_Md_person : gM[168]? = some m_Md_person := rfl
set_option maxRecDepth 9000 in
theorem k_Md_people : gM[169]? = some m_Md_people := rfl
set_option maxRecDepth 9000 in
theorem k_Md_mayBecome : gM[170]? = some m_Md_mayBecome := rfl
set_option maxRecDepth 9000 in
theorem k_Md_mend : gM[171]? = some m_Md_mend := rfl
set_option maxRecDepth 9000 in
theorem k_Md_waitsNow : gM[172]? = some m_Md_waitsNow := rfl
set_option maxRecDepth 9000 in
theorem k_Md_of : gM[173]? = some m_Md_of := rfl
set_option maxRecDepth 9000 in
theorem k_Md_feed : gM[174]? = some m_Md_feed := rfl
set_option maxRecDepth 9000 in
theorem k_Md_byteAt : gM[175]? = some m_Md_byteAt := rfl
set_option maxRecDepth 9000 in
theorem k_Md_wrong : gM[176]? = some m_Md_wrong := rfl
set_option maxRecDepth 9000 in
theorem k_Md_takes : gM[177]? = some m_Md_takes := rfl
set_option maxRecDepth 9000 in
theorem k_Md_either : gM[178]? = some m_Md_either := rfl
set_option maxRecDepth 9000 in
theorem k_Md_both : gM[179]? = some m_Md_both := rfl
set_option maxRecDepth 9000 in
theorem k_Md_compared : gM[180]? = some m_Md_compared := rfl
set_option maxRecDepth 9000 in
theorem k_Md_sums : gM[181]? = some m_Md_sums := rfl
set_option maxRecDepth 9000 in
theorem k_Md_product : gM[182]? = some m_Md_product := rfl
set_option maxRecDepth 9000 in
theorem k_Md_nameOf : gM[183]? = some m_Md_nameOf := rfl
set_option maxRecDepth 9000 in
theorem k_Md_one : gM[184]? = some m_Md_one := rfl
set_option maxRecDepth 9000 in
theorem k_Md_workOut : gM[185]? = some m_Md_workOut := rfl
set_option maxRecDepth 9000 in
theorem k_Md_law : gM[186]? = some m_Md_law := rfl
set_option maxRecDepth 9000 in
theorem k_Md_tallAt : gM[187]? = some m_Md_tallAt := rfl
set_option maxRecDepth 9000 in
theorem k_Md_tall : gM[188]? = some m_Md_tall := rfl
set_option maxRecDepth 9000 in
theorem k_Md_begins1 : gM[189]? = some m_Md_begins1 := rfl
set_option maxRecDepth 9000 in
theorem k_Md_asksWaiting : gM[190]? = some m_Md_asksWaiting := rfl
set_option maxRecDepth 9000 in
theorem k_Md_atPlace : gM[191]? = some m_Md_atPlace := rfl
set_option maxRecDepth 9000 in
theorem k_Md_strokes : gM[192]? = some m_Md_strokes := rfl
set_option maxRecDepth 9000 in
theorem k_Md_goes : gM[193]? = some m_Md_goes := rfl
set_option maxRecDepth 9000 in
theorem k_Md_isN : gM[194]? = some m_Md_isN := rfl
set_option maxRecDepth 9000 in
theorem k_Md_inMany : gM[195]? = some m_Md_inMany := rfl
set_option maxRecDepth 9000 in
theorem k_Md_enters : gM[196]? = some m_Md_enters := rfl
set_option maxRecDepth 9000 in
theorem k_Md_stroke : gM[197]? = some m_Md_stroke := rfl
set_option maxRecDepth 9000 in
theorem k_Md_day : gM[198]? = some m_Md_day := rfl
set_option maxRecDepth 9000 in
theorem k_Md_commonOf : gM[199]? = some m_Md_commonOf := rfl
set_option maxRecDepth 9000 in
theorem k_Md_partOf : gM[200]? = some m_Md_partOf := rfl
set_option maxRecDepth 9000 in
theorem k_Md_mean : gM[201]? = some m_Md_mean := rfl
set_option maxRecDepth 9000 in
theorem k_Md_priceOf : gM[202]? = some m_Md_priceOf := rfl
set_option maxRecDepth 9000 in
theorem k_Md_sent : gM[203]? = some m_Md_sent := rfl
set_option maxRecDepth 9000 in
theorem k_Md_brought : gM[204]? = some m_Md_brought := rfl
set_option maxRecDepth 9000 in
theorem k_Md_wearing : gM[205]? = some m_Md_wearing := rfl
set_option maxRecDepth 9000 in
theorem k_Md_heels : gM[206]? = some m_Md_heels := rfl
set_option maxRecDepth 9000 in
theorem k_Md_later : gM[207]? = some m_Md_later := rfl
set_option maxRecDepth 9000 in
theorem k_Md_chooses : gM[208]? = some m_Md_chooses := rfl
set_option maxRecDepth 9000 in
theorem k_Md_allWear : gM[209]? = some m_Md_allWear := rfl
set_option maxRecDepth 9000 in
theorem k_Md_gates : gM[210]? = some m_Md_gates := rfl
set_option maxRecDepth 9000 in
theorem k_Md_where : gM[211]? = some m_Md_where := rfl
set_option maxRecDepth 9000 in
theorem k_Md_bestSet : gM[212]? = some m_Md_bestSet := rfl
set_option maxRecDepth 9000 in
theorem k_Md_atLast : gM[213]? = some m_Md_atLast := rfl
set_option maxRecDepth 9000 in
theorem k_Md_rule : gM[214]? = some m_Md_rule := rfl
set_option maxRecDepth 9000 in
theorem k_Md_bytesIs : gM[215]? = some m_Md_bytesIs := rfl
set_option maxRecDepth 9000 in
theorem k_Md_firstFalse : gM[216]? = some m_Md_firstFalse := rfl
set_option maxRecDepth 9000 in
theorem k_Md_judge : gM[217]? = some m_Md_judge := rfl
set_option maxRecDepth 9000 in
theorem k_Md_with : gM[218]? = some m_Md_with := rfl
set_option maxRecDepth 9000 in
theorem k_Md_wears : gM[219]? = some m_Md_wears := rfl
set_option maxRecDepth 9000 in
theorem k_Md_heeled : gM[220]? = some m_Md_heeled := rfl
set_option maxRecDepth 9000 in
theorem k_Md_drawn : gM[221]? = some m_Md_drawn := rfl
set_option maxRecDepth 9000 in
theorem k_Md_waitMany : gM[222]? = some m_Md_waitMany := rfl
set_option maxRecDepth 9000 in
theorem k_Md_insideMany : gM[223]? = some m_Md_insideMany := rfl
set_option maxRecDepth 9000 in
theorem k_Md_strike : gM[224]? = some m_Md_strike := rfl
set_option maxRecDepth 9000 in
theorem k_Md_take : gM[225]? = some m_Md_take := rfl
set_option maxRecDepth 9000 in
theorem k_Md_dawn : gM[226]? = some m_Md_dawn := rfl
set_option maxRecDepth 9000 in
theorem k_Md_led : gM[227]? = some m_Md_led := rfl
set_option maxRecDepth 9000 in
theorem k_Md_image : gM[228]? = some m_Md_image := rfl
set_option maxRecDepth 9000 in
theorem k_Md_back : gM[229]? = some m_Md_back := rfl
set_option maxRecDepth 9000 in
theorem k_Md_isBody : gM[230]? = some m_Md_isBody := rfl
set_option maxRecDepth 9000 in
theorem k_Md_kindOf : gM[231]? = some m_Md_kindOf := rfl
set_option maxRecDepth 9000 in
theorem k_Md_body : gM[232]? = some m_Md_body := rfl
set_option maxRecDepth 9000 in
theorem k_Md_above : gM[233]? = some m_Md_above := rfl
set_option maxRecDepth 9000 in
theorem k_Md_begins : gM[234]? = some m_Md_begins := rfl
set_option maxRecDepth 9000 in
theorem k_Md_waitsAs : gM[235]? = some m_Md_waitsAs := rfl
set_option maxRecDepth 9000 in
theorem k_Md_countsAs : gM[236]? = some m_Md_countsAs := rfl
set_option maxRecDepth 9000 in
theorem k_Md_opensAs : gM[237]? = some m_Md_opensAs := rfl
set_option maxRecDepth 9000 in
theorem k_Md_tellsAs : gM[238]? = some m_Md_tellsAs := rfl
set_option maxRecDepth 9000 in
theorem k_Md_act : gM[239]? = some m_Md_act := rfl
set_option maxRecDepth 9000 in
theorem k_Md_trace : gM[240]? = some m_Md_trace := rfl
set_option maxRecDepth 9000 in
theorem k_Md_isShelf : gM[241]? = some m_Md_isShelf := rfl
set_option maxRecDepth 9000 in
theorem k_Md_keep : gM[242]? = some m_Md_keep := rfl
set_option maxRecDepth 9000 in
theorem k_Md_row : gM[243]? = some m_Md_row := rfl
set_option maxRecDepth 9000 in
theorem k_Md_refusal : gM[244]? = some m_Md_refusal := rfl
set_option maxRecDepth 9000 in
theorem k_Md_asSort : gM[245]? = some m_Md_asSort := rfl
set_option maxRecDepth 9000 in
theorem k_Md_put : gM[246]? = some m_Md_put := rfl
set_option maxRecDepth 9000 in
theorem k_Md_element : gM[247]? = some m_Md_element := rfl
set_option maxRecDepth 9000 in
theorem k_Md_shift : gM[248]? = some m_Md_shift := rfl
set_option maxRecDepth 9000 in
theorem k_Md_taken : gM[249]? = some m_Md_taken := rfl
set_option maxRecDepth 9000 in
theorem k_Md_count : gM[250]? = some m_Md_count := rfl
set_option maxRecDepth 9000 in
theorem k_J_bitCount : gM[251]? = some m_J_bitCount := rfl
set_option maxRecDepth 9000 in
theorem k_J_rangeCheck : gM[252]? = some m_J_rangeCheck := rfl
set_option maxRecDepth 9000 in
theorem k_J_fillL : gM[253]? = some m_J_fillL := rfl
set_option maxRecDepth 9000 in
theorem k_J_fillI : gM[254]? = some m_J_fillI := rfl
