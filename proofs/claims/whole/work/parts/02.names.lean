/-! NAMES, WORDS, THE STATE. Printed by wip/whole/build.py. -/
def R_Con : String := "DotConsole"
def F_Con : u_T := fun k => match k with
  | 0 => ("DotConsole", "tokens", "LDotConsole$Tokens;", true)
  | 1 => ("DotConsole", "names", "LDotConsole$Names;", true)
  | 2 => ("DotConsole", "reader", "LDotConsole$LineReader;", true)
  | 3 => ("DotConsole", "program", "LDotConsole$Program;", true)
  | 4 => ("DotConsole", "machine", "LDotConsole$Machine;", true)
  | _ => ("DotConsole", "badPlace", "I", false)
def ty_Con : Nat → FieldType := fun k => match k with
  | 0 => .object "DotConsole$Tokens"
  | 1 => .object "DotConsole$Names"
  | 2 => .object "DotConsole$LineReader"
  | 3 => .object "DotConsole$Program"
  | 4 => .object "DotConsole$Machine"
  | _ => .int
theorem nm_Con : ∀ a, a < 6 → ∀ b, b < 6 → a ≠ b → (F_Con a).2.1 ≠ (F_Con b).2.1 := by decide +kernel
theorem ty_Con_ok : ∀ k, k < 6 → parseFieldDescriptor (F_Con k).2.2.1 = some (ty_Con k) := by decide +kernel
def R_Tokens : String := "DotConsole$Tokens"
def F_Tokens : u_T := fun k => match k with
  | 0 => ("DotConsole$Tokens", "wordKeys", "[I", true)
  | 1 => ("DotConsole$Tokens", "text", "[C", true)
  | 2 => ("DotConsole$Tokens", "length", "I", false)
  | 3 => ("DotConsole$Tokens", "kinds", "[I", true)
  | 4 => ("DotConsole$Tokens", "starts", "[I", true)
  | 5 => ("DotConsole$Tokens", "meanings", "[I", true)
  | 6 => ("DotConsole$Tokens", "found", "I", false)
  | _ => ("DotConsole$Tokens", "next", "I", false)
def ty_Tokens : Nat → FieldType := fun k => match k with
  | 0 => .array .int
  | 1 => .array .char
  | 2 => .int
  | 3 => .array .int
  | 4 => .array .int
  | 5 => .array .int
  | 6 => .int
  | _ => .int
theorem nm_Tokens : ∀ a, a < 8 → ∀ b, b < 8 → a ≠ b → (F_Tokens a).2.1 ≠ (F_Tokens b).2.1 := by decide +kernel
theorem ty_Tokens_ok : ∀ k, k < 8 → parseFieldDescriptor (F_Tokens k).2.2.1 = some (ty_Tokens k) := by decide +kernel
def R_Names : String := "DotConsole$Names"
def F_Names : u_T := fun k => match k with
  | 0 => ("DotConsole$Names", "keys", "[I", true)
  | 1 => ("DotConsole$Names", "kept", "I", false)
  | 2 => ("DotConsole$Names", "seen", "I", false)
  | _ => ("DotConsole$Names", "tooMany", "Z", false)
def ty_Names : Nat → FieldType := fun k => match k with
  | 0 => .array .int
  | 1 => .int
  | 2 => .int
  | _ => .boolean
theorem nm_Names : ∀ a, a < 4 → ∀ b, b < 4 → a ≠ b → (F_Names a).2.1 ≠ (F_Names b).2.1 := by decide +kernel
theorem ty_Names_ok : ∀ k, k < 4 → parseFieldDescriptor (F_Names k).2.2.1 = some (ty_Names k) := by decide +kernel
def R_LineReader : String := "DotConsole$LineReader"
def F_LineReader : u_T := fun k => match k with
  | 0 => ("DotConsole$LineReader", "tokens", "LDotConsole$Tokens;", true)
  | 1 => ("DotConsole$LineReader", "names", "LDotConsole$Names;", true)
  | 2 => ("DotConsole$LineReader", "at", "I", false)
  | 3 => ("DotConsole$LineReader", "statement", "I", false)
  | 4 => ("DotConsole$LineReader", "target", "I", false)
  | 5 => ("DotConsole$LineReader", "kinds", "[I", true)
  | 6 => ("DotConsole$LineReader", "operands", "[I", true)
  | 7 => ("DotConsole$LineReader", "nodeCount", "I", false)
  | 8 => ("DotConsole$LineReader", "levels", "[I", true)
  | 9 => ("DotConsole$LineReader", "levelCount", "I", false)
  | 10 => ("DotConsole$LineReader", "mostLevels", "I", false)
  | 11 => ("DotConsole$LineReader", "waiting", "[I", true)
  | 12 => ("DotConsole$LineReader", "waitingRanks", "[I", true)
  | 13 => ("DotConsole$LineReader", "commasDue", "[I", true)
  | 14 => ("DotConsole$LineReader", "waitingCount", "I", false)
  | 15 => ("DotConsole$LineReader", "outerCommasDue", "I", false)
  | _ => ("DotConsole$LineReader", "wantsPart", "Z", false)
def ty_LineReader : Nat → FieldType := fun k => match k with
  | 0 => .object "DotConsole$Tokens"
  | 1 => .object "DotConsole$Names"
  | 2 => .int
  | 3 => .int
  | 4 => .int
  | 5 => .array .int
  | 6 => .array .int
  | 7 => .int
  | 8 => .array .int
  | 9 => .int
  | 10 => .int
  | 11 => .array .int
  | 12 => .array .int
  | 13 => .array .int
  | 14 => .int
  | 15 => .int
  | _ => .boolean
theorem nm_LineReader : ∀ a, a < 17 → ∀ b, b < 17 → a ≠ b → (F_LineReader a).2.1 ≠ (F_LineReader b).2.1 := by decide +kernel
theorem ty_LineReader_ok : ∀ k, k < 17 → parseFieldDescriptor (F_LineReader k).2.2.1 = some (ty_LineReader k) := by decide +kernel
def R_Program : String := "DotConsole$Program"
def F_Program : u_T := fun k => match k with
  | 0 => ("DotConsole$Program", "lines", "I", false)
  | 1 => ("DotConsole$Program", "sealed", "Z", false)
  | 2 => ("DotConsole$Program", "statements", "[I", true)
  | 3 => ("DotConsole$Program", "targets", "[I", true)
  | 4 => ("DotConsole$Program", "nodeCounts", "[I", true)
  | 5 => ("DotConsole$Program", "kinds", "[I", true)
  | 6 => ("DotConsole$Program", "operands", "[I", true)
  | 7 => ("DotConsole$Program", "jumps", "[I", true)
  | 8 => ("DotConsole$Program", "open", "[I", true)
  | _ => ("DotConsole$Program", "openCount", "I", false)
def ty_Program : Nat → FieldType := fun k => match k with
  | 0 => .int
  | 1 => .boolean
  | 2 => .array .int
  | 3 => .array .int
  | 4 => .array .int
  | 5 => .array .int
  | 6 => .array .int
  | 7 => .array .int
  | 8 => .array .int
  | _ => .int
theorem nm_Program : ∀ a, a < 10 → ∀ b, b < 10 → a ≠ b → (F_Program a).2.1 ≠ (F_Program b).2.1 := by decide +kernel
theorem ty_Program_ok : ∀ k, k < 10 → parseFieldDescriptor (F_Program k).2.2.1 = some (ty_Program k) := by decide +kernel
def R_Machine : String := "DotConsole$Machine"
def F_Machine : u_T := fun k => match k with
  | 0 => ("DotConsole$Machine", "program", "LDotConsole$Program;", true)
  | 1 => ("DotConsole$Machine", "screen", "LDotConsole$Screen;", true)
  | 2 => ("DotConsole$Machine", "pad", "LDotConsole$Pad;", true)
  | 3 => ("DotConsole$Machine", "values", "[I", true)
  | 4 => ("DotConsole$Machine", "cells", "[I", true)
  | 5 => ("DotConsole$Machine", "seed", "I", false)
  | 6 => ("DotConsole$Machine", "frames", "I", false)
  | 7 => ("DotConsole$Machine", "steps", "I", false)
  | 8 => ("DotConsole$Machine", "stack", "[I", true)
  | _ => ("DotConsole$Machine", "stackCount", "I", false)
def ty_Machine : Nat → FieldType := fun k => match k with
  | 0 => .object "DotConsole$Program"
  | 1 => .object "DotConsole$Screen"
  | 2 => .object "DotConsole$Pad"
  | 3 => .array .int
  | 4 => .array .int
  | 5 => .int
  | 6 => .int
  | 7 => .int
  | 8 => .array .int
  | _ => .int
theorem nm_Machine : ∀ a, a < 10 → ∀ b, b < 10 → a ≠ b → (F_Machine a).2.1 ≠ (F_Machine b).2.1 := by decide +kernel
theorem ty_Machine_ok : ∀ k, k < 10 → parseFieldDescriptor (F_Machine k).2.2.1 = some (ty_Machine k) := by decide +kernel
def R_Screen : String := "DotConsole$Screen"
def F_Screen : u_T := fun k => match k with
  | _ => ("DotConsole$Screen", "dots", "[I", true)
def ty_Screen : Nat → FieldType := fun k => match k with
  | _ => .array .int
theorem nm_Screen : ∀ a, a < 1 → ∀ b, b < 1 → a ≠ b → (F_Screen a).2.1 ≠ (F_Screen b).2.1 := by decide +kernel
theorem ty_Screen_ok : ∀ k, k < 1 → parseFieldDescriptor (F_Screen k).2.2.1 = some (ty_Screen k) := by decide +kernel
def R_Pad : String := "DotConsole$Pad"
def F_Pad : u_T := fun k => match k with
  | _ => ("DotConsole$Pad", "framesDown", "[I", true)
def ty_Pad : Nat → FieldType := fun k => match k with
  | _ => .array .int
theorem nm_Pad : ∀ a, a < 1 → ∀ b, b < 1 → a ≠ b → (F_Pad a).2.1 ≠ (F_Pad b).2.1 := by decide +kernel
theorem ty_Pad_ok : ∀ k, k < 1 → parseFieldDescriptor (F_Pad k).2.2.1 = some (ty_Pad k) := by decide +kernel
def R_Mod : String := "DotConsoleModel"
def F_Mod : u_T := fun k => match k with
  | 0 => ("DotConsoleModel", "text", "[C", true)
  | 1 => ("DotConsoleModel", "length", "I", false)
  | 2 => ("DotConsoleModel", "kind", "[I", true)
  | 3 => ("DotConsoleModel", "meaning", "[I", true)
  | 4 => ("DotConsoleModel", "where", "[I", true)
  | 5 => ("DotConsoleModel", "tokens", "[I", true)
  | 6 => ("DotConsoleModel", "nodes", "[I", true)
  | 7 => ("DotConsoleModel", "lines", "I", false)
  | 8 => ("DotConsoleModel", "place", "I", false)
  | 9 => ("DotConsoleModel", "nameText", "[C", true)
  | 10 => ("DotConsoleModel", "names", "I", false)
  | 11 => ("DotConsoleModel", "values", "[I", true)
  | 12 => ("DotConsoleModel", "sealed", "Z", false)
  | 13 => ("DotConsoleModel", "other", "[I", true)
  | 14 => ("DotConsoleModel", "cells", "[I", true)
  | 15 => ("DotConsoleModel", "dots", "[I", true)
  | 16 => ("DotConsoleModel", "held", "[I", true)
  | 17 => ("DotConsoleModel", "seed", "I", false)
  | 18 => ("DotConsoleModel", "frames", "I", false)
  | 19 => ("DotConsoleModel", "steps", "I", false)
  | 20 => ("DotConsoleModel", "numbers", "[I", true)
  | 21 => ("DotConsoleModel", "heights", "[I", true)
  | 22 => ("DotConsoleModel", "top", "I", false)
  | 23 => ("DotConsoleModel", "ops", "[I", true)
  | 24 => ("DotConsoleModel", "opTop", "I", false)
  | 25 => ("DotConsoleModel", "next", "I", false)
  | 26 => ("DotConsoleModel", "counted", "I", false)
  | 27 => ("DotConsoleModel", "highest", "I", false)
  | 28 => ("DotConsoleModel", "args", "[I", true)
  | _ => ("DotConsoleModel", "newNames", "I", false)
def ty_Mod : Nat → FieldType := fun k => match k with
  | 0 => .array .char
  | 1 => .int
  | 2 => .array .int
  | 3 => .array .int
  | 4 => .array .int
  | 5 => .array .int
  | 6 => .array .int
  | 7 => .int
  | 8 => .int
  | 9 => .array .char
  | 10 => .int
  | 11 => .array .int
  | 12 => .boolean
  | 13 => .array .int
  | 14 => .array .int
  | 15 => .array .int
  | 16 => .array .int
  | 17 => .int
  | 18 => .int
  | 19 => .int
  | 20 => .array .int
  | 21 => .array .int
  | 22 => .int
  | 23 => .array .int
  | 24 => .int
  | 25 => .int
  | 26 => .int
  | 27 => .int
  | 28 => .array .int
  | _ => .int
theorem nm_Mod : ∀ a, a < 30 → ∀ b, b < 30 → a ≠ b → (F_Mod a).2.1 ≠ (F_Mod b).2.1 := by decide +kernel
theorem ty_Mod_ok : ∀ k, k < 30 → parseFieldDescriptor (F_Mod k).2.2.1 = some (ty_Mod k) := by decide +kernel
def classes : List vw_C := [(R_Con, F_Con, 6), (R_Tokens, F_Tokens, 8), (R_Names, F_Names, 4), (R_LineReader, F_LineReader, 17), (R_Program, F_Program, 10), (R_Machine, F_Machine, 10), (R_Screen, F_Screen, 1), (R_Pad, F_Pad, 1), (R_Mod, F_Mod, 30)]
def ax_T : List Cond := lw_tbl.filter goodWord
theorem ax_mem {z : Cond} (h1 : z ∈ lw_tbl) (h2 : goodWord z = true) : z ∈ ax_T := List.mem_filter.mpr ⟨h1, h2⟩
theorem ax_T_good : ∀ z ∈ ax_T, (z.onTables && z.keeps) = true ∨ ∃ ty, z = .arrayClass ty := fun z h => good_of_word (List.mem_filter.mp h).2
def ax_N : List Cond := [.fieldLinkNest "DotConsole$Tokens" 84 "DotConsole" "TENS" "[I" "DotConsole", .fieldLinkNest "DotConsole$LineReader" 68 "DotConsole" "PARTS" "[I" "DotConsole", .methodLinkNest "DotConsole" 18 ⟨"DotConsole$Names", "<init>", "()V"⟩ "DotConsole", .methodLinkNest "DotConsole" 34 ⟨"DotConsole$Program", "<init>", "()V"⟩ "DotConsole", .methodLinkNest "DotConsole$Machine" 11 ⟨"DotConsole$Screen", "<init>", "()V"⟩ "DotConsole", .methodLinkNest "DotConsole$Machine" 20 ⟨"DotConsole$Pad", "<init>", "()V"⟩ "DotConsole", .methodLinkNest "DotConsole$LineReader" 122 ⟨"DotConsole", "isBuiltIn", "(I)Z"⟩ "DotConsole", .methodLinkNest "DotConsole$LineReader" 134 ⟨"DotConsole", "rankOf", "(I)I"⟩ "DotConsole", .methodLinkNest "DotConsole$Machine" 128 ⟨"DotConsole", "partsOf", "(I)I"⟩ "DotConsole"]
theorem ax_N_in : ∀ z ∈ ax_N, z ∈ lw_tbl := by decide +kernel
theorem ax_N_warm {s U : State} (hW : s.WarmedH U.vm) (h : ∀ z ∈ ax_N, va_Nw z s) : ∀ z ∈ ax_N, va_Nw z U :=
  List.forall_mem_cons.mpr ⟨va_Nw.warmF hW (h _ (List.mem_of_getElem? (i := 0) rfl)), List.forall_mem_cons.mpr ⟨va_Nw.warmF hW (h _ (List.mem_of_getElem? (i := 1) rfl)), List.forall_mem_cons.mpr ⟨va_Nw.warmM hW (h _ (List.mem_of_getElem? (i := 2) rfl)), List.forall_mem_cons.mpr ⟨va_Nw.warmM hW (h _ (List.mem_of_getElem? (i := 3) rfl)), List.forall_mem_cons.mpr ⟨va_Nw.warmM hW (h _ (List.mem_of_getElem? (i := 4) rfl)), List.forall_mem_cons.mpr ⟨va_Nw.warmM hW (h _ (List.mem_of_getElem? (i := 5) rfl)), List.forall_mem_cons.mpr ⟨va_Nw.warmM hW (h _ (List.mem_of_getElem? (i := 6) rfl)), List.forall_mem_cons.mpr ⟨va_Nw.warmM hW (h _ (List.mem_of_getElem? (i := 7) rfl)), List.forall_mem_cons.mpr ⟨va_Nw.warmM hW (h _ (List.mem_of_getElem? (i := 8) rfl)), fun _ h => absurd h List.not_mem_nil⟩⟩⟩⟩⟩⟩⟩⟩⟩
theorem ax_N_same {u U : State} (hv : u.vm = U.vm) (h : ∀ z ∈ ax_N, va_Nw z u) : ∀ z ∈ ax_N, va_Nw z U :=
  List.forall_mem_cons.mpr ⟨va_Nw.same rfl hv (h _ (List.mem_of_getElem? (i := 0) rfl)), List.forall_mem_cons.mpr ⟨va_Nw.same rfl hv (h _ (List.mem_of_getElem? (i := 1) rfl)), List.forall_mem_cons.mpr ⟨va_Nw.same rfl hv (h _ (List.mem_of_getElem? (i := 2) rfl)), List.forall_mem_cons.mpr ⟨va_Nw.same rfl hv (h _ (List.mem_of_getElem? (i := 3) rfl)), List.forall_mem_cons.mpr ⟨va_Nw.same rfl hv (h _ (List.mem_of_getElem? (i := 4) rfl)), List.forall_mem_cons.mpr ⟨va_Nw.same rfl hv (h _ (List.mem_of_getElem? (i := 5) rfl)), List.forall_mem_cons.mpr ⟨va_Nw.same rfl hv (h _ (List.mem_of_getElem? (i := 6) rfl)), List.forall_mem_cons.mpr ⟨va_Nw.same rfl hv (h _ (List.mem_of_getElem? (i := 7) rfl)), List.forall_mem_cons.mpr ⟨va_Nw.same rfl hv (h _ (List.mem_of_getElem? (i := 8) rfl)), fun _ h => absurd h List.not_mem_nil⟩⟩⟩⟩⟩⟩⟩⟩⟩
theorem i_Con : ∀ z ∈ u_ws R_Con F_Con 6, z ∈ ax_T := fun z h => ax_mem ((by decide +kernel : ∀ z ∈ u_ws R_Con F_Con 6, z ∈ lw_tbl) z h) ((by decide +kernel : ∀ z ∈ u_ws R_Con F_Con 6, goodWord z = true) z h)
theorem i_Tokens : ∀ z ∈ u_ws R_Tokens F_Tokens 8, z ∈ ax_T := fun z h => ax_mem ((by decide +kernel : ∀ z ∈ u_ws R_Tokens F_Tokens 8, z ∈ lw_tbl) z h) ((by decide +kernel : ∀ z ∈ u_ws R_Tokens F_Tokens 8, goodWord z = true) z h)
theorem i_Names : ∀ z ∈ u_ws R_Names F_Names 4, z ∈ ax_T := fun z h => ax_mem ((by decide +kernel : ∀ z ∈ u_ws R_Names F_Names 4, z ∈ lw_tbl) z h) ((by decide +kernel : ∀ z ∈ u_ws R_Names F_Names 4, goodWord z = true) z h)
theorem i_LineReader : ∀ z ∈ u_ws R_LineReader F_LineReader 17, z ∈ ax_T := fun z h => ax_mem ((by decide +kernel : ∀ z ∈ u_ws R_LineReader F_LineReader 17, z ∈ lw_tbl) z h) ((by decide +kernel : ∀ z ∈ u_ws R_LineReader F_LineReader 17, goodWord z = true) z h)
theorem i_Program : ∀ z ∈ u_ws R_Program F_Program 10, z ∈ ax_T := fun z h => ax_mem ((by decide +kernel : ∀ z ∈ u_ws R_Program F_Program 10, z ∈ lw_tbl) z h) ((by decide +kernel : ∀ z ∈ u_ws R_Program F_Program 10, goodWord z = true) z h)
theorem i_Machine : ∀ z ∈ u_ws R_Machine F_Machine 10, z ∈ ax_T := fun z h => ax_mem ((by decide +kernel : ∀ z ∈ u_ws R_Machine F_Machine 10, z ∈ lw_tbl) z h) ((by decide +kernel : ∀ z ∈ u_ws R_Machine F_Machine 10, goodWord z = true) z h)
theorem i_Screen : ∀ z ∈ u_ws R_Screen F_Screen 1, z ∈ ax_T := fun z h => ax_mem ((by decide +kernel : ∀ z ∈ u_ws R_Screen F_Screen 1, z ∈ lw_tbl) z h) ((by decide +kernel : ∀ z ∈ u_ws R_Screen F_Screen 1, goodWord z = true) z h)
theorem i_Pad : ∀ z ∈ u_ws R_Pad F_Pad 1, z ∈ ax_T := fun z h => ax_mem ((by decide +kernel : ∀ z ∈ u_ws R_Pad F_Pad 1, z ∈ lw_tbl) z h) ((by decide +kernel : ∀ z ∈ u_ws R_Pad F_Pad 1, goodWord z = true) z h)
theorem i_Mod : ∀ z ∈ u_ws R_Mod F_Mod 30, z ∈ ax_T := fun z h => ax_mem ((by decide +kernel : ∀ z ∈ u_ws R_Mod F_Mod 30, z ∈ lw_tbl) z h) ((by decide +kernel : ∀ z ∈ u_ws R_Mod F_Mod 30, goodWord z = true) z h)
/-- what a run of the system takes as given: the classes' numbers, addresses of the cells, the array classes, addresses of the static tables and texts -/
abbrev ax_G : Type := va_G × (Nat → Nat) × (Nat → ClassId) × (Nat → Nat)
abbrev ax_tys (g : ax_G) : List (ClassId × FieldType) := [(g.2.2.1 0, .int), (g.2.2.1 1, .char)]
def tPARTS : Nat → Int32 := fun j => ([1, 0, 1, 0, 1, 3, 5, 5, 2, 1, 1, 1, 1, 2, 2, 2, 1] : List Int32).getD j 0
def tTENS : Nat → Int32 := fun j => ([1, 10, 100, 1000, 10000] : List Int32).getD j 0
def tWORDS : Nat → Int32 := fun j => ([105, 102, 32, 32, 32, 32, 101, 108, 115, 101, 32, 32, 119, 104, 105, 108, 101, 32, 101, 110, 100, 32, 32, 32, 99, 108, 115, 32, 32, 32, 112, 115, 101, 116, 32, 32, 108, 105, 110, 101, 32, 32, 98, 111, 120, 32, 32, 32, 112, 111, 107, 101, 32, 32, 97, 98, 115, 32, 32, 32, 102, 108, 114, 32, 32, 32, 98, 116, 110, 32, 32, 32, 98, 116, 110, 112, 32, 32, 109, 105, 110, 32, 32, 32, 109, 97, 120, 32, 32, 32, 112, 103, 101, 116, 32, 32, 114, 110, 100, 32, 32, 32] : List Int32).getD j 0
def tSIGNS : Nat → Int32 := fun j => ([43, 45, 42, 47, 37, 60, 62, 61, 38, 124, 33, 64, 44, 40, 41] : List Int32).getD j 0
def ax_len : List Nat := [102, 15]
def ax_byt : List (List Int32) := [[105, 102, 32, 32, 32, 32, 101, 108, 115, 101, 32, 32, 119, 104, 105, 108, 101, 32, 101, 110, 100, 32, 32, 32, 99, 108, 115, 32, 32, 32, 112, 115, 101, 116, 32, 32, 108, 105, 110, 101, 32, 32, 98, 111, 120, 32, 32, 32, 112, 111, 107, 101, 32, 32, 97, 98, 115, 32, 32, 32, 102, 108, 114, 32, 32, 32, 98, 116, 110, 32, 32, 32, 98, 116, 110, 112, 32, 32, 109, 105, 110, 32, 32, 32, 109, 97, 120, 32, 32, 32, 112, 103, 101, 116, 32, 32, 114, 110, 100, 32, 32, 32], [43, 45, 42, 47, 37, 60, 62, 61, 38, 124, 33, 64, 44, 40, 41]]
/-- what stays: the tables, the static arrays, the texts -/
def ax_K (g : ax_G) (A : Nat → Prop) (U : State) (H : Heap) : Prop := va_K g.1 classes (ax_tys g) U ∧ (∀ z ∈ ax_N, va_Nw z U) ∧
  (va_Z "DotConsole" "PARTS" "[I" (.ref (g.2.2.2 0)) A U H ∧ va_T .int (g.2.2.2 0) 17 (fun j => .int (tPARTS j)) A U H) ∧
  (va_Z "DotConsole" "TENS" "[I" (.ref (g.2.2.2 1)) A U H ∧ va_T .int (g.2.2.2 1) 5 (fun j => .int (tTENS j)) A U H) ∧
  vk_R "DotConsole$Tokens" 28 "if    else  while end   cls   pset  line  box   poke  abs   flr   btn   btnp  min   max   pget  rnd   " (g.2.2.2 2) U ∧ vk_R "DotConsole$Tokens" 67 "+-*/%<>=&|!@,()" (g.2.2.2 3) U ∧
  vk_S 2 ax_len ax_byt (fun i => g.2.2.2 (2 + i)) (fun i => g.2.2.2 (4 + i)) A U H ∧ va_Z "java/lang/String" "COMPACT_STRINGS" "Z" (.int 1) A U H ∧
  ∃ v : Value, v.category = 1 ∧ va_Z "jdk/internal/util/Preconditions" "SIOOBE_FORMATTER" "Ljava/util/function/BiFunction;" v A U H
theorem ax_K.to {g : ax_G} {A B : Nat → Prop} {s U : State} {H : Heap} {locs : List Loc} (h : ax_K g A s s.heap) (hS : va_S A s.heap H locs) (hF : ∀ q, B q → A q) (hW : s.WarmedH U.vm) (hU : U.heap = H) : ax_K g B U U.heap := by
  subst hU
  obtain ⟨h1, h2, ⟨h3, h4⟩, ⟨h5, h6⟩, h7, h8, h9, h10, vv, hv, h11⟩ := h
  have hq := hS.2.1
  have al := hW.alike
  exact ⟨va_K.moved al h1, ax_N_warm hW h2, ⟨va_Z.moved al ((h3.kept hq).narrow hF), va_T.moved al ((h4.kept hq).narrow hF)⟩, ⟨va_Z.moved al ((h5.kept hq).narrow hF), va_T.moved al ((h6.kept hq).narrow hF)⟩, vk_R.warm hW h7, vk_R.warm hW h8, vk_S.moved al ((h9.kept hq).narrow hF), va_Z.moved al ((h10.kept hq).narrow hF), vv, hv, va_Z.moved al ((h11.kept hq).narrow hF)⟩
theorem ax_K.call {g : ax_G} {A : Nat → Prop} {U : State} {H : Heap} {gg : JFrame} {mk : MethodId} {a : Array Value} (h : ax_K g A U H) : ax_K g A (U.calling gg mk a) H := by
  obtain ⟨h1, h2, ⟨h3, h4⟩, ⟨h5, h6⟩, h7, h8, h9, h10, vv, hv, h11⟩ := h
  have al : U.vm.Alike (U.calling gg mk a).vm := Vm.Alike.refl U.vm
  exact ⟨va_K.moved al h1, ax_N_same (u := U) rfl h2, ⟨va_Z.moved al h3, va_T.moved al h4⟩, ⟨va_Z.moved al h5, va_T.moved al h6⟩, vk_R.same (u := U) rfl h7, vk_R.same (u := U) rfl h8, vk_S.moved al h9, va_Z.moved al h10, vv, hv, va_Z.moved al h11⟩
/-- the state: scalar fields, arrays -/
abbrev St : Type := (Nat → Int32) × (Nat → Nat → Int32)
def sF (σ : St) (k : Nat) (v : Int32) : St := (upd σ.1 k v, σ.2)
def sA (σ : St) (k i : Nat) (v : Int32) : St := (σ.1, va_up σ.2 k (upd (σ.2 k) i v))
def sC (σ : St) (k0 k1 sp dp n : Nat) : St := (σ.1, va_up σ.2 k1 (va_cpy (σ.2 k0) (σ.2 k1) sp dp n))
def inB (i : Int32) (N : Nat) : Bool := !(decide (i < 0) || decide (N ≤ i.toNatClampNeg))
theorem inB_vp {i : Int32} {N : Nat} (h : inB i N = true) : vp_in i N := by
  unfold inB at h
  unfold vp_in
  simpa using h
def cpB (sp dp n : Int32) (n0 n1 : Nat) : Bool := !(decide (sp < 0)) && (!(decide (dp < 0)) && (!(decide (n < 0)) && (decide (sp.toNatClampNeg + n.toNatClampNeg ≤ n0) && decide (dp.toNatClampNeg + n.toNatClampNeg ≤ n1))))
def ax_let {α β : Type} (v : α) (f : α → β) : β := f v
theorem ax_letE {α β : Type} {v : α} {f : α → β} {y : β} (h : ax_let v f = y) : ∃ u, v = u ∧ f u = y := ⟨v, rfl, h⟩
theorem ax_need {α : Type} {b : Bool} {X : Option α} {y : α} (h : (if b = true then X else none) = some y) : b = true ∧ X = some y := by
  by_cases hb : b = true
  · rw [if_pos hb] at h; exact ⟨hb, h⟩
  · rw [if_neg hb] at h; cases h
theorem ax_need0 {α β : Type} {e z : β} [DecidableEq β] {X : Option α} {y : α} (h : (if e = z then none else X) = some y) : ¬ e = z ∧ X = some y := by
  by_cases hb : e = z
  · rw [if_pos hb] at h; cases h
  · rw [if_neg hb] at h; exact ⟨hb, h⟩
theorem ax_ifE {α : Type} {c : Prop} [Decidable c] {X Y y : α} (h : (if c then X else Y) = y) : (c ∧ X = y) ∨ (¬ c ∧ Y = y) := by
  by_cases hb : c
  · rw [if_pos hb] at h; exact Or.inl ⟨hb, h⟩
  · rw [if_neg hb] at h; exact Or.inr ⟨hb, h⟩
def ax_bind {α : Type} (o : Option (Int32 × St)) (f : Int32 → St → Option α) : Option α := match o with
  | none => none
  | some p => f p.1 p.2
def ax_bindV {α : Type} (o : Option St) (f : St → Option α) : Option α := match o with
  | none => none
  | some p => f p
theorem ax_bindE {α : Type} {o : Option (Int32 × St)} {f : Int32 → St → Option α} {y : α} (h : ax_bind o f = some y) : ∃ r σ, o = some (r, σ) ∧ f r σ = some y := by
  cases o with
  | none => cases h
  | some p => exact ⟨p.1, p.2, rfl, h⟩
theorem ax_bindVE {α : Type} {o : Option St} {f : St → Option α} {y : α} (h : ax_bindV o f = some y) : ∃ σ, o = some σ ∧ f σ = some y := by
  cases o with
  | none => cases h
  | some p => exact ⟨p, rfl, h⟩
def ax_eqI (r : Int32) (s : St) : Int32 → St → Prop := fun r' s' => r' = r ∧ s' = s
def ax_eqZ (r : Int32) (s : St) : Int32 → St → Prop := fun r' s' => r' = r ∧ s' = s ∧ narrow .boolean (.int r') = .int r'
def ax_eqV (s : St) : St → Prop := fun s' => s' = s
theorem ax_ret {a r : Int32} {b s : St} (h : some (a, b) = some (r, s)) : ax_eqI r s a b := by cases h; exact ⟨rfl, rfl⟩
theorem ax_retZ {a r : Int32} {b s : St} (h : some (a, b) = some (r, s)) (hn : narrow .boolean (.int a) = .int a) : ax_eqZ r s a b := by cases h; exact ⟨rfl, rfl, hn⟩
def ax_eqC (r : Int32) (s : St) : Int32 → St → Prop := fun r' s' => r' = r ∧ s' = s ∧ narrow .char (.int r') = .int r'
theorem ax_retC {a r : Int32} {b s : St} (h : some (a, b) = some (r, s)) (hn : narrow .char (.int a) = .int a) : ax_eqC r s a b := by cases h; exact ⟨rfl, rfl, hn⟩
theorem ax_retV {b s : St} (h : some b = some s) : ax_eqV s b := by cases h; rfl
