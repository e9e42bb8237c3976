/-! Own names: classes, words, methods, decode rows (by wip/whole/gen/names.py). BG: the good words of the tables, one list for every method. -/
def BG : List Cond := lw_tbl.filter goodWord
theorem BG_good : GoodIn BG BG := fun w h => ⟨h, good_of_word (List.mem_filter.mp h).2⟩
theorem BG_cons {w : Cond} (h : w ∈ BG) : GoodIn BG (w :: BG) := fun x hx => (List.mem_cons.mp hx).elim (fun e => by rw [e]; exact BG_good w h) (BG_good x)
abbrev R_Cache : String := "SnoopingBus$Cache"
def T_Cache : u_T := fun k => match k with
  | 0 => ("SnoopingBus$Cache", "main", "LSnoopingBus$MainMemory;", true)
  | 1 => ("SnoopingBus$Cache", "ways", "I", true)
  | 2 => ("SnoopingBus$Cache", "states", "[I", true)
  | 3 => ("SnoopingBus$Cache", "usedAt", "[I", true)
  | 4 => ("SnoopingBus$Cache", "words", "[I", true)
  | _ => ("SnoopingBus$Cache", "uses", "I", false)
def ty_Cache : Nat → FieldType := fun k => match k with
  | 0 => .object "SnoopingBus$MainMemory"
  | 1 => .int
  | 2 => .array (.int)
  | 3 => .array (.int)
  | 4 => .array (.int)
  | _ => .int
theorem nm_Cache : ∀ a, a < 6 → ∀ b, b < 6 → a ≠ b → (T_Cache a).2.1 ≠ (T_Cache b).2.1 := by decide +kernel
theorem tyok_Cache : ∀ k, k < 6 → parseFieldDescriptor (T_Cache k).2.2.1 = some (ty_Cache k) := by decide +kernel
theorem iw_0 : (Cond.laysFinal "SnoopingBus$Cache" "SnoopingBus$Cache" "main" "LSnoopingBus$MainMemory;") ∈ BG := List.mem_filter.mpr ⟨List.mem_append_right _ (List.mem_append_left _ (List.mem_of_getElem? (l := tables_1_1) (i := 57) rfl)), rfl⟩
theorem iw_1 : (Cond.laysFinal "SnoopingBus$Cache" "SnoopingBus$Cache" "ways" "I") ∈ BG := List.mem_filter.mpr ⟨List.mem_append_right _ (List.mem_append_left _ (List.mem_of_getElem? (l := tables_1_1) (i := 59) rfl)), rfl⟩
theorem iw_2 : (Cond.laysFinal "SnoopingBus$Cache" "SnoopingBus$Cache" "states" "[I") ∈ BG := List.mem_filter.mpr ⟨List.mem_append_right _ (List.mem_append_left _ (List.mem_of_getElem? (l := tables_1_1) (i := 61) rfl)), rfl⟩
theorem iw_3 : (Cond.laysFinal "SnoopingBus$Cache" "SnoopingBus$Cache" "usedAt" "[I") ∈ BG := List.mem_filter.mpr ⟨List.mem_append_right _ (List.mem_append_left _ (List.mem_of_getElem? (l := tables_1_1) (i := 63) rfl)), rfl⟩
theorem iw_4 : (Cond.laysFinal "SnoopingBus$Cache" "SnoopingBus$Cache" "words" "[I") ∈ BG := List.mem_filter.mpr ⟨List.mem_append_right _ (List.mem_append_left _ (List.mem_of_getElem? (l := tables_1_1) (i := 65) rfl)), rfl⟩
theorem iw_5 : (Cond.lays "SnoopingBus$Cache" "SnoopingBus$Cache" "uses" "I") ∈ BG := List.mem_filter.mpr ⟨List.mem_append_right _ (List.mem_append_left _ (List.mem_of_getElem? (l := tables_1_1) (i := 67) rfl)), rfl⟩
theorem in_Cache : ∀ w ∈ u_ws R_Cache T_Cache 6, w ∈ BG := List.forall_mem_cons.mpr ⟨iw_0, List.forall_mem_cons.mpr ⟨iw_1, List.forall_mem_cons.mpr ⟨iw_2, List.forall_mem_cons.mpr ⟨iw_3, List.forall_mem_cons.mpr ⟨iw_4, List.forall_mem_cons.mpr ⟨iw_5, fun _ h => absurd h List.not_mem_nil⟩⟩⟩⟩⟩⟩
abbrev R_Core : String := "SnoopingBus$Core"
def T_Core : u_T := fun k => match k with
  | 0 => ("SnoopingBus$Core", "cache", "LSnoopingBus$Cache;", true)
  | 1 => ("SnoopingBus$Core", "storeAddresses", "[I", true)
  | 2 => ("SnoopingBus$Core", "storeWords", "[I", true)
  | 3 => ("SnoopingBus$Core", "stores", "I", false)
  | 4 => ("SnoopingBus$Core", "requestKind", "I", false)
  | 5 => ("SnoopingBus$Core", "requestAddress", "I", false)
  | 6 => ("SnoopingBus$Core", "requestWord", "I", false)
  | _ => ("SnoopingBus$Core", "lastWord", "I", false)
def ty_Core : Nat → FieldType := fun k => match k with
  | 0 => .object "SnoopingBus$Cache"
  | 1 => .array (.int)
  | 2 => .array (.int)
  | 3 => .int
  | 4 => .int
  | 5 => .int
  | 6 => .int
  | _ => .int
theorem nm_Core : ∀ a, a < 8 → ∀ b, b < 8 → a ≠ b → (T_Core a).2.1 ≠ (T_Core b).2.1 := by decide +kernel
theorem tyok_Core : ∀ k, k < 8 → parseFieldDescriptor (T_Core k).2.2.1 = some (ty_Core k) := by decide +kernel
theorem iw_6 : (Cond.laysFinal "SnoopingBus$Core" "SnoopingBus$Core" "cache" "LSnoopingBus$Cache;") ∈ BG := List.mem_filter.mpr ⟨List.mem_append_right _ (List.mem_append_left _ (List.mem_of_getElem? (l := tables_1_1) (i := 90) rfl)), rfl⟩
theorem iw_7 : (Cond.laysFinal "SnoopingBus$Core" "SnoopingBus$Core" "storeAddresses" "[I") ∈ BG := List.mem_filter.mpr ⟨List.mem_append_right _ (List.mem_append_left _ (List.mem_of_getElem? (l := tables_1_1) (i := 92) rfl)), rfl⟩
theorem iw_8 : (Cond.laysFinal "SnoopingBus$Core" "SnoopingBus$Core" "storeWords" "[I") ∈ BG := List.mem_filter.mpr ⟨List.mem_append_right _ (List.mem_append_left _ (List.mem_of_getElem? (l := tables_1_1) (i := 94) rfl)), rfl⟩
theorem iw_9 : (Cond.lays "SnoopingBus$Core" "SnoopingBus$Core" "stores" "I") ∈ BG := List.mem_filter.mpr ⟨List.mem_append_right _ (List.mem_append_left _ (List.mem_of_getElem? (l := tables_1_1) (i := 96) rfl)), rfl⟩
theorem iw_10 : (Cond.lays "SnoopingBus$Core" "SnoopingBus$Core" "requestKind" "I") ∈ BG := List.mem_filter.mpr ⟨List.mem_append_right _ (List.mem_append_left _ (List.mem_of_getElem? (l := tables_1_1) (i := 98) rfl)), rfl⟩
theorem iw_11 : (Cond.lays "SnoopingBus$Core" "SnoopingBus$Core" "requestAddress" "I") ∈ BG := List.mem_filter.mpr ⟨List.mem_append_right _ (List.mem_append_left _ (List.mem_of_getElem? (l := tables_1_1) (i := 100) rfl)), rfl⟩
theorem iw_12 : (Cond.lays "SnoopingBus$Core" "SnoopingBus$Core" "requestWord" "I") ∈ BG := List.mem_filter.mpr ⟨List.mem_append_right _ (List.mem_append_left _ (List.mem_of_getElem? (l := tables_1_1) (i := 102) rfl)), rfl⟩
theorem iw_13 : (Cond.lays "SnoopingBus$Core" "SnoopingBus$Core" "lastWord" "I") ∈ BG := List.mem_filter.mpr ⟨List.mem_append_right _ (List.mem_append_left _ (List.mem_of_getElem? (l := tables_1_1) (i := 104) rfl)), rfl⟩
theorem in_Core : ∀ w ∈ u_ws R_Core T_Core 8, w ∈ BG := List.forall_mem_cons.mpr ⟨iw_6, List.forall_mem_cons.mpr ⟨iw_7, List.forall_mem_cons.mpr ⟨iw_8, List.forall_mem_cons.mpr ⟨iw_9, List.forall_mem_cons.mpr ⟨iw_10, List.forall_mem_cons.mpr ⟨iw_11, List.forall_mem_cons.mpr ⟨iw_12, List.forall_mem_cons.mpr ⟨iw_13, fun _ h => absurd h List.not_mem_nil⟩⟩⟩⟩⟩⟩⟩⟩
abbrev R_Mem : String := "SnoopingBus$MainMemory"
def T_Mem : u_T := fun k => match k with
  | 0 => ("SnoopingBus$MainMemory", "words", "[I", true)
  | _ => ("SnoopingBus$MainMemory", "writeBacks", "I", false)
def ty_Mem : Nat → FieldType := fun k => match k with
  | 0 => .array (.int)
  | _ => .int
theorem nm_Mem : ∀ a, a < 2 → ∀ b, b < 2 → a ≠ b → (T_Mem a).2.1 ≠ (T_Mem b).2.1 := by decide +kernel
theorem tyok_Mem : ∀ k, k < 2 → parseFieldDescriptor (T_Mem k).2.2.1 = some (ty_Mem k) := by decide +kernel
theorem iw_14 : (Cond.laysFinal "SnoopingBus$MainMemory" "SnoopingBus$MainMemory" "words" "[I") ∈ BG := List.mem_filter.mpr ⟨List.mem_append_right _ (List.mem_append_left _ (List.mem_of_getElem? (l := tables_1_1) (i := 27) rfl)), rfl⟩
theorem iw_15 : (Cond.lays "SnoopingBus$MainMemory" "SnoopingBus$MainMemory" "writeBacks" "I") ∈ BG := List.mem_filter.mpr ⟨List.mem_append_right _ (List.mem_append_left _ (List.mem_of_getElem? (l := tables_1_1) (i := 29) rfl)), rfl⟩
theorem in_Mem : ∀ w ∈ u_ws R_Mem T_Mem 2, w ∈ BG := List.forall_mem_cons.mpr ⟨iw_14, List.forall_mem_cons.mpr ⟨iw_15, fun _ h => absurd h List.not_mem_nil⟩⟩
abbrev R_Bus : String := "SnoopingBus"
def T_Bus : u_T := fun k => match k with
  | 0 => ("SnoopingBus", "main", "LSnoopingBus$MainMemory;", true)
  | 1 => ("SnoopingBus", "cores", "[LSnoopingBus$Core;", true)
  | 2 => ("SnoopingBus", "servedLast", "I", false)
  | 3 => ("SnoopingBus", "served", "I", false)
  | 4 => ("SnoopingBus", "invalidations", "I", false)
  | _ => ("SnoopingBus", "upgrades", "I", false)
def ty_Bus : Nat → FieldType := fun k => match k with
  | 0 => .object "SnoopingBus$MainMemory"
  | 1 => .array (.object "SnoopingBus$Core")
  | 2 => .int
  | 3 => .int
  | 4 => .int
  | _ => .int
theorem nm_Bus : ∀ a, a < 6 → ∀ b, b < 6 → a ≠ b → (T_Bus a).2.1 ≠ (T_Bus b).2.1 := by decide +kernel
theorem tyok_Bus : ∀ k, k < 6 → parseFieldDescriptor (T_Bus k).2.2.1 = some (ty_Bus k) := by decide +kernel
theorem iw_16 : (Cond.laysFinal "SnoopingBus" "SnoopingBus" "main" "LSnoopingBus$MainMemory;") ∈ BG := List.mem_filter.mpr ⟨List.mem_append_right _ (List.mem_append_left _ (List.mem_of_getElem? (l := tables_1_1) (i := 113) rfl)), rfl⟩
theorem iw_17 : (Cond.laysFinal "SnoopingBus" "SnoopingBus" "cores" "[LSnoopingBus$Core;") ∈ BG := List.mem_filter.mpr ⟨List.mem_append_right _ (List.mem_append_left _ (List.mem_of_getElem? (l := tables_1_1) (i := 115) rfl)), rfl⟩
theorem iw_18 : (Cond.lays "SnoopingBus" "SnoopingBus" "servedLast" "I") ∈ BG := List.mem_filter.mpr ⟨List.mem_append_right _ (List.mem_append_left _ (List.mem_of_getElem? (l := tables_1_1) (i := 117) rfl)), rfl⟩
theorem iw_19 : (Cond.lays "SnoopingBus" "SnoopingBus" "served" "I") ∈ BG := List.mem_filter.mpr ⟨List.mem_append_right _ (List.mem_append_left _ (List.mem_of_getElem? (l := tables_1_1) (i := 119) rfl)), rfl⟩
theorem iw_20 : (Cond.lays "SnoopingBus" "SnoopingBus" "invalidations" "I") ∈ BG := List.mem_filter.mpr ⟨List.mem_append_right _ (List.mem_append_left _ (List.mem_of_getElem? (l := tables_1_1) (i := 121) rfl)), rfl⟩
theorem iw_21 : (Cond.lays "SnoopingBus" "SnoopingBus" "upgrades" "I") ∈ BG := List.mem_filter.mpr ⟨List.mem_append_right _ (List.mem_append_left _ (List.mem_of_getElem? (l := tables_1_1) (i := 123) rfl)), rfl⟩
theorem in_Bus : ∀ w ∈ u_ws R_Bus T_Bus 6, w ∈ BG := List.forall_mem_cons.mpr ⟨iw_16, List.forall_mem_cons.mpr ⟨iw_17, List.forall_mem_cons.mpr ⟨iw_18, List.forall_mem_cons.mpr ⟨iw_19, List.forall_mem_cons.mpr ⟨iw_20, List.forall_mem_cons.mpr ⟨iw_21, fun _ h => absurd h List.not_mem_nil⟩⟩⟩⟩⟩⟩
abbrev R_Model : String := "SnoopingBusModel"
def T_Model : u_T := fun k => match k with
  | 0 => ("SnoopingBusModel", "cores", "I", true)
  | 1 => ("SnoopingBusModel", "ways", "I", true)
  | 2 => ("SnoopingBusModel", "words", "[I", true)
  | 3 => ("SnoopingBusModel", "lines", "[I", true)
  | 4 => ("SnoopingBusModel", "states", "[I", true)
  | 5 => ("SnoopingBusModel", "used", "[I", true)
  | 6 => ("SnoopingBusModel", "copies", "[I", true)
  | 7 => ("SnoopingBusModel", "clock", "I", false)
  | 8 => ("SnoopingBusModel", "stores", "[I", true)
  | 9 => ("SnoopingBusModel", "addresses", "[I", true)
  | 10 => ("SnoopingBusModel", "values", "[I", true)
  | 11 => ("SnoopingBusModel", "lasts", "[I", true)
  | 12 => ("SnoopingBusModel", "kinds", "[I", true)
  | 13 => ("SnoopingBusModel", "wanted", "[I", true)
  | 14 => ("SnoopingBusModel", "operands", "[I", true)
  | 15 => ("SnoopingBusModel", "turn", "I", false)
  | _ => ("SnoopingBusModel", "counts", "[I", true)
def ty_Model : Nat → FieldType := fun k => match k with
  | 0 => .int
  | 1 => .int
  | 2 => .array (.int)
  | 3 => .array (.int)
  | 4 => .array (.int)
  | 5 => .array (.int)
  | 6 => .array (.int)
  | 7 => .int
  | 8 => .array (.int)
  | 9 => .array (.int)
  | 10 => .array (.int)
  | 11 => .array (.int)
  | 12 => .array (.int)
  | 13 => .array (.int)
  | 14 => .array (.int)
  | 15 => .int
  | _ => .array (.int)
theorem nm_Model : ∀ a, a < 17 → ∀ b, b < 17 → a ≠ b → (T_Model a).2.1 ≠ (T_Model b).2.1 := by decide +kernel
theorem tyok_Model : ∀ k, k < 17 → parseFieldDescriptor (T_Model k).2.2.1 = some (ty_Model k) := by decide +kernel
theorem iw_22 : (Cond.laysFinal "SnoopingBusModel" "SnoopingBusModel" "cores" "I") ∈ BG := List.mem_filter.mpr ⟨List.mem_append_right _ (List.mem_append_right _ (List.mem_append_left _ (List.mem_of_getElem? (l := tables_1_2) (i := 88) rfl))), rfl⟩
theorem iw_23 : (Cond.laysFinal "SnoopingBusModel" "SnoopingBusModel" "ways" "I") ∈ BG := List.mem_filter.mpr ⟨List.mem_append_right _ (List.mem_append_right _ (List.mem_append_left _ (List.mem_of_getElem? (l := tables_1_2) (i := 90) rfl))), rfl⟩
theorem iw_24 : (Cond.laysFinal "SnoopingBusModel" "SnoopingBusModel" "words" "[I") ∈ BG := List.mem_filter.mpr ⟨List.mem_append_right _ (List.mem_append_right _ (List.mem_append_left _ (List.mem_of_getElem? (l := tables_1_2) (i := 92) rfl))), rfl⟩
theorem iw_25 : (Cond.laysFinal "SnoopingBusModel" "SnoopingBusModel" "lines" "[I") ∈ BG := List.mem_filter.mpr ⟨List.mem_append_right _ (List.mem_append_right _ (List.mem_append_left _ (List.mem_of_getElem? (l := tables_1_2) (i := 94) rfl))), rfl⟩
theorem iw_26 : (Cond.laysFinal "SnoopingBusModel" "SnoopingBusModel" "states" "[I") ∈ BG := List.mem_filter.mpr ⟨List.mem_append_right _ (List.mem_append_right _ (List.mem_append_left _ (List.mem_of_getElem? (l := tables_1_2) (i := 96) rfl))), rfl⟩
theorem iw_27 : (Cond.laysFinal "SnoopingBusModel" "SnoopingBusModel" "used" "[I") ∈ BG := List.mem_filter.mpr ⟨List.mem_append_right _ (List.mem_append_right _ (List.mem_append_left _ (List.mem_of_getElem? (l := tables_1_2) (i := 98) rfl))), rfl⟩
theorem iw_28 : (Cond.laysFinal "SnoopingBusModel" "SnoopingBusModel" "copies" "[I") ∈ BG := List.mem_filter.mpr ⟨List.mem_append_right _ (List.mem_append_right _ (List.mem_append_left _ (List.mem_of_getElem? (l := tables_1_2) (i := 100) rfl))), rfl⟩
theorem iw_29 : (Cond.lays "SnoopingBusModel" "SnoopingBusModel" "clock" "I") ∈ BG := List.mem_filter.mpr ⟨List.mem_append_right _ (List.mem_append_right _ (List.mem_append_left _ (List.mem_of_getElem? (l := tables_1_2) (i := 102) rfl))), rfl⟩
theorem iw_30 : (Cond.laysFinal "SnoopingBusModel" "SnoopingBusModel" "stores" "[I") ∈ BG := List.mem_filter.mpr ⟨List.mem_append_right _ (List.mem_append_right _ (List.mem_append_left _ (List.mem_of_getElem? (l := tables_1_2) (i := 104) rfl))), rfl⟩
theorem iw_31 : (Cond.laysFinal "SnoopingBusModel" "SnoopingBusModel" "addresses" "[I") ∈ BG := List.mem_filter.mpr ⟨List.mem_append_right _ (List.mem_append_right _ (List.mem_append_left _ (List.mem_of_getElem? (l := tables_1_2) (i := 106) rfl))), rfl⟩
theorem iw_32 : (Cond.laysFinal "SnoopingBusModel" "SnoopingBusModel" "values" "[I") ∈ BG := List.mem_filter.mpr ⟨List.mem_append_right _ (List.mem_append_right _ (List.mem_append_left _ (List.mem_of_getElem? (l := tables_1_2) (i := 108) rfl))), rfl⟩
theorem iw_33 : (Cond.laysFinal "SnoopingBusModel" "SnoopingBusModel" "lasts" "[I") ∈ BG := List.mem_filter.mpr ⟨List.mem_append_right _ (List.mem_append_right _ (List.mem_append_left _ (List.mem_of_getElem? (l := tables_1_2) (i := 110) rfl))), rfl⟩
theorem iw_34 : (Cond.laysFinal "SnoopingBusModel" "SnoopingBusModel" "kinds" "[I") ∈ BG := List.mem_filter.mpr ⟨List.mem_append_right _ (List.mem_append_right _ (List.mem_append_left _ (List.mem_of_getElem? (l := tables_1_2) (i := 112) rfl))), rfl⟩
theorem iw_35 : (Cond.laysFinal "SnoopingBusModel" "SnoopingBusModel" "wanted" "[I") ∈ BG := List.mem_filter.mpr ⟨List.mem_append_right _ (List.mem_append_right _ (List.mem_append_left _ (List.mem_of_getElem? (l := tables_1_2) (i := 114) rfl))), rfl⟩
theorem iw_36 : (Cond.laysFinal "SnoopingBusModel" "SnoopingBusModel" "operands" "[I") ∈ BG := List.mem_filter.mpr ⟨List.mem_append_right _ (List.mem_append_right _ (List.mem_append_left _ (List.mem_of_getElem? (l := tables_1_2) (i := 116) rfl))), rfl⟩
theorem iw_37 : (Cond.lays "SnoopingBusModel" "SnoopingBusModel" "turn" "I") ∈ BG := List.mem_filter.mpr ⟨List.mem_append_right _ (List.mem_append_right _ (List.mem_append_left _ (List.mem_of_getElem? (l := tables_1_2) (i := 118) rfl))), rfl⟩
theorem iw_38 : (Cond.laysFinal "SnoopingBusModel" "SnoopingBusModel" "counts" "[I") ∈ BG := List.mem_filter.mpr ⟨List.mem_append_right _ (List.mem_append_right _ (List.mem_append_left _ (List.mem_of_getElem? (l := tables_1_2) (i := 120) rfl))), rfl⟩
theorem in_Model : ∀ w ∈ u_ws R_Model T_Model 17, w ∈ BG := List.forall_mem_cons.mpr ⟨iw_22, List.forall_mem_cons.mpr ⟨iw_23, List.forall_mem_cons.mpr ⟨iw_24, List.forall_mem_cons.mpr ⟨iw_25, List.forall_mem_cons.mpr ⟨iw_26, List.forall_mem_cons.mpr ⟨iw_27, List.forall_mem_cons.mpr ⟨iw_28, List.forall_mem_cons.mpr ⟨iw_29, List.forall_mem_cons.mpr ⟨iw_30, List.forall_mem_cons.mpr ⟨iw_31, List.forall_mem_cons.mpr ⟨iw_32, List.forall_mem_cons.mpr ⟨iw_33, List.forall_mem_cons.mpr ⟨iw_34, List.forall_mem_cons.mpr ⟨iw_35, List.forall_mem_cons.mpr ⟨iw_36, List.forall_mem_cons.mpr ⟨iw_37, List.forall_mem_cons.mpr ⟨iw_38, fun _ h => absurd h List.not_mem_nil⟩⟩⟩⟩⟩⟩⟩⟩⟩⟩⟩⟩⟩⟩⟩⟩⟩
abbrev vwCl : List vw_C := [(R_Cache, T_Cache, 6), (R_Core, T_Core, 8), (R_Mem, T_Mem, 2), (R_Bus, T_Bus, 6), (R_Model, T_Model, 17)]
def isNest : Cond → Bool
  | .fieldLinkNest .. => true
  | .methodLinkNest .. => true
  | _ => false
def NW : List Cond := tables_1.filter isNest
theorem iw_39 : (Cond.initialized "SnoopingBus") ∈ BG := List.mem_filter.mpr ⟨List.mem_append_right _ (List.mem_append_left _ (List.mem_of_getElem? (l := tables_1_1) (i := 1) rfl)), rfl⟩
theorem iw_40 : (Cond.initialized "SnoopingBus$Cache") ∈ BG := List.mem_filter.mpr ⟨List.mem_append_right _ (List.mem_append_left _ (List.mem_of_getElem? (l := tables_1_1) (i := 5) rfl)), rfl⟩
theorem iw_41 : (Cond.initialized "SnoopingBus$Core") ∈ BG := List.mem_filter.mpr ⟨List.mem_append_right _ (List.mem_append_left _ (List.mem_of_getElem? (l := tables_1_1) (i := 4) rfl)), rfl⟩
theorem iw_42 : (Cond.initialized "SnoopingBus$MainMemory") ∈ BG := List.mem_filter.mpr ⟨List.mem_append_right _ (List.mem_append_left _ (List.mem_of_getElem? (l := tables_1_1) (i := 2) rfl)), rfl⟩
theorem iw_43 : (Cond.initialized "SnoopingBusModel") ∈ BG := List.mem_filter.mpr ⟨List.mem_append_right _ (List.mem_append_left _ (List.mem_of_getElem? (l := tables_1_1) (i := 6) rfl)), rfl⟩
theorem iw_44 : (Cond.initialized "SnoopingBusLaw") ∈ BG := List.mem_filter.mpr ⟨List.mem_append_right _ (List.mem_append_left _ (List.mem_of_getElem? (l := tables_1_1) (i := 0) rfl)), rfl⟩
abbrev b_Bus_init : ByteArray := prog_1_method_1_code
abbrev y_Bus_init : MethodName := ⟨"SnoopingBus", "<init>", "(II)V"⟩
theorem iw_45 : (Cond.code ⟨"SnoopingBus", "<init>", "(II)V"⟩ prog_1_method_1_code 6 none) ∈ BG := List.mem_filter.mpr ⟨List.mem_append_right _ (List.mem_append_left _ (List.mem_of_getElem? (l := tables_1_1) (i := 12) rfl)), rfl⟩
abbrev w_Bus_init : List Cond := Cond.code y_Bus_init b_Bus_init 6 none :: BG
theorem g_Bus_init : GoodIn BG w_Bus_init := BG_cons iw_45
theorem iw_46 : (Cond.instanceMethod ⟨"SnoopingBus", "<init>", "(II)V"⟩) ∈ BG := List.mem_filter.mpr ⟨List.mem_append_right _ (List.mem_append_left _ (List.mem_of_getElem? (l := tables_1_1) (i := 11) rfl)), rfl⟩
theorem iw_47 : (Cond.methodLink "SnoopingBus" 1 ⟨"java/lang/Object", "<init>", "()V"⟩) ∈ BG := List.mem_filter.mpr ⟨List.mem_append_right _ (List.mem_append_left _ (List.mem_of_getElem? (l := tables_1_1) (i := 13) rfl)), rfl⟩
theorem iw_48 : (Cond.classLink "SnoopingBus" 7 "SnoopingBus$MainMemory") ∈ BG := List.mem_filter.mpr ⟨List.mem_append_right _ (List.mem_append_left _ (List.mem_of_getElem? (l := tables_1_1) (i := 16) rfl)), rfl⟩
theorem in_w0 : (Cond.methodLinkNest "SnoopingBus" 9 ⟨"SnoopingBus$MainMemory", "<init>", "()V"⟩ "SnoopingBus") ∈ NW := List.mem_filter.mpr ⟨List.mem_append_left _ (List.mem_of_getElem? (l := tables_1_1) (i := 18) rfl), rfl⟩
theorem iw_49 : (Cond.fieldLink "SnoopingBus" 10 "SnoopingBus" "main" "LSnoopingBus$MainMemory;") ∈ BG := List.mem_filter.mpr ⟨List.mem_append_right _ (List.mem_append_left _ (List.mem_of_getElem? (l := tables_1_1) (i := 107) rfl)), rfl⟩
theorem iw_50 : (Cond.methodLink "SnoopingBus" 16 ⟨"java/lang/Math", "min", "(II)I"⟩) ∈ BG := List.mem_filter.mpr ⟨List.mem_append_right _ (List.mem_append_left _ (List.mem_of_getElem? (l := tables_1_1) (i := 33) rfl)), rfl⟩
theorem iw_51 : (Cond.methodLink "SnoopingBus" 22 ⟨"java/lang/Math", "max", "(II)I"⟩) ∈ BG := List.mem_filter.mpr ⟨List.mem_append_right _ (List.mem_append_left _ (List.mem_of_getElem? (l := tables_1_1) (i := 36) rfl)), rfl⟩
theorem iw_52 : (Cond.classLink "SnoopingBus" 25 "SnoopingBus$Core") ∈ BG := List.mem_filter.mpr ⟨List.mem_append_right _ (List.mem_append_left _ (List.mem_of_getElem? (l := tables_1_1) (i := 39) rfl)), rfl⟩
theorem iw_53 : (Cond.fieldLink "SnoopingBus" 27 "SnoopingBus" "cores" "[LSnoopingBus$Core;") ∈ BG := List.mem_filter.mpr ⟨List.mem_append_right _ (List.mem_append_left _ (List.mem_of_getElem? (l := tables_1_1) (i := 108) rfl)), rfl⟩
theorem iw_54 : (Cond.classLink "SnoopingBus" 31 "SnoopingBus$Cache") ∈ BG := List.mem_filter.mpr ⟨List.mem_append_right _ (List.mem_append_left _ (List.mem_of_getElem? (l := tables_1_1) (i := 42) rfl)), rfl⟩
theorem in_w1 : (Cond.methodLinkNest "SnoopingBus" 33 ⟨"SnoopingBus$Cache", "<init>", "(LSnoopingBus$MainMemory;I)V"⟩ "SnoopingBus") ∈ NW := List.mem_filter.mpr ⟨List.mem_append_left _ (List.mem_of_getElem? (l := tables_1_1) (i := 44) rfl), rfl⟩
theorem in_w2 : (Cond.methodLinkNest "SnoopingBus" 36 ⟨"SnoopingBus$Core", "<init>", "(LSnoopingBus$Cache;)V"⟩ "SnoopingBus") ∈ NW := List.mem_filter.mpr ⟨List.mem_append_left _ (List.mem_of_getElem? (l := tables_1_1) (i := 70) rfl), rfl⟩
theorem iw_55 : (Cond.fieldLink "SnoopingBus" 39 "SnoopingBus" "servedLast" "I") ∈ BG := List.mem_filter.mpr ⟨List.mem_append_right _ (List.mem_append_left _ (List.mem_of_getElem? (l := tables_1_1) (i := 109) rfl)), rfl⟩
abbrev b_Mem_init : ByteArray := prog_4_method_1_code
abbrev y_Mem_init : MethodName := ⟨"SnoopingBus$MainMemory", "<init>", "()V"⟩
theorem iw_56 : (Cond.code ⟨"SnoopingBus$MainMemory", "<init>", "()V"⟩ prog_4_method_1_code 1 none) ∈ BG := List.mem_filter.mpr ⟨List.mem_append_right _ (List.mem_append_left _ (List.mem_of_getElem? (l := tables_1_1) (i := 20) rfl)), rfl⟩
abbrev w_Mem_init : List Cond := Cond.code y_Mem_init b_Mem_init 1 none :: BG
theorem g_Mem_init : GoodIn BG w_Mem_init := BG_cons iw_56
theorem iw_57 : (Cond.instanceMethod ⟨"SnoopingBus$MainMemory", "<init>", "()V"⟩) ∈ BG := List.mem_filter.mpr ⟨List.mem_append_right _ (List.mem_append_left _ (List.mem_of_getElem? (l := tables_1_1) (i := 19) rfl)), rfl⟩
theorem iw_58 : (Cond.methodLink "SnoopingBus$MainMemory" 3 ⟨"java/lang/Object", "<init>", "()V"⟩) ∈ BG := List.mem_filter.mpr ⟨List.mem_append_right _ (List.mem_append_left _ (List.mem_of_getElem? (l := tables_1_1) (i := 21) rfl)), rfl⟩
theorem iw_59 : (Cond.fieldLink "SnoopingBus$MainMemory" 9 "SnoopingBus$MainMemory" "words" "[I") ∈ BG := List.mem_filter.mpr ⟨List.mem_append_right _ (List.mem_append_left _ (List.mem_of_getElem? (l := tables_1_1) (i := 22) rfl)), rfl⟩
abbrev b_Cache_init : ByteArray := prog_2_method_1_code
abbrev y_Cache_init : MethodName := ⟨"SnoopingBus$Cache", "<init>", "(LSnoopingBus$MainMemory;I)V"⟩
theorem iw_60 : (Cond.code ⟨"SnoopingBus$Cache", "<init>", "(LSnoopingBus$MainMemory;I)V"⟩ prog_2_method_1_code 3 none) ∈ BG := List.mem_filter.mpr ⟨List.mem_append_right _ (List.mem_append_left _ (List.mem_of_getElem? (l := tables_1_1) (i := 46) rfl)), rfl⟩
abbrev w_Cache_init : List Cond := Cond.code y_Cache_init b_Cache_init 3 none :: BG
theorem g_Cache_init : GoodIn BG w_Cache_init := BG_cons iw_60
theorem iw_61 : (Cond.instanceMethod ⟨"SnoopingBus$Cache", "<init>", "(LSnoopingBus$MainMemory;I)V"⟩) ∈ BG := List.mem_filter.mpr ⟨List.mem_append_right _ (List.mem_append_left _ (List.mem_of_getElem? (l := tables_1_1) (i := 45) rfl)), rfl⟩
theorem iw_62 : (Cond.methodLink "SnoopingBus$Cache" 3 ⟨"java/lang/Object", "<init>", "()V"⟩) ∈ BG := List.mem_filter.mpr ⟨List.mem_append_right _ (List.mem_append_left _ (List.mem_of_getElem? (l := tables_1_1) (i := 47) rfl)), rfl⟩
theorem iw_63 : (Cond.fieldLink "SnoopingBus$Cache" 9 "SnoopingBus$Cache" "states" "[I") ∈ BG := List.mem_filter.mpr ⟨List.mem_append_right _ (List.mem_append_left _ (List.mem_of_getElem? (l := tables_1_1) (i := 50) rfl)), rfl⟩
theorem iw_64 : (Cond.fieldLink "SnoopingBus$Cache" 15 "SnoopingBus$Cache" "usedAt" "[I") ∈ BG := List.mem_filter.mpr ⟨List.mem_append_right _ (List.mem_append_left _ (List.mem_of_getElem? (l := tables_1_1) (i := 52) rfl)), rfl⟩
theorem iw_65 : (Cond.fieldLink "SnoopingBus$Cache" 18 "SnoopingBus$Cache" "words" "[I") ∈ BG := List.mem_filter.mpr ⟨List.mem_append_right _ (List.mem_append_left _ (List.mem_of_getElem? (l := tables_1_1) (i := 53) rfl)), rfl⟩
theorem iw_66 : (Cond.fieldLink "SnoopingBus$Cache" 21 "SnoopingBus$Cache" "main" "LSnoopingBus$MainMemory;") ∈ BG := List.mem_filter.mpr ⟨List.mem_append_right _ (List.mem_append_left _ (List.mem_of_getElem? (l := tables_1_1) (i := 48) rfl)), rfl⟩
theorem iw_67 : (Cond.fieldLink "SnoopingBus$Cache" 25 "SnoopingBus$Cache" "ways" "I") ∈ BG := List.mem_filter.mpr ⟨List.mem_append_right _ (List.mem_append_left _ (List.mem_of_getElem? (l := tables_1_1) (i := 49) rfl)), rfl⟩
abbrev b_Core_init : ByteArray := prog_3_method_1_code
abbrev y_Core_init : MethodName := ⟨"SnoopingBus$Core", "<init>", "(LSnoopingBus$Cache;)V"⟩
theorem iw_68 : (Cond.code ⟨"SnoopingBus$Core", "<init>", "(LSnoopingBus$Cache;)V"⟩ prog_3_method_1_code 2 none) ∈ BG := List.mem_filter.mpr ⟨List.mem_append_right _ (List.mem_append_left _ (List.mem_of_getElem? (l := tables_1_1) (i := 72) rfl)), rfl⟩
abbrev w_Core_init : List Cond := Cond.code y_Core_init b_Core_init 2 none :: BG
theorem g_Core_init : GoodIn BG w_Core_init := BG_cons iw_68
theorem iw_69 : (Cond.instanceMethod ⟨"SnoopingBus$Core", "<init>", "(LSnoopingBus$Cache;)V"⟩) ∈ BG := List.mem_filter.mpr ⟨List.mem_append_right _ (List.mem_append_left _ (List.mem_of_getElem? (l := tables_1_1) (i := 71) rfl)), rfl⟩
theorem iw_70 : (Cond.methodLink "SnoopingBus$Core" 3 ⟨"java/lang/Object", "<init>", "()V"⟩) ∈ BG := List.mem_filter.mpr ⟨List.mem_append_right _ (List.mem_append_left _ (List.mem_of_getElem? (l := tables_1_1) (i := 73) rfl)), rfl⟩
theorem iw_71 : (Cond.fieldLink "SnoopingBus$Core" 9 "SnoopingBus$Core" "storeAddresses" "[I") ∈ BG := List.mem_filter.mpr ⟨List.mem_append_right _ (List.mem_append_left _ (List.mem_of_getElem? (l := tables_1_1) (i := 76) rfl)), rfl⟩
theorem iw_72 : (Cond.fieldLink "SnoopingBus$Core" 15 "SnoopingBus$Core" "storeWords" "[I") ∈ BG := List.mem_filter.mpr ⟨List.mem_append_right _ (List.mem_append_left _ (List.mem_of_getElem? (l := tables_1_1) (i := 78) rfl)), rfl⟩
theorem iw_73 : (Cond.fieldLink "SnoopingBus$Core" 18 "SnoopingBus$Core" "requestKind" "I") ∈ BG := List.mem_filter.mpr ⟨List.mem_append_right _ (List.mem_append_left _ (List.mem_of_getElem? (l := tables_1_1) (i := 82) rfl)), rfl⟩
theorem iw_74 : (Cond.fieldLink "SnoopingBus$Core" 22 "SnoopingBus$Core" "cache" "LSnoopingBus$Cache;") ∈ BG := List.mem_filter.mpr ⟨List.mem_append_right _ (List.mem_append_left _ (List.mem_of_getElem? (l := tables_1_1) (i := 74) rfl)), rfl⟩
abbrev b_Bus_load : ByteArray := prog_1_method_2_code
abbrev y_Bus_load : MethodName := ⟨"SnoopingBus", "load", "(II)I"⟩
theorem iw_75 : (Cond.code ⟨"SnoopingBus", "load", "(II)I"⟩ prog_1_method_2_code 5 (some FieldType.int)) ∈ BG := List.mem_filter.mpr ⟨List.mem_append_right _ (List.mem_append_left _ (List.mem_of_getElem? (l := tables_1_1) (i := 129) rfl)), rfl⟩
abbrev w_Bus_load : List Cond := Cond.code y_Bus_load b_Bus_load 5 (some FieldType.int) :: BG
theorem g_Bus_load : GoodIn BG w_Bus_load := BG_cons iw_75
theorem iw_76 : (Cond.instanceMethod ⟨"SnoopingBus", "load", "(II)I"⟩) ∈ BG := List.mem_filter.mpr ⟨List.mem_append_right _ (List.mem_append_left _ (List.mem_of_getElem? (l := tables_1_1) (i := 127) rfl)), rfl⟩
theorem iw_77 : (Cond.selects "SnoopingBus" ⟨"SnoopingBus", "load", "(II)I"⟩ ⟨"SnoopingBus", "load", "(II)I"⟩) ∈ BG := List.mem_filter.mpr ⟨List.mem_append_right _ (List.mem_append_left _ (List.mem_of_getElem? (l := tables_1_1) (i := 128) rfl)), rfl⟩
theorem iw_78 : (Cond.methodLink "SnoopingBus" 43 ⟨"SnoopingBus", "isCore", "(I)Z"⟩) ∈ BG := List.mem_filter.mpr ⟨List.mem_append_right _ (List.mem_append_left _ (List.mem_of_getElem? (l := tables_1_1) (i := 130) rfl)), rfl⟩
theorem iw_79 : (Cond.methodLink "SnoopingBus" 47 ⟨"SnoopingBus", "isAddress", "(I)Z"⟩) ∈ BG := List.mem_filter.mpr ⟨List.mem_append_right _ (List.mem_append_left _ (List.mem_of_getElem? (l := tables_1_1) (i := 134) rfl)), rfl⟩
theorem in_w3 : (Cond.methodLinkNest "SnoopingBus" 50 ⟨"SnoopingBus$Core", "waits", "()Z"⟩ "SnoopingBus") ∈ NW := List.mem_filter.mpr ⟨List.mem_append_left _ (List.mem_of_getElem? (l := tables_1_1) (i := 137) rfl), rfl⟩
theorem in_w4 : (Cond.methodLinkNest "SnoopingBus" 54 ⟨"SnoopingBus$Core", "newestStoreTo", "(I)I"⟩ "SnoopingBus") ∈ NW := List.mem_filter.mpr ⟨List.mem_append_left _ (List.mem_of_getElem? (l := tables_1_1) (i := 141) rfl), rfl⟩
theorem in_w5 : (Cond.fieldLinkNest "SnoopingBus" 58 "SnoopingBus$Core" "storeWords" "[I" "SnoopingBus") ∈ NW := List.mem_filter.mpr ⟨List.mem_append_left _ (List.mem_of_getElem? (l := tables_1_1) (i := 79) rfl), rfl⟩
theorem in_w6 : (Cond.fieldLinkNest "SnoopingBus" 62 "SnoopingBus$Core" "lastWord" "I" "SnoopingBus") ∈ NW := List.mem_filter.mpr ⟨List.mem_append_left _ (List.mem_of_getElem? (l := tables_1_1) (i := 88) rfl), rfl⟩
theorem in_w7 : (Cond.fieldLinkNest "SnoopingBus" 65 "SnoopingBus$Core" "cache" "LSnoopingBus$Cache;" "SnoopingBus") ∈ NW := List.mem_filter.mpr ⟨List.mem_append_left _ (List.mem_of_getElem? (l := tables_1_1) (i := 75) rfl), rfl⟩
theorem iw_80 : (Cond.methodLink "SnoopingBus" 69 ⟨"SnoopingBus", "lineOf", "(I)I"⟩) ∈ BG := List.mem_filter.mpr ⟨List.mem_append_right _ (List.mem_append_left _ (List.mem_of_getElem? (l := tables_1_1) (i := 145) rfl)), rfl⟩
theorem in_w8 : (Cond.methodLinkNest "SnoopingBus" 72 ⟨"SnoopingBus$Cache", "holds", "(I)Z"⟩ "SnoopingBus") ∈ NW := List.mem_filter.mpr ⟨List.mem_append_left _ (List.mem_of_getElem? (l := tables_1_1) (i := 148) rfl), rfl⟩
theorem in_w9 : (Cond.fieldLinkNest "SnoopingBus" 75 "SnoopingBus$Cache" "words" "[I" "SnoopingBus") ∈ NW := List.mem_filter.mpr ⟨List.mem_append_left _ (List.mem_of_getElem? (l := tables_1_1) (i := 54) rfl), rfl⟩
theorem in_w10 : (Cond.methodLinkNest "SnoopingBus" 78 ⟨"SnoopingBus$Cache", "use", "(I)V"⟩ "SnoopingBus") ∈ NW := List.mem_filter.mpr ⟨List.mem_append_left _ (List.mem_of_getElem? (l := tables_1_1) (i := 152) rfl), rfl⟩
theorem in_w11 : (Cond.methodLinkNest "SnoopingBus" 82 ⟨"SnoopingBus$Core", "ask", "(III)V"⟩ "SnoopingBus") ∈ NW := List.mem_filter.mpr ⟨List.mem_append_left _ (List.mem_of_getElem? (l := tables_1_1) (i := 156) rfl), rfl⟩
abbrev b_Bus_isCore : ByteArray := prog_1_method_18_code
abbrev y_Bus_isCore : MethodName := ⟨"SnoopingBus", "isCore", "(I)Z"⟩
theorem iw_81 : (Cond.code ⟨"SnoopingBus", "isCore", "(I)Z"⟩ prog_1_method_18_code 2 (some FieldType.boolean)) ∈ BG := List.mem_filter.mpr ⟨List.mem_append_right _ (List.mem_append_left _ (List.mem_of_getElem? (l := tables_1_1) (i := 133) rfl)), rfl⟩
abbrev w_Bus_isCore : List Cond := Cond.code y_Bus_isCore b_Bus_isCore 2 (some FieldType.boolean) :: BG
theorem g_Bus_isCore : GoodIn BG w_Bus_isCore := BG_cons iw_81
theorem iw_82 : (Cond.instanceMethod ⟨"SnoopingBus", "isCore", "(I)Z"⟩) ∈ BG := List.mem_filter.mpr ⟨List.mem_append_right _ (List.mem_append_left _ (List.mem_of_getElem? (l := tables_1_1) (i := 132) rfl)), rfl⟩
theorem iw_83 : (Cond.selects "SnoopingBus" ⟨"SnoopingBus", "isCore", "(I)Z"⟩ ⟨"SnoopingBus", "isCore", "(I)Z"⟩) ∈ BG := List.mem_filter.mpr ⟨List.mem_append_left _ (List.mem_of_getElem? (l := k2_sels lw_privs) (i := 0) rfl), rfl⟩
abbrev b_Bus_isAddress : ByteArray := prog_1_method_19_code
abbrev y_Bus_isAddress : MethodName := ⟨"SnoopingBus", "isAddress", "(I)Z"⟩
theorem iw_84 : (Cond.code ⟨"SnoopingBus", "isAddress", "(I)Z"⟩ prog_1_method_19_code 1 (some FieldType.boolean)) ∈ BG := List.mem_filter.mpr ⟨List.mem_append_right _ (List.mem_append_left _ (List.mem_of_getElem? (l := tables_1_1) (i := 136) rfl)), rfl⟩
abbrev w_Bus_isAddress : List Cond := Cond.code y_Bus_isAddress b_Bus_isAddress 1 (some FieldType.boolean) :: BG
theorem g_Bus_isAddress : GoodIn BG w_Bus_isAddress := BG_cons iw_84
theorem iw_85 : (Cond.static ⟨"SnoopingBus", "isAddress", "(I)Z"⟩) ∈ BG := List.mem_filter.mpr ⟨List.mem_append_right _ (List.mem_append_left _ (List.mem_of_getElem? (l := tables_1_1) (i := 135) rfl)), rfl⟩
abbrev b_Core_waits : ByteArray := prog_3_method_2_code
abbrev y_Core_waits : MethodName := ⟨"SnoopingBus$Core", "waits", "()Z"⟩
theorem iw_86 : (Cond.code ⟨"SnoopingBus$Core", "waits", "()Z"⟩ prog_3_method_2_code 1 (some FieldType.boolean)) ∈ BG := List.mem_filter.mpr ⟨List.mem_append_right _ (List.mem_append_left _ (List.mem_of_getElem? (l := tables_1_1) (i := 140) rfl)), rfl⟩
abbrev w_Core_waits : List Cond := Cond.code y_Core_waits b_Core_waits 1 (some FieldType.boolean) :: BG
theorem g_Core_waits : GoodIn BG w_Core_waits := BG_cons iw_86
theorem iw_87 : (Cond.instanceMethod ⟨"SnoopingBus$Core", "waits", "()Z"⟩) ∈ BG := List.mem_filter.mpr ⟨List.mem_append_right _ (List.mem_append_left _ (List.mem_of_getElem? (l := tables_1_1) (i := 139) rfl)), rfl⟩
theorem iw_88 : (Cond.selects "SnoopingBus$Core" ⟨"SnoopingBus$Core", "waits", "()Z"⟩ ⟨"SnoopingBus$Core", "waits", "()Z"⟩) ∈ BG := List.mem_filter.mpr ⟨List.mem_append_left _ (List.mem_of_getElem? (l := k2_sels lw_privs) (i := 1) rfl), rfl⟩
abbrev b_Core_newestStoreTo : ByteArray := prog_3_method_4_code
abbrev y_Core_newestStoreTo : MethodName := ⟨"SnoopingBus$Core", "newestStoreTo", "(I)I"⟩
theorem iw_89 : (Cond.code ⟨"SnoopingBus$Core", "newestStoreTo", "(I)I"⟩ prog_3_method_4_code 3 (some FieldType.int)) ∈ BG := List.mem_filter.mpr ⟨List.mem_append_right _ (List.mem_append_left _ (List.mem_of_getElem? (l := tables_1_1) (i := 144) rfl)), rfl⟩
abbrev w_Core_newestStoreTo : List Cond := Cond.code y_Core_newestStoreTo b_Core_newestStoreTo 3 (some FieldType.int) :: BG
theorem g_Core_newestStoreTo : GoodIn BG w_Core_newestStoreTo := BG_cons iw_89
theorem iw_90 : (Cond.instanceMethod ⟨"SnoopingBus$Core", "newestStoreTo", "(I)I"⟩) ∈ BG := List.mem_filter.mpr ⟨List.mem_append_right _ (List.mem_append_left _ (List.mem_of_getElem? (l := tables_1_1) (i := 143) rfl)), rfl⟩
theorem iw_91 : (Cond.selects "SnoopingBus$Core" ⟨"SnoopingBus$Core", "newestStoreTo", "(I)I"⟩ ⟨"SnoopingBus$Core", "newestStoreTo", "(I)I"⟩) ∈ BG := List.mem_filter.mpr ⟨List.mem_append_left _ (List.mem_of_getElem? (l := k2_sels lw_privs) (i := 2) rfl), rfl⟩
theorem iw_92 : (Cond.fieldLink "SnoopingBus$Core" 32 "SnoopingBus$Core" "stores" "I") ∈ BG := List.mem_filter.mpr ⟨List.mem_append_right _ (List.mem_append_left _ (List.mem_of_getElem? (l := tables_1_1) (i := 81) rfl)), rfl⟩
abbrev b_Bus_lineOf : ByteArray := prog_1_method_21_code
abbrev y_Bus_lineOf : MethodName := ⟨"SnoopingBus", "lineOf", "(I)I"⟩
theorem iw_93 : (Cond.code ⟨"SnoopingBus", "lineOf", "(I)I"⟩ prog_1_method_21_code 1 (some FieldType.int)) ∈ BG := List.mem_filter.mpr ⟨List.mem_append_right _ (List.mem_append_left _ (List.mem_of_getElem? (l := tables_1_1) (i := 147) rfl)), rfl⟩
abbrev w_Bus_lineOf : List Cond := Cond.code y_Bus_lineOf b_Bus_lineOf 1 (some FieldType.int) :: BG
theorem g_Bus_lineOf : GoodIn BG w_Bus_lineOf := BG_cons iw_93
theorem iw_94 : (Cond.static ⟨"SnoopingBus", "lineOf", "(I)I"⟩) ∈ BG := List.mem_filter.mpr ⟨List.mem_append_right _ (List.mem_append_left _ (List.mem_of_getElem? (l := tables_1_1) (i := 146) rfl)), rfl⟩
abbrev b_Cache_holds : ByteArray := prog_2_method_2_code
abbrev y_Cache_holds : MethodName := ⟨"SnoopingBus$Cache", "holds", "(I)Z"⟩
theorem iw_95 : (Cond.code ⟨"SnoopingBus$Cache", "holds", "(I)Z"⟩ prog_2_method_2_code 2 (some FieldType.boolean)) ∈ BG := List.mem_filter.mpr ⟨List.mem_append_right _ (List.mem_append_left _ (List.mem_of_getElem? (l := tables_1_1) (i := 151) rfl)), rfl⟩
abbrev w_Cache_holds : List Cond := Cond.code y_Cache_holds b_Cache_holds 2 (some FieldType.boolean) :: BG
theorem g_Cache_holds : GoodIn BG w_Cache_holds := BG_cons iw_95
theorem iw_96 : (Cond.instanceMethod ⟨"SnoopingBus$Cache", "holds", "(I)Z"⟩) ∈ BG := List.mem_filter.mpr ⟨List.mem_append_right _ (List.mem_append_left _ (List.mem_of_getElem? (l := tables_1_1) (i := 150) rfl)), rfl⟩
theorem iw_97 : (Cond.selects "SnoopingBus$Cache" ⟨"SnoopingBus$Cache", "holds", "(I)Z"⟩ ⟨"SnoopingBus$Cache", "holds", "(I)Z"⟩) ∈ BG := List.mem_filter.mpr ⟨List.mem_append_left _ (List.mem_of_getElem? (l := k2_sels lw_privs) (i := 3) rfl), rfl⟩
abbrev b_Cache_use : ByteArray := prog_2_method_4_code
abbrev y_Cache_use : MethodName := ⟨"SnoopingBus$Cache", "use", "(I)V"⟩
theorem iw_98 : (Cond.code ⟨"SnoopingBus$Cache", "use", "(I)V"⟩ prog_2_method_4_code 2 none) ∈ BG := List.mem_filter.mpr ⟨List.mem_append_right _ (List.mem_append_left _ (List.mem_of_getElem? (l := tables_1_1) (i := 155) rfl)), rfl⟩
abbrev w_Cache_use : List Cond := Cond.code y_Cache_use b_Cache_use 2 none :: BG
theorem g_Cache_use : GoodIn BG w_Cache_use := BG_cons iw_98
theorem iw_99 : (Cond.instanceMethod ⟨"SnoopingBus$Cache", "use", "(I)V"⟩) ∈ BG := List.mem_filter.mpr ⟨List.mem_append_right _ (List.mem_append_left _ (List.mem_of_getElem? (l := tables_1_1) (i := 154) rfl)), rfl⟩
theorem iw_100 : (Cond.selects "SnoopingBus$Cache" ⟨"SnoopingBus$Cache", "use", "(I)V"⟩ ⟨"SnoopingBus$Cache", "use", "(I)V"⟩) ∈ BG := List.mem_filter.mpr ⟨List.mem_append_left _ (List.mem_of_getElem? (l := k2_sels lw_privs) (i := 4) rfl), rfl⟩
theorem iw_101 : (Cond.fieldLink "SnoopingBus$Cache" 29 "SnoopingBus$Cache" "uses" "I") ∈ BG := List.mem_filter.mpr ⟨List.mem_append_right _ (List.mem_append_left _ (List.mem_of_getElem? (l := tables_1_1) (i := 56) rfl)), rfl⟩
abbrev b_Core_ask : ByteArray := prog_3_method_3_code
abbrev y_Core_ask : MethodName := ⟨"SnoopingBus$Core", "ask", "(III)V"⟩
theorem iw_102 : (Cond.code ⟨"SnoopingBus$Core", "ask", "(III)V"⟩ prog_3_method_3_code 4 none) ∈ BG := List.mem_filter.mpr ⟨List.mem_append_right _ (List.mem_append_left _ (List.mem_of_getElem? (l := tables_1_1) (i := 159) rfl)), rfl⟩
abbrev w_Core_ask : List Cond := Cond.code y_Core_ask b_Core_ask 4 none :: BG
theorem g_Core_ask : GoodIn BG w_Core_ask := BG_cons iw_102
theorem iw_103 : (Cond.instanceMethod ⟨"SnoopingBus$Core", "ask", "(III)V"⟩) ∈ BG := List.mem_filter.mpr ⟨List.mem_append_right _ (List.mem_append_left _ (List.mem_of_getElem? (l := tables_1_1) (i := 158) rfl)), rfl⟩
theorem iw_104 : (Cond.selects "SnoopingBus$Core" ⟨"SnoopingBus$Core", "ask", "(III)V"⟩ ⟨"SnoopingBus$Core", "ask", "(III)V"⟩) ∈ BG := List.mem_filter.mpr ⟨List.mem_append_left _ (List.mem_of_getElem? (l := k2_sels lw_privs) (i := 5) rfl), rfl⟩
theorem iw_105 : (Cond.fieldLink "SnoopingBus$Core" 26 "SnoopingBus$Core" "requestAddress" "I") ∈ BG := List.mem_filter.mpr ⟨List.mem_append_right _ (List.mem_append_left _ (List.mem_of_getElem? (l := tables_1_1) (i := 84) rfl)), rfl⟩
theorem iw_106 : (Cond.fieldLink "SnoopingBus$Core" 29 "SnoopingBus$Core" "requestWord" "I") ∈ BG := List.mem_filter.mpr ⟨List.mem_append_right _ (List.mem_append_left _ (List.mem_of_getElem? (l := tables_1_1) (i := 86) rfl)), rfl⟩
abbrev b_Bus_store : ByteArray := prog_1_method_3_code
abbrev y_Bus_store : MethodName := ⟨"SnoopingBus", "store", "(III)I"⟩
theorem iw_107 : (Cond.code ⟨"SnoopingBus", "store", "(III)I"⟩ prog_1_method_3_code 5 (some FieldType.int)) ∈ BG := List.mem_filter.mpr ⟨List.mem_append_right _ (List.mem_append_left _ (List.mem_of_getElem? (l := tables_1_1) (i := 163) rfl)), rfl⟩
abbrev w_Bus_store : List Cond := Cond.code y_Bus_store b_Bus_store 5 (some FieldType.int) :: BG
theorem g_Bus_store : GoodIn BG w_Bus_store := BG_cons iw_107
theorem iw_108 : (Cond.instanceMethod ⟨"SnoopingBus", "store", "(III)I"⟩) ∈ BG := List.mem_filter.mpr ⟨List.mem_append_right _ (List.mem_append_left _ (List.mem_of_getElem? (l := tables_1_1) (i := 161) rfl)), rfl⟩
theorem iw_109 : (Cond.selects "SnoopingBus" ⟨"SnoopingBus", "store", "(III)I"⟩ ⟨"SnoopingBus", "store", "(III)I"⟩) ∈ BG := List.mem_filter.mpr ⟨List.mem_append_right _ (List.mem_append_left _ (List.mem_of_getElem? (l := tables_1_1) (i := 162) rfl)), rfl⟩
theorem in_w12 : (Cond.fieldLinkNest "SnoopingBus" 86 "SnoopingBus$Core" "stores" "I" "SnoopingBus") ∈ NW := List.mem_filter.mpr ⟨List.mem_append_left _ (List.mem_of_getElem? (l := tables_1_1) (i := 80) rfl), rfl⟩
theorem in_w13 : (Cond.methodLinkNest "SnoopingBus" 89 ⟨"SnoopingBus$Core", "appendStore", "(II)V"⟩ "SnoopingBus") ∈ NW := List.mem_filter.mpr ⟨List.mem_append_left _ (List.mem_of_getElem? (l := tables_1_1) (i := 164) rfl), rfl⟩
abbrev b_Core_appendStore : ByteArray := prog_3_method_5_code
abbrev y_Core_appendStore : MethodName := ⟨"SnoopingBus$Core", "appendStore", "(II)V"⟩
theorem iw_110 : (Cond.code ⟨"SnoopingBus$Core", "appendStore", "(II)V"⟩ prog_3_method_5_code 3 none) ∈ BG := List.mem_filter.mpr ⟨List.mem_append_right _ (List.mem_append_left _ (List.mem_of_getElem? (l := tables_1_1) (i := 167) rfl)), rfl⟩
abbrev w_Core_appendStore : List Cond := Cond.code y_Core_appendStore b_Core_appendStore 3 none :: BG
theorem g_Core_appendStore : GoodIn BG w_Core_appendStore := BG_cons iw_110
theorem iw_111 : (Cond.instanceMethod ⟨"SnoopingBus$Core", "appendStore", "(II)V"⟩) ∈ BG := List.mem_filter.mpr ⟨List.mem_append_right _ (List.mem_append_left _ (List.mem_of_getElem? (l := tables_1_1) (i := 166) rfl)), rfl⟩
theorem iw_112 : (Cond.selects "SnoopingBus$Core" ⟨"SnoopingBus$Core", "appendStore", "(II)V"⟩ ⟨"SnoopingBus$Core", "appendStore", "(II)V"⟩) ∈ BG := List.mem_filter.mpr ⟨List.mem_append_left _ (List.mem_of_getElem? (l := k2_sels lw_privs) (i := 6) rfl), rfl⟩
abbrev b_Bus_drain : ByteArray := prog_1_method_4_code
abbrev y_Bus_drain : MethodName := ⟨"SnoopingBus", "drain", "(I)I"⟩
theorem iw_113 : (Cond.code ⟨"SnoopingBus", "drain", "(I)I"⟩ prog_1_method_4_code 3 (some FieldType.int)) ∈ BG := List.mem_filter.mpr ⟨List.mem_append_right _ (List.mem_append_left _ (List.mem_of_getElem? (l := tables_1_1) (i := 171) rfl)), rfl⟩
abbrev w_Bus_drain : List Cond := Cond.code y_Bus_drain b_Bus_drain 3 (some FieldType.int) :: BG
theorem g_Bus_drain : GoodIn BG w_Bus_drain := BG_cons iw_113
theorem iw_114 : (Cond.instanceMethod ⟨"SnoopingBus", "drain", "(I)I"⟩) ∈ BG := List.mem_filter.mpr ⟨List.mem_append_right _ (List.mem_append_left _ (List.mem_of_getElem? (l := tables_1_1) (i := 169) rfl)), rfl⟩
theorem iw_115 : (Cond.selects "SnoopingBus" ⟨"SnoopingBus", "drain", "(I)I"⟩ ⟨"SnoopingBus", "drain", "(I)I"⟩) ∈ BG := List.mem_filter.mpr ⟨List.mem_append_right _ (List.mem_append_left _ (List.mem_of_getElem? (l := tables_1_1) (i := 170) rfl)), rfl⟩
theorem in_w14 : (Cond.fieldLinkNest "SnoopingBus" 93 "SnoopingBus$Core" "storeAddresses" "[I" "SnoopingBus") ∈ NW := List.mem_filter.mpr ⟨List.mem_append_left _ (List.mem_of_getElem? (l := tables_1_1) (i := 77) rfl), rfl⟩
theorem in_w15 : (Cond.methodLinkNest "SnoopingBus" 96 ⟨"SnoopingBus$Core", "changeOrAsk", "(III)I"⟩ "SnoopingBus") ∈ NW := List.mem_filter.mpr ⟨List.mem_append_left _ (List.mem_of_getElem? (l := tables_1_1) (i := 172) rfl), rfl⟩
abbrev b_Core_changeOrAsk : ByteArray := prog_3_method_7_code
abbrev y_Core_changeOrAsk : MethodName := ⟨"SnoopingBus$Core", "changeOrAsk", "(III)I"⟩
theorem iw_116 : (Cond.code ⟨"SnoopingBus$Core", "changeOrAsk", "(III)I"⟩ prog_3_method_7_code 4 (some FieldType.int)) ∈ BG := List.mem_filter.mpr ⟨List.mem_append_right _ (List.mem_append_left _ (List.mem_of_getElem? (l := tables_1_1) (i := 175) rfl)), rfl⟩
abbrev w_Core_changeOrAsk : List Cond := Cond.code y_Core_changeOrAsk b_Core_changeOrAsk 4 (some FieldType.int) :: BG
theorem g_Core_changeOrAsk : GoodIn BG w_Core_changeOrAsk := BG_cons iw_116
theorem iw_117 : (Cond.instanceMethod ⟨"SnoopingBus$Core", "changeOrAsk", "(III)I"⟩) ∈ BG := List.mem_filter.mpr ⟨List.mem_append_right _ (List.mem_append_left _ (List.mem_of_getElem? (l := tables_1_1) (i := 174) rfl)), rfl⟩
theorem iw_118 : (Cond.selects "SnoopingBus$Core" ⟨"SnoopingBus$Core", "changeOrAsk", "(III)I"⟩ ⟨"SnoopingBus$Core", "changeOrAsk", "(III)I"⟩) ∈ BG := List.mem_filter.mpr ⟨List.mem_append_left _ (List.mem_of_getElem? (l := k2_sels lw_privs) (i := 7) rfl), rfl⟩
theorem in_w16 : (Cond.methodLinkNest "SnoopingBus$Core" 35 ⟨"SnoopingBus", "lineOf", "(I)I"⟩ "SnoopingBus") ∈ NW := List.mem_filter.mpr ⟨List.mem_append_left _ (List.mem_of_getElem? (l := tables_1_1) (i := 176) rfl), rfl⟩
theorem in_w17 : (Cond.methodLinkNest "SnoopingBus$Core" 39 ⟨"SnoopingBus$Cache", "owns", "(I)Z"⟩ "SnoopingBus") ∈ NW := List.mem_filter.mpr ⟨List.mem_append_left _ (List.mem_of_getElem? (l := tables_1_1) (i := 177) rfl), rfl⟩
theorem iw_119 : (Cond.methodLink "SnoopingBus$Core" 45 ⟨"SnoopingBus$Core", "change", "(III)V"⟩) ∈ BG := List.mem_filter.mpr ⟨List.mem_append_right _ (List.mem_append_left _ (List.mem_of_getElem? (l := tables_1_1) (i := 181) rfl)), rfl⟩
theorem iw_120 : (Cond.methodLink "SnoopingBus$Core" 49 ⟨"SnoopingBus$Core", "ask", "(III)V"⟩) ∈ BG := List.mem_filter.mpr ⟨List.mem_append_right _ (List.mem_append_left _ (List.mem_of_getElem? (l := tables_1_1) (i := 195) rfl)), rfl⟩
abbrev b_Cache_owns : ByteArray := prog_2_method_3_code
abbrev y_Cache_owns : MethodName := ⟨"SnoopingBus$Cache", "owns", "(I)Z"⟩
theorem iw_121 : (Cond.code ⟨"SnoopingBus$Cache", "owns", "(I)Z"⟩ prog_2_method_3_code 2 (some FieldType.boolean)) ∈ BG := List.mem_filter.mpr ⟨List.mem_append_right _ (List.mem_append_left _ (List.mem_of_getElem? (l := tables_1_1) (i := 180) rfl)), rfl⟩
abbrev w_Cache_owns : List Cond := Cond.code y_Cache_owns b_Cache_owns 2 (some FieldType.boolean) :: BG
theorem g_Cache_owns : GoodIn BG w_Cache_owns := BG_cons iw_121
theorem iw_122 : (Cond.instanceMethod ⟨"SnoopingBus$Cache", "owns", "(I)Z"⟩) ∈ BG := List.mem_filter.mpr ⟨List.mem_append_right _ (List.mem_append_left _ (List.mem_of_getElem? (l := tables_1_1) (i := 179) rfl)), rfl⟩
theorem iw_123 : (Cond.selects "SnoopingBus$Cache" ⟨"SnoopingBus$Cache", "owns", "(I)Z"⟩ ⟨"SnoopingBus$Cache", "owns", "(I)Z"⟩) ∈ BG := List.mem_filter.mpr ⟨List.mem_append_left _ (List.mem_of_getElem? (l := k2_sels lw_privs) (i := 8) rfl), rfl⟩
abbrev b_Core_change : ByteArray := prog_3_method_8_code
abbrev y_Core_change : MethodName := ⟨"SnoopingBus$Core", "change", "(III)V"⟩
theorem iw_124 : (Cond.code ⟨"SnoopingBus$Core", "change", "(III)V"⟩ prog_3_method_8_code 5 none) ∈ BG := List.mem_filter.mpr ⟨List.mem_append_right _ (List.mem_append_left _ (List.mem_of_getElem? (l := tables_1_1) (i := 184) rfl)), rfl⟩
abbrev w_Core_change : List Cond := Cond.code y_Core_change b_Core_change 5 none :: BG
theorem g_Core_change : GoodIn BG w_Core_change := BG_cons iw_124
theorem iw_125 : (Cond.instanceMethod ⟨"SnoopingBus$Core", "change", "(III)V"⟩) ∈ BG := List.mem_filter.mpr ⟨List.mem_append_right _ (List.mem_append_left _ (List.mem_of_getElem? (l := tables_1_1) (i := 183) rfl)), rfl⟩
theorem iw_126 : (Cond.selects "SnoopingBus$Core" ⟨"SnoopingBus$Core", "change", "(III)V"⟩ ⟨"SnoopingBus$Core", "change", "(III)V"⟩) ∈ BG := List.mem_filter.mpr ⟨List.mem_append_left _ (List.mem_of_getElem? (l := k2_sels lw_privs) (i := 9) rfl), rfl⟩
theorem in_w18 : (Cond.methodLinkNest "SnoopingBus$Core" 52 ⟨"SnoopingBus$Cache", "put", "(II)V"⟩ "SnoopingBus") ∈ NW := List.mem_filter.mpr ⟨List.mem_append_left _ (List.mem_of_getElem? (l := tables_1_1) (i := 185) rfl), rfl⟩
theorem iw_127 : (Cond.methodLink "SnoopingBus$Core" 56 ⟨"SnoopingBus$Core", "removeOldestStore", "()V"⟩) ∈ BG := List.mem_filter.mpr ⟨List.mem_append_right _ (List.mem_append_left _ (List.mem_of_getElem? (l := tables_1_1) (i := 191) rfl)), rfl⟩
theorem in_w19 : (Cond.fieldLinkNest "SnoopingBus$Core" 59 "SnoopingBus$Cache" "words" "[I" "SnoopingBus") ∈ NW := List.mem_filter.mpr ⟨List.mem_append_left _ (List.mem_of_getElem? (l := tables_1_1) (i := 55) rfl), rfl⟩
theorem iw_128 : (Cond.fieldLink "SnoopingBus$Core" 62 "SnoopingBus$Core" "lastWord" "I") ∈ BG := List.mem_filter.mpr ⟨List.mem_append_right _ (List.mem_append_left _ (List.mem_of_getElem? (l := tables_1_1) (i := 89) rfl)), rfl⟩
abbrev b_Cache_put : ByteArray := prog_2_method_5_code
abbrev y_Cache_put : MethodName := ⟨"SnoopingBus$Cache", "put", "(II)V"⟩
theorem iw_129 : (Cond.code ⟨"SnoopingBus$Cache", "put", "(II)V"⟩ prog_2_method_5_code 4 none) ∈ BG := List.mem_filter.mpr ⟨List.mem_append_right _ (List.mem_append_left _ (List.mem_of_getElem? (l := tables_1_1) (i := 188) rfl)), rfl⟩
abbrev w_Cache_put : List Cond := Cond.code y_Cache_put b_Cache_put 4 none :: BG
theorem g_Cache_put : GoodIn BG w_Cache_put := BG_cons iw_129
theorem iw_130 : (Cond.instanceMethod ⟨"SnoopingBus$Cache", "put", "(II)V"⟩) ∈ BG := List.mem_filter.mpr ⟨List.mem_append_right _ (List.mem_append_left _ (List.mem_of_getElem? (l := tables_1_1) (i := 187) rfl)), rfl⟩
theorem iw_131 : (Cond.selects "SnoopingBus$Cache" ⟨"SnoopingBus$Cache", "put", "(II)V"⟩ ⟨"SnoopingBus$Cache", "put", "(II)V"⟩) ∈ BG := List.mem_filter.mpr ⟨List.mem_append_left _ (List.mem_of_getElem? (l := k2_sels lw_privs) (i := 10) rfl), rfl⟩
theorem in_w20 : (Cond.methodLinkNest "SnoopingBus$Cache" 32 ⟨"SnoopingBus", "lineOf", "(I)I"⟩ "SnoopingBus") ∈ NW := List.mem_filter.mpr ⟨List.mem_append_left _ (List.mem_of_getElem? (l := tables_1_1) (i := 189) rfl), rfl⟩
theorem iw_132 : (Cond.methodLink "SnoopingBus$Cache" 36 ⟨"SnoopingBus$Cache", "use", "(I)V"⟩) ∈ BG := List.mem_filter.mpr ⟨List.mem_append_right _ (List.mem_append_left _ (List.mem_of_getElem? (l := tables_1_1) (i := 190) rfl)), rfl⟩
abbrev b_Core_removeOldestStore : ByteArray := prog_3_method_6_code
abbrev y_Core_removeOldestStore : MethodName := ⟨"SnoopingBus$Core", "removeOldestStore", "()V"⟩
theorem iw_133 : (Cond.code ⟨"SnoopingBus$Core", "removeOldestStore", "()V"⟩ prog_3_method_6_code 2 none) ∈ BG := List.mem_filter.mpr ⟨List.mem_append_right _ (List.mem_append_left _ (List.mem_of_getElem? (l := tables_1_1) (i := 194) rfl)), rfl⟩
abbrev w_Core_removeOldestStore : List Cond := Cond.code y_Core_removeOldestStore b_Core_removeOldestStore 2 none :: BG
theorem g_Core_removeOldestStore : GoodIn BG w_Core_removeOldestStore := BG_cons iw_133
theorem iw_134 : (Cond.instanceMethod ⟨"SnoopingBus$Core", "removeOldestStore", "()V"⟩) ∈ BG := List.mem_filter.mpr ⟨List.mem_append_right _ (List.mem_append_left _ (List.mem_of_getElem? (l := tables_1_1) (i := 193) rfl)), rfl⟩
theorem iw_135 : (Cond.selects "SnoopingBus$Core" ⟨"SnoopingBus$Core", "removeOldestStore", "()V"⟩ ⟨"SnoopingBus$Core", "removeOldestStore", "()V"⟩) ∈ BG := List.mem_filter.mpr ⟨List.mem_append_left _ (List.mem_of_getElem? (l := k2_sels lw_privs) (i := 11) rfl), rfl⟩
abbrev b_Bus_swap : ByteArray := prog_1_method_5_code
abbrev y_Bus_swap : MethodName := ⟨"SnoopingBus", "swap", "(III)I"⟩
theorem iw_136 : (Cond.code ⟨"SnoopingBus", "swap", "(III)I"⟩ prog_1_method_5_code 4 (some FieldType.int)) ∈ BG := List.mem_filter.mpr ⟨List.mem_append_right _ (List.mem_append_left _ (List.mem_of_getElem? (l := tables_1_1) (i := 199) rfl)), rfl⟩
abbrev w_Bus_swap : List Cond := Cond.code y_Bus_swap b_Bus_swap 4 (some FieldType.int) :: BG
theorem g_Bus_swap : GoodIn BG w_Bus_swap := BG_cons iw_136
theorem iw_137 : (Cond.instanceMethod ⟨"SnoopingBus", "swap", "(III)I"⟩) ∈ BG := List.mem_filter.mpr ⟨List.mem_append_right _ (List.mem_append_left _ (List.mem_of_getElem? (l := tables_1_1) (i := 197) rfl)), rfl⟩
theorem iw_138 : (Cond.selects "SnoopingBus" ⟨"SnoopingBus", "swap", "(III)I"⟩ ⟨"SnoopingBus", "swap", "(III)I"⟩) ∈ BG := List.mem_filter.mpr ⟨List.mem_append_right _ (List.mem_append_left _ (List.mem_of_getElem? (l := tables_1_1) (i := 198) rfl)), rfl⟩
theorem iw_139 : (Cond.methodLink "SnoopingBus" 100 ⟨"SnoopingBus", "changeAtOnce", "(IIII)I"⟩) ∈ BG := List.mem_filter.mpr ⟨List.mem_append_right _ (List.mem_append_left _ (List.mem_of_getElem? (l := tables_1_1) (i := 200) rfl)), rfl⟩
abbrev b_Bus_changeAtOnce : ByteArray := prog_1_method_22_code
abbrev y_Bus_changeAtOnce : MethodName := ⟨"SnoopingBus", "changeAtOnce", "(IIII)I"⟩
theorem iw_140 : (Cond.code ⟨"SnoopingBus", "changeAtOnce", "(IIII)I"⟩ prog_1_method_22_code 6 (some FieldType.int)) ∈ BG := List.mem_filter.mpr ⟨List.mem_append_right _ (List.mem_append_left _ (List.mem_of_getElem? (l := tables_1_1) (i := 203) rfl)), rfl⟩
abbrev w_Bus_changeAtOnce : List Cond := Cond.code y_Bus_changeAtOnce b_Bus_changeAtOnce 6 (some FieldType.int) :: BG
theorem g_Bus_changeAtOnce : GoodIn BG w_Bus_changeAtOnce := BG_cons iw_140
theorem iw_141 : (Cond.instanceMethod ⟨"SnoopingBus", "changeAtOnce", "(IIII)I"⟩) ∈ BG := List.mem_filter.mpr ⟨List.mem_append_right _ (List.mem_append_left _ (List.mem_of_getElem? (l := tables_1_1) (i := 202) rfl)), rfl⟩
theorem iw_142 : (Cond.selects "SnoopingBus" ⟨"SnoopingBus", "changeAtOnce", "(IIII)I"⟩ ⟨"SnoopingBus", "changeAtOnce", "(IIII)I"⟩) ∈ BG := List.mem_filter.mpr ⟨List.mem_append_left _ (List.mem_of_getElem? (l := k2_sels lw_privs) (i := 12) rfl), rfl⟩
abbrev b_Bus_add : ByteArray := prog_1_method_6_code
abbrev y_Bus_add : MethodName := ⟨"SnoopingBus", "add", "(III)I"⟩
theorem iw_143 : (Cond.code ⟨"SnoopingBus", "add", "(III)I"⟩ prog_1_method_6_code 4 (some FieldType.int)) ∈ BG := List.mem_filter.mpr ⟨List.mem_append_right _ (List.mem_append_left _ (List.mem_of_getElem? (l := tables_1_1) (i := 207) rfl)), rfl⟩
abbrev w_Bus_add : List Cond := Cond.code y_Bus_add b_Bus_add 4 (some FieldType.int) :: BG
theorem g_Bus_add : GoodIn BG w_Bus_add := BG_cons iw_143
theorem iw_144 : (Cond.instanceMethod ⟨"SnoopingBus", "add", "(III)I"⟩) ∈ BG := List.mem_filter.mpr ⟨List.mem_append_right _ (List.mem_append_left _ (List.mem_of_getElem? (l := tables_1_1) (i := 205) rfl)), rfl⟩
theorem iw_145 : (Cond.selects "SnoopingBus" ⟨"SnoopingBus", "add", "(III)I"⟩ ⟨"SnoopingBus", "add", "(III)I"⟩) ∈ BG := List.mem_filter.mpr ⟨List.mem_append_right _ (List.mem_append_left _ (List.mem_of_getElem? (l := tables_1_1) (i := 206) rfl)), rfl⟩
abbrev b_Bus_bus : ByteArray := prog_1_method_7_code
abbrev y_Bus_bus : MethodName := ⟨"SnoopingBus", "bus", "()I"⟩
theorem iw_146 : (Cond.code ⟨"SnoopingBus", "bus", "()I"⟩ prog_1_method_7_code 3 (some FieldType.int)) ∈ BG := List.mem_filter.mpr ⟨List.mem_append_right _ (List.mem_append_left _ (List.mem_of_getElem? (l := tables_1_1) (i := 211) rfl)), rfl⟩
abbrev w_Bus_bus : List Cond := Cond.code y_Bus_bus b_Bus_bus 3 (some FieldType.int) :: BG
theorem g_Bus_bus : GoodIn BG w_Bus_bus := BG_cons iw_146
theorem iw_147 : (Cond.instanceMethod ⟨"SnoopingBus", "bus", "()I"⟩) ∈ BG := List.mem_filter.mpr ⟨List.mem_append_right _ (List.mem_append_left _ (List.mem_of_getElem? (l := tables_1_1) (i := 209) rfl)), rfl⟩
theorem iw_148 : (Cond.selects "SnoopingBus" ⟨"SnoopingBus", "bus", "()I"⟩ ⟨"SnoopingBus", "bus", "()I"⟩) ∈ BG := List.mem_filter.mpr ⟨List.mem_append_right _ (List.mem_append_left _ (List.mem_of_getElem? (l := tables_1_1) (i := 210) rfl)), rfl⟩
theorem iw_149 : (Cond.methodLink "SnoopingBus" 104 ⟨"SnoopingBus", "serve", "(I)V"⟩) ∈ BG := List.mem_filter.mpr ⟨List.mem_append_right _ (List.mem_append_left _ (List.mem_of_getElem? (l := tables_1_1) (i := 212) rfl)), rfl⟩
abbrev b_Bus_serve : ByteArray := prog_1_method_23_code
abbrev y_Bus_serve : MethodName := ⟨"SnoopingBus", "serve", "(I)V"⟩
theorem iw_150 : (Cond.code ⟨"SnoopingBus", "serve", "(I)V"⟩ prog_1_method_23_code 3 none) ∈ BG := List.mem_filter.mpr ⟨List.mem_append_right _ (List.mem_append_left _ (List.mem_of_getElem? (l := tables_1_1) (i := 215) rfl)), rfl⟩
abbrev w_Bus_serve : List Cond := Cond.code y_Bus_serve b_Bus_serve 3 none :: BG
theorem g_Bus_serve : GoodIn BG w_Bus_serve := BG_cons iw_150
theorem iw_151 : (Cond.instanceMethod ⟨"SnoopingBus", "serve", "(I)V"⟩) ∈ BG := List.mem_filter.mpr ⟨List.mem_append_right _ (List.mem_append_left _ (List.mem_of_getElem? (l := tables_1_1) (i := 214) rfl)), rfl⟩
theorem iw_152 : (Cond.selects "SnoopingBus" ⟨"SnoopingBus", "serve", "(I)V"⟩ ⟨"SnoopingBus", "serve", "(I)V"⟩) ∈ BG := List.mem_filter.mpr ⟨List.mem_append_left _ (List.mem_of_getElem? (l := k2_sels lw_privs) (i := 13) rfl), rfl⟩
theorem in_w21 : (Cond.fieldLinkNest "SnoopingBus" 116 "SnoopingBus$Core" "requestKind" "I" "SnoopingBus") ∈ NW := List.mem_filter.mpr ⟨List.mem_append_left _ (List.mem_of_getElem? (l := tables_1_1) (i := 83) rfl), rfl⟩
theorem in_w22 : (Cond.fieldLinkNest "SnoopingBus" 119 "SnoopingBus$Core" "requestAddress" "I" "SnoopingBus") ∈ NW := List.mem_filter.mpr ⟨List.mem_append_left _ (List.mem_of_getElem? (l := tables_1_1) (i := 85) rfl), rfl⟩
theorem iw_153 : (Cond.methodLink "SnoopingBus" 138 ⟨"SnoopingBus", "serveRead", "(II)V"⟩) ∈ BG := List.mem_filter.mpr ⟨List.mem_append_right _ (List.mem_append_left _ (List.mem_of_getElem? (l := tables_1_1) (i := 216) rfl)), rfl⟩
theorem iw_154 : (Cond.methodLink "SnoopingBus" 141 ⟨"SnoopingBus", "takeLine", "(II)V"⟩) ∈ BG := List.mem_filter.mpr ⟨List.mem_append_right _ (List.mem_append_right _ (List.mem_append_left _ (List.mem_of_getElem? (l := tables_1_2) (i := 8) rfl))), rfl⟩
theorem in_w23 : (Cond.fieldLinkNest "SnoopingBus" 144 "SnoopingBus$Core" "requestWord" "I" "SnoopingBus") ∈ NW := List.mem_filter.mpr ⟨List.mem_append_left _ (List.mem_of_getElem? (l := tables_1_1) (i := 87) rfl), rfl⟩
theorem in_w24 : (Cond.methodLinkNest "SnoopingBus" 147 ⟨"SnoopingBus$Core", "change", "(III)V"⟩ "SnoopingBus") ∈ NW := List.mem_filter.mpr ⟨List.mem_append_right _ (List.mem_append_left _ (List.mem_of_getElem? (l := tables_1_2) (i := 17) rfl)), rfl⟩
theorem iw_155 : (Cond.fieldLink "SnoopingBus" 123 "SnoopingBus" "served" "I") ∈ BG := List.mem_filter.mpr ⟨List.mem_append_right _ (List.mem_append_left _ (List.mem_of_getElem? (l := tables_1_1) (i := 110) rfl)), rfl⟩
abbrev b_Bus_serveRead : ByteArray := prog_1_method_24_code
abbrev y_Bus_serveRead : MethodName := ⟨"SnoopingBus", "serveRead", "(II)V"⟩
theorem iw_156 : (Cond.code ⟨"SnoopingBus", "serveRead", "(II)V"⟩ prog_1_method_24_code 6 none) ∈ BG := List.mem_filter.mpr ⟨List.mem_append_right _ (List.mem_append_left _ (List.mem_of_getElem? (l := tables_1_1) (i := 219) rfl)), rfl⟩
abbrev w_Bus_serveRead : List Cond := Cond.code y_Bus_serveRead b_Bus_serveRead 6 none :: BG
theorem g_Bus_serveRead : GoodIn BG w_Bus_serveRead := BG_cons iw_156
theorem iw_157 : (Cond.instanceMethod ⟨"SnoopingBus", "serveRead", "(II)V"⟩) ∈ BG := List.mem_filter.mpr ⟨List.mem_append_right _ (List.mem_append_left _ (List.mem_of_getElem? (l := tables_1_1) (i := 218) rfl)), rfl⟩
theorem iw_158 : (Cond.selects "SnoopingBus" ⟨"SnoopingBus", "serveRead", "(II)V"⟩ ⟨"SnoopingBus", "serveRead", "(II)V"⟩) ∈ BG := List.mem_filter.mpr ⟨List.mem_append_left _ (List.mem_of_getElem? (l := k2_sels lw_privs) (i := 14) rfl), rfl⟩
theorem iw_159 : (Cond.methodLink "SnoopingBus" 150 ⟨"SnoopingBus", "shareElsewhere", "(II)Z"⟩) ∈ BG := List.mem_filter.mpr ⟨List.mem_append_right _ (List.mem_append_left _ (List.mem_of_getElem? (l := tables_1_1) (i := 220) rfl)), rfl⟩
theorem in_w25 : (Cond.methodLinkNest "SnoopingBus" 154 ⟨"SnoopingBus$Cache", "fill", "(II)V"⟩ "SnoopingBus") ∈ NW := List.mem_filter.mpr ⟨List.mem_append_left _ (List.mem_of_getElem? (l := tables_1_1) (i := 235) rfl), rfl⟩
abbrev b_Bus_shareElsewhere : ByteArray := prog_1_method_25_code
abbrev y_Bus_shareElsewhere : MethodName := ⟨"SnoopingBus", "shareElsewhere", "(II)Z"⟩
theorem iw_160 : (Cond.code ⟨"SnoopingBus", "shareElsewhere", "(II)Z"⟩ prog_1_method_25_code 5 (some FieldType.boolean)) ∈ BG := List.mem_filter.mpr ⟨List.mem_append_right _ (List.mem_append_left _ (List.mem_of_getElem? (l := tables_1_1) (i := 223) rfl)), rfl⟩
abbrev w_Bus_shareElsewhere : List Cond := Cond.code y_Bus_shareElsewhere b_Bus_shareElsewhere 5 (some FieldType.boolean) :: BG
theorem g_Bus_shareElsewhere : GoodIn BG w_Bus_shareElsewhere := BG_cons iw_160
theorem iw_161 : (Cond.instanceMethod ⟨"SnoopingBus", "shareElsewhere", "(II)Z"⟩) ∈ BG := List.mem_filter.mpr ⟨List.mem_append_right _ (List.mem_append_left _ (List.mem_of_getElem? (l := tables_1_1) (i := 222) rfl)), rfl⟩
theorem iw_162 : (Cond.selects "SnoopingBus" ⟨"SnoopingBus", "shareElsewhere", "(II)Z"⟩ ⟨"SnoopingBus", "shareElsewhere", "(II)Z"⟩) ∈ BG := List.mem_filter.mpr ⟨List.mem_append_left _ (List.mem_of_getElem? (l := k2_sels lw_privs) (i := 15) rfl), rfl⟩
theorem in_w26 : (Cond.methodLinkNest "SnoopingBus" 157 ⟨"SnoopingBus$Cache", "share", "(I)V"⟩ "SnoopingBus") ∈ NW := List.mem_filter.mpr ⟨List.mem_append_left _ (List.mem_of_getElem? (l := tables_1_1) (i := 224) rfl), rfl⟩
abbrev b_Cache_share : ByteArray := prog_2_method_8_code
abbrev y_Cache_share : MethodName := ⟨"SnoopingBus$Cache", "share", "(I)V"⟩
theorem iw_163 : (Cond.code ⟨"SnoopingBus$Cache", "share", "(I)V"⟩ prog_2_method_8_code 2 none) ∈ BG := List.mem_filter.mpr ⟨List.mem_append_right _ (List.mem_append_left _ (List.mem_of_getElem? (l := tables_1_1) (i := 227) rfl)), rfl⟩
abbrev w_Cache_share : List Cond := Cond.code y_Cache_share b_Cache_share 2 none :: BG
theorem g_Cache_share : GoodIn BG w_Cache_share := BG_cons iw_163
theorem iw_164 : (Cond.instanceMethod ⟨"SnoopingBus$Cache", "share", "(I)V"⟩) ∈ BG := List.mem_filter.mpr ⟨List.mem_append_right _ (List.mem_append_left _ (List.mem_of_getElem? (l := tables_1_1) (i := 226) rfl)), rfl⟩
theorem iw_165 : (Cond.selects "SnoopingBus$Cache" ⟨"SnoopingBus$Cache", "share", "(I)V"⟩ ⟨"SnoopingBus$Cache", "share", "(I)V"⟩) ∈ BG := List.mem_filter.mpr ⟨List.mem_append_left _ (List.mem_of_getElem? (l := k2_sels lw_privs) (i := 16) rfl), rfl⟩
theorem iw_166 : (Cond.methodLink "SnoopingBus$Cache" 59 ⟨"SnoopingBus$Cache", "writeBackIfModified", "(I)V"⟩) ∈ BG := List.mem_filter.mpr ⟨List.mem_append_right _ (List.mem_append_left _ (List.mem_of_getElem? (l := tables_1_1) (i := 228) rfl)), rfl⟩
abbrev b_Cache_writeBackIfModified : ByteArray := prog_2_method_10_code
abbrev y_Cache_writeBackIfModified : MethodName := ⟨"SnoopingBus$Cache", "writeBackIfModified", "(I)V"⟩
theorem iw_167 : (Cond.code ⟨"SnoopingBus$Cache", "writeBackIfModified", "(I)V"⟩ prog_2_method_10_code 3 none) ∈ BG := List.mem_filter.mpr ⟨List.mem_append_right _ (List.mem_append_left _ (List.mem_of_getElem? (l := tables_1_1) (i := 231) rfl)), rfl⟩
abbrev w_Cache_writeBackIfModified : List Cond := Cond.code y_Cache_writeBackIfModified b_Cache_writeBackIfModified 3 none :: BG
theorem g_Cache_writeBackIfModified : GoodIn BG w_Cache_writeBackIfModified := BG_cons iw_167
theorem iw_168 : (Cond.instanceMethod ⟨"SnoopingBus$Cache", "writeBackIfModified", "(I)V"⟩) ∈ BG := List.mem_filter.mpr ⟨List.mem_append_right _ (List.mem_append_left _ (List.mem_of_getElem? (l := tables_1_1) (i := 230) rfl)), rfl⟩
theorem iw_169 : (Cond.selects "SnoopingBus$Cache" ⟨"SnoopingBus$Cache", "writeBackIfModified", "(I)V"⟩ ⟨"SnoopingBus$Cache", "writeBackIfModified", "(I)V"⟩) ∈ BG := List.mem_filter.mpr ⟨List.mem_append_left _ (List.mem_of_getElem? (l := k2_sels lw_privs) (i := 17) rfl), rfl⟩
theorem in_w27 : (Cond.fieldLinkNest "SnoopingBus$Cache" 46 "SnoopingBus$MainMemory" "words" "[I" "SnoopingBus") ∈ NW := List.mem_filter.mpr ⟨List.mem_append_left _ (List.mem_of_getElem? (l := tables_1_1) (i := 23) rfl), rfl⟩
theorem iw_170 : (Cond.methodLink "SnoopingBus$Cache" 49 ⟨"java/lang/System", "arraycopy", "(Ljava/lang/Object;ILjava/lang/Object;II)V"⟩) ∈ BG := List.mem_filter.mpr ⟨List.mem_append_right _ (List.mem_append_left _ (List.mem_of_getElem? (l := tables_1_1) (i := 232) rfl)), rfl⟩
theorem in_w28 : (Cond.fieldLinkNest "SnoopingBus$Cache" 62 "SnoopingBus$MainMemory" "writeBacks" "I" "SnoopingBus") ∈ NW := List.mem_filter.mpr ⟨List.mem_append_left _ (List.mem_of_getElem? (l := tables_1_1) (i := 25) rfl), rfl⟩
abbrev b_Cache_fill : ByteArray := prog_2_method_6_code
abbrev y_Cache_fill : MethodName := ⟨"SnoopingBus$Cache", "fill", "(II)V"⟩
theorem iw_171 : (Cond.code ⟨"SnoopingBus$Cache", "fill", "(II)V"⟩ prog_2_method_6_code 5 none) ∈ BG := List.mem_filter.mpr ⟨List.mem_append_right _ (List.mem_append_left _ (List.mem_of_getElem? (l := tables_1_1) (i := 238) rfl)), rfl⟩
abbrev w_Cache_fill : List Cond := Cond.code y_Cache_fill b_Cache_fill 5 none :: BG
theorem g_Cache_fill : GoodIn BG w_Cache_fill := BG_cons iw_171
theorem iw_172 : (Cond.instanceMethod ⟨"SnoopingBus$Cache", "fill", "(II)V"⟩) ∈ BG := List.mem_filter.mpr ⟨List.mem_append_right _ (List.mem_append_left _ (List.mem_of_getElem? (l := tables_1_1) (i := 237) rfl)), rfl⟩
theorem iw_173 : (Cond.selects "SnoopingBus$Cache" ⟨"SnoopingBus$Cache", "fill", "(II)V"⟩ ⟨"SnoopingBus$Cache", "fill", "(II)V"⟩) ∈ BG := List.mem_filter.mpr ⟨List.mem_append_left _ (List.mem_of_getElem? (l := k2_sels lw_privs) (i := 18) rfl), rfl⟩
theorem iw_174 : (Cond.methodLink "SnoopingBus$Cache" 40 ⟨"SnoopingBus$Cache", "lineToLeave", "(I)I"⟩) ∈ BG := List.mem_filter.mpr ⟨List.mem_append_right _ (List.mem_append_left _ (List.mem_of_getElem? (l := tables_1_1) (i := 239) rfl)), rfl⟩
theorem iw_175 : (Cond.methodLink "SnoopingBus$Cache" 43 ⟨"SnoopingBus$Cache", "drop", "(I)V"⟩) ∈ BG := List.mem_filter.mpr ⟨List.mem_append_right _ (List.mem_append_right _ (List.mem_append_left _ (List.mem_of_getElem? (l := tables_1_2) (i := 4) rfl))), rfl⟩
abbrev b_Cache_lineToLeave : ByteArray := prog_2_method_7_code
abbrev y_Cache_lineToLeave : MethodName := ⟨"SnoopingBus$Cache", "lineToLeave", "(I)I"⟩
theorem iw_176 : (Cond.code ⟨"SnoopingBus$Cache", "lineToLeave", "(I)I"⟩ prog_2_method_7_code 5 (some FieldType.int)) ∈ BG := List.mem_filter.mpr ⟨List.mem_append_right _ (List.mem_append_right _ (List.mem_append_left _ (List.mem_of_getElem? (l := tables_1_2) (i := 2) rfl))), rfl⟩
abbrev w_Cache_lineToLeave : List Cond := Cond.code y_Cache_lineToLeave b_Cache_lineToLeave 5 (some FieldType.int) :: BG
theorem g_Cache_lineToLeave : GoodIn BG w_Cache_lineToLeave := BG_cons iw_176
theorem iw_177 : (Cond.instanceMethod ⟨"SnoopingBus$Cache", "lineToLeave", "(I)I"⟩) ∈ BG := List.mem_filter.mpr ⟨List.mem_append_right _ (List.mem_append_right _ (List.mem_append_left _ (List.mem_of_getElem? (l := tables_1_2) (i := 1) rfl))), rfl⟩
theorem iw_178 : (Cond.selects "SnoopingBus$Cache" ⟨"SnoopingBus$Cache", "lineToLeave", "(I)I"⟩ ⟨"SnoopingBus$Cache", "lineToLeave", "(I)I"⟩) ∈ BG := List.mem_filter.mpr ⟨List.mem_append_left _ (List.mem_of_getElem? (l := k2_sels lw_privs) (i := 19) rfl), rfl⟩
theorem iw_179 : (Cond.methodLink "SnoopingBus$Cache" 55 ⟨"SnoopingBus$Cache", "holds", "(I)Z"⟩) ∈ BG := List.mem_filter.mpr ⟨List.mem_append_right _ (List.mem_append_right _ (List.mem_append_left _ (List.mem_of_getElem? (l := tables_1_2) (i := 3) rfl))), rfl⟩
abbrev b_Cache_drop : ByteArray := prog_2_method_9_code
abbrev y_Cache_drop : MethodName := ⟨"SnoopingBus$Cache", "drop", "(I)V"⟩
theorem iw_180 : (Cond.code ⟨"SnoopingBus$Cache", "drop", "(I)V"⟩ prog_2_method_9_code 2 none) ∈ BG := List.mem_filter.mpr ⟨List.mem_append_right _ (List.mem_append_right _ (List.mem_append_left _ (List.mem_of_getElem? (l := tables_1_2) (i := 7) rfl))), rfl⟩
abbrev w_Cache_drop : List Cond := Cond.code y_Cache_drop b_Cache_drop 2 none :: BG
theorem g_Cache_drop : GoodIn BG w_Cache_drop := BG_cons iw_180
theorem iw_181 : (Cond.instanceMethod ⟨"SnoopingBus$Cache", "drop", "(I)V"⟩) ∈ BG := List.mem_filter.mpr ⟨List.mem_append_right _ (List.mem_append_right _ (List.mem_append_left _ (List.mem_of_getElem? (l := tables_1_2) (i := 6) rfl))), rfl⟩
theorem iw_182 : (Cond.selects "SnoopingBus$Cache" ⟨"SnoopingBus$Cache", "drop", "(I)V"⟩ ⟨"SnoopingBus$Cache", "drop", "(I)V"⟩) ∈ BG := List.mem_filter.mpr ⟨List.mem_append_left _ (List.mem_of_getElem? (l := k2_sels lw_privs) (i := 20) rfl), rfl⟩
abbrev b_Bus_takeLine : ByteArray := prog_1_method_26_code
abbrev y_Bus_takeLine : MethodName := ⟨"SnoopingBus", "takeLine", "(II)V"⟩
theorem iw_183 : (Cond.code ⟨"SnoopingBus", "takeLine", "(II)V"⟩ prog_1_method_26_code 4 none) ∈ BG := List.mem_filter.mpr ⟨List.mem_append_right _ (List.mem_append_right _ (List.mem_append_left _ (List.mem_of_getElem? (l := tables_1_2) (i := 11) rfl))), rfl⟩
abbrev w_Bus_takeLine : List Cond := Cond.code y_Bus_takeLine b_Bus_takeLine 4 none :: BG
theorem g_Bus_takeLine : GoodIn BG w_Bus_takeLine := BG_cons iw_183
theorem iw_184 : (Cond.instanceMethod ⟨"SnoopingBus", "takeLine", "(II)V"⟩) ∈ BG := List.mem_filter.mpr ⟨List.mem_append_right _ (List.mem_append_right _ (List.mem_append_left _ (List.mem_of_getElem? (l := tables_1_2) (i := 10) rfl))), rfl⟩
theorem iw_185 : (Cond.selects "SnoopingBus" ⟨"SnoopingBus", "takeLine", "(II)V"⟩ ⟨"SnoopingBus", "takeLine", "(II)V"⟩) ∈ BG := List.mem_filter.mpr ⟨List.mem_append_left _ (List.mem_of_getElem? (l := k2_sels lw_privs) (i := 21) rfl), rfl⟩
theorem iw_186 : (Cond.methodLink "SnoopingBus" 160 ⟨"SnoopingBus", "invalidateElsewhere", "(II)V"⟩) ∈ BG := List.mem_filter.mpr ⟨List.mem_append_right _ (List.mem_append_right _ (List.mem_append_left _ (List.mem_of_getElem? (l := tables_1_2) (i := 12) rfl))), rfl⟩
theorem in_w29 : (Cond.fieldLinkNest "SnoopingBus" 110 "SnoopingBus$Cache" "states" "[I" "SnoopingBus") ∈ NW := List.mem_filter.mpr ⟨List.mem_append_left _ (List.mem_of_getElem? (l := tables_1_1) (i := 51) rfl), rfl⟩
theorem iw_187 : (Cond.fieldLink "SnoopingBus" 132 "SnoopingBus" "upgrades" "I") ∈ BG := List.mem_filter.mpr ⟨List.mem_append_right _ (List.mem_append_left _ (List.mem_of_getElem? (l := tables_1_1) (i := 112) rfl)), rfl⟩
abbrev b_Bus_invalidateElsewhere : ByteArray := prog_1_method_27_code
abbrev y_Bus_invalidateElsewhere : MethodName := ⟨"SnoopingBus", "invalidateElsewhere", "(II)V"⟩
theorem iw_188 : (Cond.code ⟨"SnoopingBus", "invalidateElsewhere", "(II)V"⟩ prog_1_method_27_code 4 none) ∈ BG := List.mem_filter.mpr ⟨List.mem_append_right _ (List.mem_append_right _ (List.mem_append_left _ (List.mem_of_getElem? (l := tables_1_2) (i := 15) rfl))), rfl⟩
abbrev w_Bus_invalidateElsewhere : List Cond := Cond.code y_Bus_invalidateElsewhere b_Bus_invalidateElsewhere 4 none :: BG
theorem g_Bus_invalidateElsewhere : GoodIn BG w_Bus_invalidateElsewhere := BG_cons iw_188
theorem iw_189 : (Cond.instanceMethod ⟨"SnoopingBus", "invalidateElsewhere", "(II)V"⟩) ∈ BG := List.mem_filter.mpr ⟨List.mem_append_right _ (List.mem_append_right _ (List.mem_append_left _ (List.mem_of_getElem? (l := tables_1_2) (i := 14) rfl))), rfl⟩
theorem iw_190 : (Cond.selects "SnoopingBus" ⟨"SnoopingBus", "invalidateElsewhere", "(II)V"⟩ ⟨"SnoopingBus", "invalidateElsewhere", "(II)V"⟩) ∈ BG := List.mem_filter.mpr ⟨List.mem_append_left _ (List.mem_of_getElem? (l := k2_sels lw_privs) (i := 22) rfl), rfl⟩
theorem in_w30 : (Cond.methodLinkNest "SnoopingBus" 113 ⟨"SnoopingBus$Cache", "drop", "(I)V"⟩ "SnoopingBus") ∈ NW := List.mem_filter.mpr ⟨List.mem_append_right _ (List.mem_append_left _ (List.mem_of_getElem? (l := tables_1_2) (i := 16) rfl)), rfl⟩
theorem iw_191 : (Cond.fieldLink "SnoopingBus" 129 "SnoopingBus" "invalidations" "I") ∈ BG := List.mem_filter.mpr ⟨List.mem_append_right _ (List.mem_append_left _ (List.mem_of_getElem? (l := tables_1_1) (i := 111) rfl)), rfl⟩
abbrev b_Bus_evict : ByteArray := prog_1_method_8_code
abbrev y_Bus_evict : MethodName := ⟨"SnoopingBus", "evict", "(II)I"⟩
theorem iw_192 : (Cond.code ⟨"SnoopingBus", "evict", "(II)I"⟩ prog_1_method_8_code 5 (some FieldType.int)) ∈ BG := List.mem_filter.mpr ⟨List.mem_append_right _ (List.mem_append_right _ (List.mem_append_left _ (List.mem_of_getElem? (l := tables_1_2) (i := 21) rfl))), rfl⟩
abbrev w_Bus_evict : List Cond := Cond.code y_Bus_evict b_Bus_evict 5 (some FieldType.int) :: BG
theorem g_Bus_evict : GoodIn BG w_Bus_evict := BG_cons iw_192
theorem iw_193 : (Cond.instanceMethod ⟨"SnoopingBus", "evict", "(II)I"⟩) ∈ BG := List.mem_filter.mpr ⟨List.mem_append_right _ (List.mem_append_right _ (List.mem_append_left _ (List.mem_of_getElem? (l := tables_1_2) (i := 19) rfl))), rfl⟩
theorem iw_194 : (Cond.selects "SnoopingBus" ⟨"SnoopingBus", "evict", "(II)I"⟩ ⟨"SnoopingBus", "evict", "(II)I"⟩) ∈ BG := List.mem_filter.mpr ⟨List.mem_append_right _ (List.mem_append_right _ (List.mem_append_left _ (List.mem_of_getElem? (l := tables_1_2) (i := 20) rfl))), rfl⟩
theorem iw_195 : (Cond.methodLink "SnoopingBus" 107 ⟨"SnoopingBus", "isLine", "(I)Z"⟩) ∈ BG := List.mem_filter.mpr ⟨List.mem_append_right _ (List.mem_append_right _ (List.mem_append_left _ (List.mem_of_getElem? (l := tables_1_2) (i := 22) rfl))), rfl⟩
abbrev b_Bus_isLine : ByteArray := prog_1_method_20_code
abbrev y_Bus_isLine : MethodName := ⟨"SnoopingBus", "isLine", "(I)Z"⟩
theorem iw_196 : (Cond.code ⟨"SnoopingBus", "isLine", "(I)Z"⟩ prog_1_method_20_code 1 (some FieldType.boolean)) ∈ BG := List.mem_filter.mpr ⟨List.mem_append_right _ (List.mem_append_right _ (List.mem_append_left _ (List.mem_of_getElem? (l := tables_1_2) (i := 24) rfl))), rfl⟩
abbrev w_Bus_isLine : List Cond := Cond.code y_Bus_isLine b_Bus_isLine 1 (some FieldType.boolean) :: BG
theorem g_Bus_isLine : GoodIn BG w_Bus_isLine := BG_cons iw_196
theorem iw_197 : (Cond.static ⟨"SnoopingBus", "isLine", "(I)Z"⟩) ∈ BG := List.mem_filter.mpr ⟨List.mem_append_right _ (List.mem_append_right _ (List.mem_append_left _ (List.mem_of_getElem? (l := tables_1_2) (i := 23) rfl))), rfl⟩
abbrev b_Bus_last : ByteArray := prog_1_method_9_code
abbrev y_Bus_last : MethodName := ⟨"SnoopingBus", "last", "(I)I"⟩
theorem iw_198 : (Cond.code ⟨"SnoopingBus", "last", "(I)I"⟩ prog_1_method_9_code 2 (some FieldType.int)) ∈ BG := List.mem_filter.mpr ⟨List.mem_append_right _ (List.mem_append_right _ (List.mem_append_left _ (List.mem_of_getElem? (l := tables_1_2) (i := 28) rfl))), rfl⟩
abbrev w_Bus_last : List Cond := Cond.code y_Bus_last b_Bus_last 2 (some FieldType.int) :: BG
theorem g_Bus_last : GoodIn BG w_Bus_last := BG_cons iw_198
theorem iw_199 : (Cond.instanceMethod ⟨"SnoopingBus", "last", "(I)I"⟩) ∈ BG := List.mem_filter.mpr ⟨List.mem_append_right _ (List.mem_append_right _ (List.mem_append_left _ (List.mem_of_getElem? (l := tables_1_2) (i := 26) rfl))), rfl⟩
theorem iw_200 : (Cond.selects "SnoopingBus" ⟨"SnoopingBus", "last", "(I)I"⟩ ⟨"SnoopingBus", "last", "(I)I"⟩) ∈ BG := List.mem_filter.mpr ⟨List.mem_append_right _ (List.mem_append_right _ (List.mem_append_left _ (List.mem_of_getElem? (l := tables_1_2) (i := 27) rfl))), rfl⟩
abbrev b_Bus_request : ByteArray := prog_1_method_10_code
abbrev y_Bus_request : MethodName := ⟨"SnoopingBus", "request", "(I)I"⟩
theorem iw_201 : (Cond.code ⟨"SnoopingBus", "request", "(I)I"⟩ prog_1_method_10_code 3 (some FieldType.int)) ∈ BG := List.mem_filter.mpr ⟨List.mem_append_right _ (List.mem_append_right _ (List.mem_append_left _ (List.mem_of_getElem? (l := tables_1_2) (i := 32) rfl))), rfl⟩
abbrev w_Bus_request : List Cond := Cond.code y_Bus_request b_Bus_request 3 (some FieldType.int) :: BG
theorem g_Bus_request : GoodIn BG w_Bus_request := BG_cons iw_201
theorem iw_202 : (Cond.instanceMethod ⟨"SnoopingBus", "request", "(I)I"⟩) ∈ BG := List.mem_filter.mpr ⟨List.mem_append_right _ (List.mem_append_right _ (List.mem_append_left _ (List.mem_of_getElem? (l := tables_1_2) (i := 30) rfl))), rfl⟩
theorem iw_203 : (Cond.selects "SnoopingBus" ⟨"SnoopingBus", "request", "(I)I"⟩ ⟨"SnoopingBus", "request", "(I)I"⟩) ∈ BG := List.mem_filter.mpr ⟨List.mem_append_right _ (List.mem_append_right _ (List.mem_append_left _ (List.mem_of_getElem? (l := tables_1_2) (i := 31) rfl))), rfl⟩
abbrev b_Bus_buffered : ByteArray := prog_1_method_11_code
abbrev y_Bus_buffered : MethodName := ⟨"SnoopingBus", "buffered", "(I)I"⟩
theorem iw_204 : (Cond.code ⟨"SnoopingBus", "buffered", "(I)I"⟩ prog_1_method_11_code 2 (some FieldType.int)) ∈ BG := List.mem_filter.mpr ⟨List.mem_append_right _ (List.mem_append_right _ (List.mem_append_left _ (List.mem_of_getElem? (l := tables_1_2) (i := 36) rfl))), rfl⟩
abbrev w_Bus_buffered : List Cond := Cond.code y_Bus_buffered b_Bus_buffered 2 (some FieldType.int) :: BG
theorem g_Bus_buffered : GoodIn BG w_Bus_buffered := BG_cons iw_204
theorem iw_205 : (Cond.instanceMethod ⟨"SnoopingBus", "buffered", "(I)I"⟩) ∈ BG := List.mem_filter.mpr ⟨List.mem_append_right _ (List.mem_append_right _ (List.mem_append_left _ (List.mem_of_getElem? (l := tables_1_2) (i := 34) rfl))), rfl⟩
theorem iw_206 : (Cond.selects "SnoopingBus" ⟨"SnoopingBus", "buffered", "(I)I"⟩ ⟨"SnoopingBus", "buffered", "(I)I"⟩) ∈ BG := List.mem_filter.mpr ⟨List.mem_append_right _ (List.mem_append_right _ (List.mem_append_left _ (List.mem_of_getElem? (l := tables_1_2) (i := 35) rfl))), rfl⟩
abbrev b_Bus_state : ByteArray := prog_1_method_12_code
abbrev y_Bus_state : MethodName := ⟨"SnoopingBus", "state", "(II)I"⟩
theorem iw_207 : (Cond.code ⟨"SnoopingBus", "state", "(II)I"⟩ prog_1_method_12_code 3 (some FieldType.int)) ∈ BG := List.mem_filter.mpr ⟨List.mem_append_right _ (List.mem_append_right _ (List.mem_append_left _ (List.mem_of_getElem? (l := tables_1_2) (i := 40) rfl))), rfl⟩
abbrev w_Bus_state : List Cond := Cond.code y_Bus_state b_Bus_state 3 (some FieldType.int) :: BG
theorem g_Bus_state : GoodIn BG w_Bus_state := BG_cons iw_207
theorem iw_208 : (Cond.instanceMethod ⟨"SnoopingBus", "state", "(II)I"⟩) ∈ BG := List.mem_filter.mpr ⟨List.mem_append_right _ (List.mem_append_right _ (List.mem_append_left _ (List.mem_of_getElem? (l := tables_1_2) (i := 38) rfl))), rfl⟩
theorem iw_209 : (Cond.selects "SnoopingBus" ⟨"SnoopingBus", "state", "(II)I"⟩ ⟨"SnoopingBus", "state", "(II)I"⟩) ∈ BG := List.mem_filter.mpr ⟨List.mem_append_right _ (List.mem_append_right _ (List.mem_append_left _ (List.mem_of_getElem? (l := tables_1_2) (i := 39) rfl))), rfl⟩
abbrev b_Bus_copy : ByteArray := prog_1_method_13_code
abbrev y_Bus_copy : MethodName := ⟨"SnoopingBus", "copy", "(II)I"⟩
theorem iw_210 : (Cond.code ⟨"SnoopingBus", "copy", "(II)I"⟩ prog_1_method_13_code 4 (some FieldType.int)) ∈ BG := List.mem_filter.mpr ⟨List.mem_append_right _ (List.mem_append_right _ (List.mem_append_left _ (List.mem_of_getElem? (l := tables_1_2) (i := 44) rfl))), rfl⟩
abbrev w_Bus_copy : List Cond := Cond.code y_Bus_copy b_Bus_copy 4 (some FieldType.int) :: BG
theorem g_Bus_copy : GoodIn BG w_Bus_copy := BG_cons iw_210
theorem iw_211 : (Cond.instanceMethod ⟨"SnoopingBus", "copy", "(II)I"⟩) ∈ BG := List.mem_filter.mpr ⟨List.mem_append_right _ (List.mem_append_right _ (List.mem_append_left _ (List.mem_of_getElem? (l := tables_1_2) (i := 42) rfl))), rfl⟩
theorem iw_212 : (Cond.selects "SnoopingBus" ⟨"SnoopingBus", "copy", "(II)I"⟩ ⟨"SnoopingBus", "copy", "(II)I"⟩) ∈ BG := List.mem_filter.mpr ⟨List.mem_append_right _ (List.mem_append_right _ (List.mem_append_left _ (List.mem_of_getElem? (l := tables_1_2) (i := 43) rfl))), rfl⟩
abbrev b_Bus_memory : ByteArray := prog_1_method_14_code
abbrev y_Bus_memory : MethodName := ⟨"SnoopingBus", "memory", "(I)I"⟩
theorem iw_213 : (Cond.code ⟨"SnoopingBus", "memory", "(I)I"⟩ prog_1_method_14_code 2 (some FieldType.int)) ∈ BG := List.mem_filter.mpr ⟨List.mem_append_right _ (List.mem_append_right _ (List.mem_append_left _ (List.mem_of_getElem? (l := tables_1_2) (i := 48) rfl))), rfl⟩
abbrev w_Bus_memory : List Cond := Cond.code y_Bus_memory b_Bus_memory 2 (some FieldType.int) :: BG
theorem g_Bus_memory : GoodIn BG w_Bus_memory := BG_cons iw_213
theorem iw_214 : (Cond.instanceMethod ⟨"SnoopingBus", "memory", "(I)I"⟩) ∈ BG := List.mem_filter.mpr ⟨List.mem_append_right _ (List.mem_append_right _ (List.mem_append_left _ (List.mem_of_getElem? (l := tables_1_2) (i := 46) rfl))), rfl⟩
theorem iw_215 : (Cond.selects "SnoopingBus" ⟨"SnoopingBus", "memory", "(I)I"⟩ ⟨"SnoopingBus", "memory", "(I)I"⟩) ∈ BG := List.mem_filter.mpr ⟨List.mem_append_right _ (List.mem_append_right _ (List.mem_append_left _ (List.mem_of_getElem? (l := tables_1_2) (i := 47) rfl))), rfl⟩
theorem in_w31 : (Cond.fieldLinkNest "SnoopingBus" 122 "SnoopingBus$MainMemory" "words" "[I" "SnoopingBus") ∈ NW := List.mem_filter.mpr ⟨List.mem_append_left _ (List.mem_of_getElem? (l := tables_1_1) (i := 24) rfl), rfl⟩
abbrev b_Bus_seen : ByteArray := prog_1_method_15_code
abbrev y_Bus_seen : MethodName := ⟨"SnoopingBus", "seen", "(I)I"⟩
theorem iw_216 : (Cond.code ⟨"SnoopingBus", "seen", "(I)I"⟩ prog_1_method_15_code 4 (some FieldType.int)) ∈ BG := List.mem_filter.mpr ⟨List.mem_append_right _ (List.mem_append_right _ (List.mem_append_left _ (List.mem_of_getElem? (l := tables_1_2) (i := 52) rfl))), rfl⟩
abbrev w_Bus_seen : List Cond := Cond.code y_Bus_seen b_Bus_seen 4 (some FieldType.int) :: BG
theorem g_Bus_seen : GoodIn BG w_Bus_seen := BG_cons iw_216
theorem iw_217 : (Cond.instanceMethod ⟨"SnoopingBus", "seen", "(I)I"⟩) ∈ BG := List.mem_filter.mpr ⟨List.mem_append_right _ (List.mem_append_right _ (List.mem_append_left _ (List.mem_of_getElem? (l := tables_1_2) (i := 50) rfl))), rfl⟩
theorem iw_218 : (Cond.selects "SnoopingBus" ⟨"SnoopingBus", "seen", "(I)I"⟩ ⟨"SnoopingBus", "seen", "(I)I"⟩) ∈ BG := List.mem_filter.mpr ⟨List.mem_append_right _ (List.mem_append_right _ (List.mem_append_left _ (List.mem_of_getElem? (l := tables_1_2) (i := 51) rfl))), rfl⟩
abbrev b_Bus_count : ByteArray := prog_1_method_16_code
abbrev y_Bus_count : MethodName := ⟨"SnoopingBus", "count", "(I)I"⟩
theorem iw_219 : (Cond.code ⟨"SnoopingBus", "count", "(I)I"⟩ prog_1_method_16_code 2 (some FieldType.int)) ∈ BG := List.mem_filter.mpr ⟨List.mem_append_right _ (List.mem_append_right _ (List.mem_append_left _ (List.mem_of_getElem? (l := tables_1_2) (i := 56) rfl))), rfl⟩
abbrev w_Bus_count : List Cond := Cond.code y_Bus_count b_Bus_count 2 (some FieldType.int) :: BG
theorem g_Bus_count : GoodIn BG w_Bus_count := BG_cons iw_219
theorem iw_220 : (Cond.instanceMethod ⟨"SnoopingBus", "count", "(I)I"⟩) ∈ BG := List.mem_filter.mpr ⟨List.mem_append_right _ (List.mem_append_right _ (List.mem_append_left _ (List.mem_of_getElem? (l := tables_1_2) (i := 54) rfl))), rfl⟩
theorem iw_221 : (Cond.selects "SnoopingBus" ⟨"SnoopingBus", "count", "(I)I"⟩ ⟨"SnoopingBus", "count", "(I)I"⟩) ∈ BG := List.mem_filter.mpr ⟨List.mem_append_right _ (List.mem_append_right _ (List.mem_append_left _ (List.mem_of_getElem? (l := tables_1_2) (i := 55) rfl))), rfl⟩
theorem in_w32 : (Cond.fieldLinkNest "SnoopingBus" 126 "SnoopingBus$MainMemory" "writeBacks" "I" "SnoopingBus") ∈ NW := List.mem_filter.mpr ⟨List.mem_append_left _ (List.mem_of_getElem? (l := tables_1_1) (i := 26) rfl), rfl⟩
abbrev b_Bus_victim : ByteArray := prog_1_method_17_code
abbrev y_Bus_victim : MethodName := ⟨"SnoopingBus", "victim", "(II)I"⟩
theorem iw_222 : (Cond.code ⟨"SnoopingBus", "victim", "(II)I"⟩ prog_1_method_17_code 4 (some FieldType.int)) ∈ BG := List.mem_filter.mpr ⟨List.mem_append_right _ (List.mem_append_right _ (List.mem_append_left _ (List.mem_of_getElem? (l := tables_1_2) (i := 60) rfl))), rfl⟩
abbrev w_Bus_victim : List Cond := Cond.code y_Bus_victim b_Bus_victim 4 (some FieldType.int) :: BG
theorem g_Bus_victim : GoodIn BG w_Bus_victim := BG_cons iw_222
theorem iw_223 : (Cond.instanceMethod ⟨"SnoopingBus", "victim", "(II)I"⟩) ∈ BG := List.mem_filter.mpr ⟨List.mem_append_right _ (List.mem_append_right _ (List.mem_append_left _ (List.mem_of_getElem? (l := tables_1_2) (i := 58) rfl))), rfl⟩
theorem iw_224 : (Cond.selects "SnoopingBus" ⟨"SnoopingBus", "victim", "(II)I"⟩ ⟨"SnoopingBus", "victim", "(II)I"⟩) ∈ BG := List.mem_filter.mpr ⟨List.mem_append_right _ (List.mem_append_right _ (List.mem_append_left _ (List.mem_of_getElem? (l := tables_1_2) (i := 59) rfl))), rfl⟩
theorem in_w33 : (Cond.methodLinkNest "SnoopingBus" 135 ⟨"SnoopingBus$Cache", "lineToLeave", "(I)I"⟩ "SnoopingBus") ∈ NW := List.mem_filter.mpr ⟨List.mem_append_right _ (List.mem_append_left _ (List.mem_of_getElem? (l := tables_1_2) (i := 61) rfl)), rfl⟩
abbrev b_Law_cell : ByteArray := method_2_code
abbrev y_Law_cell : MethodName := ⟨"SnoopingBusLaw", "cell", "([II)I"⟩
theorem iw_225 : (Cond.code ⟨"SnoopingBusLaw", "cell", "([II)I"⟩ method_2_code 2 (some FieldType.int)) ∈ BG := List.mem_filter.mpr ⟨List.mem_append_right _ (List.mem_append_right _ (List.mem_append_left _ (List.mem_of_getElem? (l := tables_1_2) (i := 64) rfl))), rfl⟩
abbrev w_Law_cell : List Cond := Cond.code y_Law_cell b_Law_cell 2 (some FieldType.int) :: BG
theorem g_Law_cell : GoodIn BG w_Law_cell := BG_cons iw_225
theorem iw_226 : (Cond.static ⟨"SnoopingBusLaw", "cell", "([II)I"⟩) ∈ BG := List.mem_filter.mpr ⟨List.mem_append_right _ (List.mem_append_right _ (List.mem_append_left _ (List.mem_of_getElem? (l := tables_1_2) (i := 63) rfl))), rfl⟩
abbrev b_Model_init : ByteArray := prog_6_method_1_code
abbrev y_Model_init : MethodName := ⟨"SnoopingBusModel", "<init>", "(II)V"⟩
theorem iw_227 : (Cond.code ⟨"SnoopingBusModel", "<init>", "(II)V"⟩ prog_6_method_1_code 3 none) ∈ BG := List.mem_filter.mpr ⟨List.mem_append_right _ (List.mem_append_right _ (List.mem_append_left _ (List.mem_of_getElem? (l := tables_1_2) (i := 69) rfl))), rfl⟩
abbrev w_Model_init : List Cond := Cond.code y_Model_init b_Model_init 3 none :: BG
theorem g_Model_init : GoodIn BG w_Model_init := BG_cons iw_227
theorem iw_228 : (Cond.instanceMethod ⟨"SnoopingBusModel", "<init>", "(II)V"⟩) ∈ BG := List.mem_filter.mpr ⟨List.mem_append_right _ (List.mem_append_right _ (List.mem_append_left _ (List.mem_of_getElem? (l := tables_1_2) (i := 68) rfl))), rfl⟩
theorem iw_229 : (Cond.methodLink "SnoopingBusModel" 1 ⟨"java/lang/Object", "<init>", "()V"⟩) ∈ BG := List.mem_filter.mpr ⟨List.mem_append_right _ (List.mem_append_right _ (List.mem_append_left _ (List.mem_of_getElem? (l := tables_1_2) (i := 70) rfl))), rfl⟩
theorem iw_230 : (Cond.fieldLink "SnoopingBusModel" 7 "SnoopingBusModel" "words" "[I") ∈ BG := List.mem_filter.mpr ⟨List.mem_append_right _ (List.mem_append_right _ (List.mem_append_left _ (List.mem_of_getElem? (l := tables_1_2) (i := 73) rfl))), rfl⟩
theorem iw_231 : (Cond.fieldLink "SnoopingBusModel" 13 "SnoopingBusModel" "lines" "[I") ∈ BG := List.mem_filter.mpr ⟨List.mem_append_right _ (List.mem_append_right _ (List.mem_append_left _ (List.mem_of_getElem? (l := tables_1_2) (i := 74) rfl))), rfl⟩
theorem iw_232 : (Cond.fieldLink "SnoopingBusModel" 16 "SnoopingBusModel" "states" "[I") ∈ BG := List.mem_filter.mpr ⟨List.mem_append_right _ (List.mem_append_right _ (List.mem_append_left _ (List.mem_of_getElem? (l := tables_1_2) (i := 75) rfl))), rfl⟩
theorem iw_233 : (Cond.fieldLink "SnoopingBusModel" 19 "SnoopingBusModel" "used" "[I") ∈ BG := List.mem_filter.mpr ⟨List.mem_append_right _ (List.mem_append_right _ (List.mem_append_left _ (List.mem_of_getElem? (l := tables_1_2) (i := 76) rfl))), rfl⟩
theorem iw_234 : (Cond.fieldLink "SnoopingBusModel" 22 "SnoopingBusModel" "copies" "[I") ∈ BG := List.mem_filter.mpr ⟨List.mem_append_right _ (List.mem_append_right _ (List.mem_append_left _ (List.mem_of_getElem? (l := tables_1_2) (i := 77) rfl))), rfl⟩
theorem iw_235 : (Cond.fieldLink "SnoopingBusModel" 25 "SnoopingBusModel" "stores" "[I") ∈ BG := List.mem_filter.mpr ⟨List.mem_append_right _ (List.mem_append_right _ (List.mem_append_left _ (List.mem_of_getElem? (l := tables_1_2) (i := 79) rfl))), rfl⟩
theorem iw_236 : (Cond.fieldLink "SnoopingBusModel" 28 "SnoopingBusModel" "addresses" "[I") ∈ BG := List.mem_filter.mpr ⟨List.mem_append_right _ (List.mem_append_right _ (List.mem_append_left _ (List.mem_of_getElem? (l := tables_1_2) (i := 80) rfl))), rfl⟩
theorem iw_237 : (Cond.fieldLink "SnoopingBusModel" 31 "SnoopingBusModel" "values" "[I") ∈ BG := List.mem_filter.mpr ⟨List.mem_append_right _ (List.mem_append_right _ (List.mem_append_left _ (List.mem_of_getElem? (l := tables_1_2) (i := 81) rfl))), rfl⟩
theorem iw_238 : (Cond.fieldLink "SnoopingBusModel" 34 "SnoopingBusModel" "lasts" "[I") ∈ BG := List.mem_filter.mpr ⟨List.mem_append_right _ (List.mem_append_right _ (List.mem_append_left _ (List.mem_of_getElem? (l := tables_1_2) (i := 82) rfl))), rfl⟩
theorem iw_239 : (Cond.fieldLink "SnoopingBusModel" 37 "SnoopingBusModel" "kinds" "[I") ∈ BG := List.mem_filter.mpr ⟨List.mem_append_right _ (List.mem_append_right _ (List.mem_append_left _ (List.mem_of_getElem? (l := tables_1_2) (i := 83) rfl))), rfl⟩
theorem iw_240 : (Cond.fieldLink "SnoopingBusModel" 40 "SnoopingBusModel" "wanted" "[I") ∈ BG := List.mem_filter.mpr ⟨List.mem_append_right _ (List.mem_append_right _ (List.mem_append_left _ (List.mem_of_getElem? (l := tables_1_2) (i := 84) rfl))), rfl⟩
theorem iw_241 : (Cond.fieldLink "SnoopingBusModel" 43 "SnoopingBusModel" "operands" "[I") ∈ BG := List.mem_filter.mpr ⟨List.mem_append_right _ (List.mem_append_right _ (List.mem_append_left _ (List.mem_of_getElem? (l := tables_1_2) (i := 85) rfl))), rfl⟩
theorem iw_242 : (Cond.fieldLink "SnoopingBusModel" 46 "SnoopingBusModel" "counts" "[I") ∈ BG := List.mem_filter.mpr ⟨List.mem_append_right _ (List.mem_append_right _ (List.mem_append_left _ (List.mem_of_getElem? (l := tables_1_2) (i := 87) rfl))), rfl⟩
theorem iw_243 : (Cond.fieldLink "SnoopingBusModel" 49 "SnoopingBusModel" "cores" "I") ∈ BG := List.mem_filter.mpr ⟨List.mem_append_right _ (List.mem_append_right _ (List.mem_append_left _ (List.mem_of_getElem? (l := tables_1_2) (i := 71) rfl))), rfl⟩
theorem iw_244 : (Cond.fieldLink "SnoopingBusModel" 53 "SnoopingBusModel" "ways" "I") ∈ BG := List.mem_filter.mpr ⟨List.mem_append_right _ (List.mem_append_right _ (List.mem_append_left _ (List.mem_of_getElem? (l := tables_1_2) (i := 72) rfl))), rfl⟩
abbrev b_Model_load : ByteArray := prog_6_method_14_code
abbrev y_Model_load : MethodName := ⟨"SnoopingBusModel", "load", "(II)I"⟩
theorem iw_245 : (Cond.code ⟨"SnoopingBusModel", "load", "(II)I"⟩ prog_6_method_14_code 5 (some FieldType.int)) ∈ BG := List.mem_filter.mpr ⟨List.mem_append_right _ (List.mem_append_right _ (List.mem_append_left _ (List.mem_of_getElem? (l := tables_1_2) (i := 126) rfl))), rfl⟩
abbrev w_Model_load : List Cond := Cond.code y_Model_load b_Model_load 5 (some FieldType.int) :: BG
theorem g_Model_load : GoodIn BG w_Model_load := BG_cons iw_245
theorem iw_246 : (Cond.instanceMethod ⟨"SnoopingBusModel", "load", "(II)I"⟩) ∈ BG := List.mem_filter.mpr ⟨List.mem_append_right _ (List.mem_append_right _ (List.mem_append_left _ (List.mem_of_getElem? (l := tables_1_2) (i := 124) rfl))), rfl⟩
theorem iw_247 : (Cond.selects "SnoopingBusModel" ⟨"SnoopingBusModel", "load", "(II)I"⟩ ⟨"SnoopingBusModel", "load", "(II)I"⟩) ∈ BG := List.mem_filter.mpr ⟨List.mem_append_right _ (List.mem_append_right _ (List.mem_append_left _ (List.mem_of_getElem? (l := tables_1_2) (i := 125) rfl))), rfl⟩
theorem iw_248 : (Cond.methodLink "SnoopingBusModel" 77 ⟨"SnoopingBusModel", "bars", "(II)I"⟩) ∈ BG := List.mem_filter.mpr ⟨List.mem_append_right _ (List.mem_append_right _ (List.mem_append_left _ (List.mem_of_getElem? (l := tables_1_2) (i := 127) rfl))), rfl⟩
theorem iw_249 : (Cond.methodLink "SnoopingBusModel" 80 ⟨"SnoopingBusModel", "find", "(II)I"⟩) ∈ BG := List.mem_filter.mpr ⟨List.mem_append_right _ (List.mem_append_right _ (List.mem_append_left _ (List.mem_of_getElem? (l := tables_1_2) (i := 138) rfl))), rfl⟩
theorem iw_250 : (Cond.methodLink "SnoopingBusModel" 83 ⟨"SnoopingBusModel", "ask", "(IIII)I"⟩) ∈ BG := List.mem_filter.mpr ⟨List.mem_append_right _ (List.mem_append_right _ (List.mem_append_left _ (List.mem_of_getElem? (l := tables_1_2) (i := 142) rfl))), rfl⟩
theorem iw_251 : (Cond.methodLink "SnoopingBusModel" 87 ⟨"SnoopingBusModel", "wordAt", "(II)I"⟩) ∈ BG := List.mem_filter.mpr ⟨List.mem_append_right _ (List.mem_append_right _ (List.mem_append_left _ (List.mem_of_getElem? (l := tables_1_2) (i := 146) rfl))), rfl⟩
theorem iw_252 : (Cond.methodLink "SnoopingBusModel" 74 ⟨"SnoopingBusModel", "use", "(I)V"⟩) ∈ BG := List.mem_filter.mpr ⟨List.mem_append_right _ (List.mem_append_right _ (List.mem_append_left _ (List.mem_of_getElem? (l := tables_1_2) (i := 150) rfl))), rfl⟩
abbrev b_Model_bars : ByteArray := prog_6_method_4_code
abbrev y_Model_bars : MethodName := ⟨"SnoopingBusModel", "bars", "(II)I"⟩
theorem iw_253 : (Cond.code ⟨"SnoopingBusModel", "bars", "(II)I"⟩ prog_6_method_4_code 3 (some FieldType.int)) ∈ BG := List.mem_filter.mpr ⟨List.mem_append_right _ (List.mem_append_right _ (List.mem_append_left _ (List.mem_of_getElem? (l := tables_1_2) (i := 130) rfl))), rfl⟩
abbrev w_Model_bars : List Cond := Cond.code y_Model_bars b_Model_bars 3 (some FieldType.int) :: BG
theorem g_Model_bars : GoodIn BG w_Model_bars := BG_cons iw_253
theorem iw_254 : (Cond.instanceMethod ⟨"SnoopingBusModel", "bars", "(II)I"⟩) ∈ BG := List.mem_filter.mpr ⟨List.mem_append_right _ (List.mem_append_right _ (List.mem_append_left _ (List.mem_of_getElem? (l := tables_1_2) (i := 129) rfl))), rfl⟩
theorem iw_255 : (Cond.selects "SnoopingBusModel" ⟨"SnoopingBusModel", "bars", "(II)I"⟩ ⟨"SnoopingBusModel", "bars", "(II)I"⟩) ∈ BG := List.mem_filter.mpr ⟨List.mem_append_left _ (List.mem_of_getElem? (l := k2_sels lw_privs) (i := 23) rfl), rfl⟩
theorem iw_256 : (Cond.methodLink "SnoopingBusModel" 56 ⟨"SnoopingBusModel", "isCore", "(I)Z"⟩) ∈ BG := List.mem_filter.mpr ⟨List.mem_append_right _ (List.mem_append_right _ (List.mem_append_left _ (List.mem_of_getElem? (l := tables_1_2) (i := 131) rfl))), rfl⟩
theorem iw_257 : (Cond.methodLink "SnoopingBusModel" 60 ⟨"SnoopingBusModel", "isAddress", "(I)Z"⟩) ∈ BG := List.mem_filter.mpr ⟨List.mem_append_right _ (List.mem_append_right _ (List.mem_append_left _ (List.mem_of_getElem? (l := tables_1_2) (i := 135) rfl))), rfl⟩
abbrev b_Model_isCore : ByteArray := prog_6_method_2_code
abbrev y_Model_isCore : MethodName := ⟨"SnoopingBusModel", "isCore", "(I)Z"⟩
theorem iw_258 : (Cond.code ⟨"SnoopingBusModel", "isCore", "(I)Z"⟩ prog_6_method_2_code 2 (some FieldType.boolean)) ∈ BG := List.mem_filter.mpr ⟨List.mem_append_right _ (List.mem_append_right _ (List.mem_append_left _ (List.mem_of_getElem? (l := tables_1_2) (i := 134) rfl))), rfl⟩
abbrev w_Model_isCore : List Cond := Cond.code y_Model_isCore b_Model_isCore 2 (some FieldType.boolean) :: BG
theorem g_Model_isCore : GoodIn BG w_Model_isCore := BG_cons iw_258
theorem iw_259 : (Cond.instanceMethod ⟨"SnoopingBusModel", "isCore", "(I)Z"⟩) ∈ BG := List.mem_filter.mpr ⟨List.mem_append_right _ (List.mem_append_right _ (List.mem_append_left _ (List.mem_of_getElem? (l := tables_1_2) (i := 133) rfl))), rfl⟩
theorem iw_260 : (Cond.selects "SnoopingBusModel" ⟨"SnoopingBusModel", "isCore", "(I)Z"⟩ ⟨"SnoopingBusModel", "isCore", "(I)Z"⟩) ∈ BG := List.mem_filter.mpr ⟨List.mem_append_left _ (List.mem_of_getElem? (l := k2_sels lw_privs) (i := 24) rfl), rfl⟩
abbrev b_Model_isAddress : ByteArray := prog_6_method_3_code
abbrev y_Model_isAddress : MethodName := ⟨"SnoopingBusModel", "isAddress", "(I)Z"⟩
theorem iw_261 : (Cond.code ⟨"SnoopingBusModel", "isAddress", "(I)Z"⟩ prog_6_method_3_code 1 (some FieldType.boolean)) ∈ BG := List.mem_filter.mpr ⟨List.mem_append_right _ (List.mem_append_right _ (List.mem_append_left _ (List.mem_of_getElem? (l := tables_1_2) (i := 137) rfl))), rfl⟩
abbrev w_Model_isAddress : List Cond := Cond.code y_Model_isAddress b_Model_isAddress 1 (some FieldType.boolean) :: BG
theorem g_Model_isAddress : GoodIn BG w_Model_isAddress := BG_cons iw_261
theorem iw_262 : (Cond.static ⟨"SnoopingBusModel", "isAddress", "(I)Z"⟩) ∈ BG := List.mem_filter.mpr ⟨List.mem_append_right _ (List.mem_append_right _ (List.mem_append_left _ (List.mem_of_getElem? (l := tables_1_2) (i := 136) rfl))), rfl⟩
abbrev b_Model_find : ByteArray := prog_6_method_5_code
abbrev y_Model_find : MethodName := ⟨"SnoopingBusModel", "find", "(II)I"⟩
theorem iw_263 : (Cond.code ⟨"SnoopingBusModel", "find", "(II)I"⟩ prog_6_method_5_code 5 (some FieldType.int)) ∈ BG := List.mem_filter.mpr ⟨List.mem_append_right _ (List.mem_append_right _ (List.mem_append_left _ (List.mem_of_getElem? (l := tables_1_2) (i := 141) rfl))), rfl⟩
abbrev w_Model_find : List Cond := Cond.code y_Model_find b_Model_find 5 (some FieldType.int) :: BG
theorem g_Model_find : GoodIn BG w_Model_find := BG_cons iw_263
theorem iw_264 : (Cond.instanceMethod ⟨"SnoopingBusModel", "find", "(II)I"⟩) ∈ BG := List.mem_filter.mpr ⟨List.mem_append_right _ (List.mem_append_right _ (List.mem_append_left _ (List.mem_of_getElem? (l := tables_1_2) (i := 140) rfl))), rfl⟩
theorem iw_265 : (Cond.selects "SnoopingBusModel" ⟨"SnoopingBusModel", "find", "(II)I"⟩ ⟨"SnoopingBusModel", "find", "(II)I"⟩) ∈ BG := List.mem_filter.mpr ⟨List.mem_append_left _ (List.mem_of_getElem? (l := k2_sels lw_privs) (i := 25) rfl), rfl⟩
abbrev b_Model_ask : ByteArray := prog_6_method_13_code
abbrev y_Model_ask : MethodName := ⟨"SnoopingBusModel", "ask", "(IIII)I"⟩
theorem iw_266 : (Cond.code ⟨"SnoopingBusModel", "ask", "(IIII)I"⟩ prog_6_method_13_code 5 (some FieldType.int)) ∈ BG := List.mem_filter.mpr ⟨List.mem_append_right _ (List.mem_append_right _ (List.mem_append_left _ (List.mem_of_getElem? (l := tables_1_2) (i := 145) rfl))), rfl⟩
abbrev w_Model_ask : List Cond := Cond.code y_Model_ask b_Model_ask 5 (some FieldType.int) :: BG
theorem g_Model_ask : GoodIn BG w_Model_ask := BG_cons iw_266
theorem iw_267 : (Cond.instanceMethod ⟨"SnoopingBusModel", "ask", "(IIII)I"⟩) ∈ BG := List.mem_filter.mpr ⟨List.mem_append_right _ (List.mem_append_right _ (List.mem_append_left _ (List.mem_of_getElem? (l := tables_1_2) (i := 144) rfl))), rfl⟩
theorem iw_268 : (Cond.selects "SnoopingBusModel" ⟨"SnoopingBusModel", "ask", "(IIII)I"⟩ ⟨"SnoopingBusModel", "ask", "(IIII)I"⟩) ∈ BG := List.mem_filter.mpr ⟨List.mem_append_left _ (List.mem_of_getElem? (l := k2_sels lw_privs) (i := 26) rfl), rfl⟩
abbrev b_Model_wordAt : ByteArray := prog_6_method_10_code
abbrev y_Model_wordAt : MethodName := ⟨"SnoopingBusModel", "wordAt", "(II)I"⟩
theorem iw_269 : (Cond.code ⟨"SnoopingBusModel", "wordAt", "(II)I"⟩ prog_6_method_10_code 3 (some FieldType.int)) ∈ BG := List.mem_filter.mpr ⟨List.mem_append_right _ (List.mem_append_right _ (List.mem_append_left _ (List.mem_of_getElem? (l := tables_1_2) (i := 149) rfl))), rfl⟩
abbrev w_Model_wordAt : List Cond := Cond.code y_Model_wordAt b_Model_wordAt 3 (some FieldType.int) :: BG
theorem g_Model_wordAt : GoodIn BG w_Model_wordAt := BG_cons iw_269
theorem iw_270 : (Cond.instanceMethod ⟨"SnoopingBusModel", "wordAt", "(II)I"⟩) ∈ BG := List.mem_filter.mpr ⟨List.mem_append_right _ (List.mem_append_right _ (List.mem_append_left _ (List.mem_of_getElem? (l := tables_1_2) (i := 148) rfl))), rfl⟩
theorem iw_271 : (Cond.selects "SnoopingBusModel" ⟨"SnoopingBusModel", "wordAt", "(II)I"⟩ ⟨"SnoopingBusModel", "wordAt", "(II)I"⟩) ∈ BG := List.mem_filter.mpr ⟨List.mem_append_left _ (List.mem_of_getElem? (l := k2_sels lw_privs) (i := 27) rfl), rfl⟩
abbrev b_Model_use : ByteArray := prog_6_method_6_code
abbrev y_Model_use : MethodName := ⟨"SnoopingBusModel", "use", "(I)V"⟩
theorem iw_272 : (Cond.code ⟨"SnoopingBusModel", "use", "(I)V"⟩ prog_6_method_6_code 2 none) ∈ BG := List.mem_filter.mpr ⟨List.mem_append_right _ (List.mem_append_right _ (List.mem_append_left _ (List.mem_of_getElem? (l := tables_1_2) (i := 153) rfl))), rfl⟩
abbrev w_Model_use : List Cond := Cond.code y_Model_use b_Model_use 2 none :: BG
theorem g_Model_use : GoodIn BG w_Model_use := BG_cons iw_272
theorem iw_273 : (Cond.instanceMethod ⟨"SnoopingBusModel", "use", "(I)V"⟩) ∈ BG := List.mem_filter.mpr ⟨List.mem_append_right _ (List.mem_append_right _ (List.mem_append_left _ (List.mem_of_getElem? (l := tables_1_2) (i := 152) rfl))), rfl⟩
theorem iw_274 : (Cond.selects "SnoopingBusModel" ⟨"SnoopingBusModel", "use", "(I)V"⟩ ⟨"SnoopingBusModel", "use", "(I)V"⟩) ∈ BG := List.mem_filter.mpr ⟨List.mem_append_left _ (List.mem_of_getElem? (l := k2_sels lw_privs) (i := 28) rfl), rfl⟩
theorem iw_275 : (Cond.fieldLink "SnoopingBusModel" 63 "SnoopingBusModel" "clock" "I") ∈ BG := List.mem_filter.mpr ⟨List.mem_append_right _ (List.mem_append_right _ (List.mem_append_left _ (List.mem_of_getElem? (l := tables_1_2) (i := 78) rfl))), rfl⟩
abbrev b_Model_store : ByteArray := prog_6_method_15_code
abbrev y_Model_store : MethodName := ⟨"SnoopingBusModel", "store", "(III)I"⟩
theorem iw_276 : (Cond.code ⟨"SnoopingBusModel", "store", "(III)I"⟩ prog_6_method_15_code 5 (some FieldType.int)) ∈ BG := List.mem_filter.mpr ⟨List.mem_append_right _ (List.mem_append_right _ (List.mem_append_left _ (List.mem_of_getElem? (l := tables_1_2) (i := 157) rfl))), rfl⟩
abbrev w_Model_store : List Cond := Cond.code y_Model_store b_Model_store 5 (some FieldType.int) :: BG
theorem g_Model_store : GoodIn BG w_Model_store := BG_cons iw_276
theorem iw_277 : (Cond.instanceMethod ⟨"SnoopingBusModel", "store", "(III)I"⟩) ∈ BG := List.mem_filter.mpr ⟨List.mem_append_right _ (List.mem_append_right _ (List.mem_append_left _ (List.mem_of_getElem? (l := tables_1_2) (i := 155) rfl))), rfl⟩
theorem iw_278 : (Cond.selects "SnoopingBusModel" ⟨"SnoopingBusModel", "store", "(III)I"⟩ ⟨"SnoopingBusModel", "store", "(III)I"⟩) ∈ BG := List.mem_filter.mpr ⟨List.mem_append_right _ (List.mem_append_right _ (List.mem_append_left _ (List.mem_of_getElem? (l := tables_1_2) (i := 156) rfl))), rfl⟩
abbrev b_Model_drain : ByteArray := prog_6_method_17_code
abbrev y_Model_drain : MethodName := ⟨"SnoopingBusModel", "drain", "(I)I"⟩
theorem iw_279 : (Cond.code ⟨"SnoopingBusModel", "drain", "(I)I"⟩ prog_6_method_17_code 4 (some FieldType.int)) ∈ BG := List.mem_filter.mpr ⟨List.mem_append_right _ (List.mem_append_right _ (List.mem_append_left _ (List.mem_of_getElem? (l := tables_1_2) (i := 161) rfl))), rfl⟩
abbrev w_Model_drain : List Cond := Cond.code y_Model_drain b_Model_drain 4 (some FieldType.int) :: BG
theorem g_Model_drain : GoodIn BG w_Model_drain := BG_cons iw_279
theorem iw_280 : (Cond.instanceMethod ⟨"SnoopingBusModel", "drain", "(I)I"⟩) ∈ BG := List.mem_filter.mpr ⟨List.mem_append_right _ (List.mem_append_right _ (List.mem_append_left _ (List.mem_of_getElem? (l := tables_1_2) (i := 159) rfl))), rfl⟩
theorem iw_281 : (Cond.selects "SnoopingBusModel" ⟨"SnoopingBusModel", "drain", "(I)I"⟩ ⟨"SnoopingBusModel", "drain", "(I)I"⟩) ∈ BG := List.mem_filter.mpr ⟨List.mem_append_right _ (List.mem_append_right _ (List.mem_append_left _ (List.mem_of_getElem? (l := tables_1_2) (i := 160) rfl))), rfl⟩
theorem iw_282 : (Cond.methodLink "SnoopingBusModel" 94 ⟨"SnoopingBusModel", "owns", "(I)Z"⟩) ∈ BG := List.mem_filter.mpr ⟨List.mem_append_right _ (List.mem_append_right _ (List.mem_append_left _ (List.mem_of_getElem? (l := tables_1_2) (i := 162) rfl))), rfl⟩
theorem iw_283 : (Cond.methodLink "SnoopingBusModel" 97 ⟨"SnoopingBusModel", "drainTo", "(II)V"⟩) ∈ BG := List.mem_filter.mpr ⟨List.mem_append_right _ (List.mem_append_right _ (List.mem_append_left _ (List.mem_of_getElem? (l := tables_1_2) (i := 166) rfl))), rfl⟩
abbrev b_Model_owns : ByteArray := prog_6_method_12_code
abbrev y_Model_owns : MethodName := ⟨"SnoopingBusModel", "owns", "(I)Z"⟩
theorem iw_284 : (Cond.code ⟨"SnoopingBusModel", "owns", "(I)Z"⟩ prog_6_method_12_code 2 (some FieldType.boolean)) ∈ BG := List.mem_filter.mpr ⟨List.mem_append_right _ (List.mem_append_right _ (List.mem_append_left _ (List.mem_of_getElem? (l := tables_1_2) (i := 165) rfl))), rfl⟩
abbrev w_Model_owns : List Cond := Cond.code y_Model_owns b_Model_owns 2 (some FieldType.boolean) :: BG
theorem g_Model_owns : GoodIn BG w_Model_owns := BG_cons iw_284
theorem iw_285 : (Cond.instanceMethod ⟨"SnoopingBusModel", "owns", "(I)Z"⟩) ∈ BG := List.mem_filter.mpr ⟨List.mem_append_right _ (List.mem_append_right _ (List.mem_append_left _ (List.mem_of_getElem? (l := tables_1_2) (i := 164) rfl))), rfl⟩
theorem iw_286 : (Cond.selects "SnoopingBusModel" ⟨"SnoopingBusModel", "owns", "(I)Z"⟩ ⟨"SnoopingBusModel", "owns", "(I)Z"⟩) ∈ BG := List.mem_filter.mpr ⟨List.mem_append_left _ (List.mem_of_getElem? (l := k2_sels lw_privs) (i := 29) rfl), rfl⟩
abbrev b_Model_drainTo : ByteArray := prog_6_method_16_code
abbrev y_Model_drainTo : MethodName := ⟨"SnoopingBusModel", "drainTo", "(II)V"⟩
theorem iw_287 : (Cond.code ⟨"SnoopingBusModel", "drainTo", "(II)V"⟩ prog_6_method_16_code 4 none) ∈ BG := List.mem_filter.mpr ⟨List.mem_append_right _ (List.mem_append_right _ (List.mem_append_left _ (List.mem_of_getElem? (l := tables_1_2) (i := 169) rfl))), rfl⟩
abbrev w_Model_drainTo : List Cond := Cond.code y_Model_drainTo b_Model_drainTo 4 none :: BG
theorem g_Model_drainTo : GoodIn BG w_Model_drainTo := BG_cons iw_287
theorem iw_288 : (Cond.instanceMethod ⟨"SnoopingBusModel", "drainTo", "(II)V"⟩) ∈ BG := List.mem_filter.mpr ⟨List.mem_append_right _ (List.mem_append_right _ (List.mem_append_left _ (List.mem_of_getElem? (l := tables_1_2) (i := 168) rfl))), rfl⟩
theorem iw_289 : (Cond.selects "SnoopingBusModel" ⟨"SnoopingBusModel", "drainTo", "(II)V"⟩ ⟨"SnoopingBusModel", "drainTo", "(II)V"⟩) ∈ BG := List.mem_filter.mpr ⟨List.mem_append_left _ (List.mem_of_getElem? (l := k2_sels lw_privs) (i := 30) rfl), rfl⟩
theorem iw_290 : (Cond.methodLink "SnoopingBusModel" 90 ⟨"SnoopingBusModel", "put", "(III)V"⟩) ∈ BG := List.mem_filter.mpr ⟨List.mem_append_right _ (List.mem_append_right _ (List.mem_append_left _ (List.mem_of_getElem? (l := tables_1_2) (i := 170) rfl))), rfl⟩
abbrev b_Model_put : ByteArray := prog_6_method_11_code
abbrev y_Model_put : MethodName := ⟨"SnoopingBusModel", "put", "(III)V"⟩
theorem iw_291 : (Cond.code ⟨"SnoopingBusModel", "put", "(III)V"⟩ prog_6_method_11_code 4 none) ∈ BG := List.mem_filter.mpr ⟨List.mem_append_right _ (List.mem_append_right _ (List.mem_append_left _ (List.mem_of_getElem? (l := tables_1_2) (i := 173) rfl))), rfl⟩
abbrev w_Model_put : List Cond := Cond.code y_Model_put b_Model_put 4 none :: BG
theorem g_Model_put : GoodIn BG w_Model_put := BG_cons iw_291
theorem iw_292 : (Cond.instanceMethod ⟨"SnoopingBusModel", "put", "(III)V"⟩) ∈ BG := List.mem_filter.mpr ⟨List.mem_append_right _ (List.mem_append_right _ (List.mem_append_left _ (List.mem_of_getElem? (l := tables_1_2) (i := 172) rfl))), rfl⟩
theorem iw_293 : (Cond.selects "SnoopingBusModel" ⟨"SnoopingBusModel", "put", "(III)V"⟩ ⟨"SnoopingBusModel", "put", "(III)V"⟩) ∈ BG := List.mem_filter.mpr ⟨List.mem_append_left _ (List.mem_of_getElem? (l := k2_sels lw_privs) (i := 31) rfl), rfl⟩
abbrev b_Model_swap : ByteArray := prog_6_method_20_code
abbrev y_Model_swap : MethodName := ⟨"SnoopingBusModel", "swap", "(III)I"⟩
theorem iw_294 : (Cond.code ⟨"SnoopingBusModel", "swap", "(III)I"⟩ prog_6_method_20_code 4 (some FieldType.int)) ∈ BG := List.mem_filter.mpr ⟨List.mem_append_right _ (List.mem_append_right _ (List.mem_append_left _ (List.mem_of_getElem? (l := tables_1_2) (i := 177) rfl))), rfl⟩
abbrev w_Model_swap : List Cond := Cond.code y_Model_swap b_Model_swap 4 (some FieldType.int) :: BG
theorem g_Model_swap : GoodIn BG w_Model_swap := BG_cons iw_294
theorem iw_295 : (Cond.instanceMethod ⟨"SnoopingBusModel", "swap", "(III)I"⟩) ∈ BG := List.mem_filter.mpr ⟨List.mem_append_right _ (List.mem_append_right _ (List.mem_append_left _ (List.mem_of_getElem? (l := tables_1_2) (i := 175) rfl))), rfl⟩
theorem iw_296 : (Cond.selects "SnoopingBusModel" ⟨"SnoopingBusModel", "swap", "(III)I"⟩ ⟨"SnoopingBusModel", "swap", "(III)I"⟩) ∈ BG := List.mem_filter.mpr ⟨List.mem_append_right _ (List.mem_append_right _ (List.mem_append_left _ (List.mem_of_getElem? (l := tables_1_2) (i := 176) rfl))), rfl⟩
theorem iw_297 : (Cond.methodLink "SnoopingBusModel" 105 ⟨"SnoopingBusModel", "change", "(IIIZ)I"⟩) ∈ BG := List.mem_filter.mpr ⟨List.mem_append_right _ (List.mem_append_right _ (List.mem_append_left _ (List.mem_of_getElem? (l := tables_1_2) (i := 178) rfl))), rfl⟩
abbrev b_Model_change : ByteArray := prog_6_method_19_code
abbrev y_Model_change : MethodName := ⟨"SnoopingBusModel", "change", "(IIIZ)I"⟩
theorem iw_298 : (Cond.code ⟨"SnoopingBusModel", "change", "(IIIZ)I"⟩ prog_6_method_19_code 7 (some FieldType.int)) ∈ BG := List.mem_filter.mpr ⟨List.mem_append_right _ (List.mem_append_right _ (List.mem_append_left _ (List.mem_of_getElem? (l := tables_1_2) (i := 181) rfl))), rfl⟩
abbrev w_Model_change : List Cond := Cond.code y_Model_change b_Model_change 7 (some FieldType.int) :: BG
theorem g_Model_change : GoodIn BG w_Model_change := BG_cons iw_298
theorem iw_299 : (Cond.instanceMethod ⟨"SnoopingBusModel", "change", "(IIIZ)I"⟩) ∈ BG := List.mem_filter.mpr ⟨List.mem_append_right _ (List.mem_append_right _ (List.mem_append_left _ (List.mem_of_getElem? (l := tables_1_2) (i := 180) rfl))), rfl⟩
theorem iw_300 : (Cond.selects "SnoopingBusModel" ⟨"SnoopingBusModel", "change", "(IIIZ)I"⟩ ⟨"SnoopingBusModel", "change", "(IIIZ)I"⟩) ∈ BG := List.mem_filter.mpr ⟨List.mem_append_left _ (List.mem_of_getElem? (l := k2_sels lw_privs) (i := 32) rfl), rfl⟩
theorem iw_301 : (Cond.methodLink "SnoopingBusModel" 101 ⟨"SnoopingBusModel", "tradeAt", "(IIIIZ)V"⟩) ∈ BG := List.mem_filter.mpr ⟨List.mem_append_right _ (List.mem_append_right _ (List.mem_append_left _ (List.mem_of_getElem? (l := tables_1_2) (i := 182) rfl))), rfl⟩
abbrev b_Model_tradeAt : ByteArray := prog_6_method_18_code
abbrev y_Model_tradeAt : MethodName := ⟨"SnoopingBusModel", "tradeAt", "(IIIIZ)V"⟩
theorem iw_302 : (Cond.code ⟨"SnoopingBusModel", "tradeAt", "(IIIIZ)V"⟩ prog_6_method_18_code 6 none) ∈ BG := List.mem_filter.mpr ⟨List.mem_append_right _ (List.mem_append_right _ (List.mem_append_left _ (List.mem_of_getElem? (l := tables_1_2) (i := 185) rfl))), rfl⟩
abbrev w_Model_tradeAt : List Cond := Cond.code y_Model_tradeAt b_Model_tradeAt 6 none :: BG
theorem g_Model_tradeAt : GoodIn BG w_Model_tradeAt := BG_cons iw_302
theorem iw_303 : (Cond.instanceMethod ⟨"SnoopingBusModel", "tradeAt", "(IIIIZ)V"⟩) ∈ BG := List.mem_filter.mpr ⟨List.mem_append_right _ (List.mem_append_right _ (List.mem_append_left _ (List.mem_of_getElem? (l := tables_1_2) (i := 184) rfl))), rfl⟩
theorem iw_304 : (Cond.selects "SnoopingBusModel" ⟨"SnoopingBusModel", "tradeAt", "(IIIIZ)V"⟩ ⟨"SnoopingBusModel", "tradeAt", "(IIIIZ)V"⟩) ∈ BG := List.mem_filter.mpr ⟨List.mem_append_left _ (List.mem_of_getElem? (l := k2_sels lw_privs) (i := 33) rfl), rfl⟩
abbrev b_Model_add : ByteArray := prog_6_method_21_code
abbrev y_Model_add : MethodName := ⟨"SnoopingBusModel", "add", "(III)I"⟩
theorem iw_305 : (Cond.code ⟨"SnoopingBusModel", "add", "(III)I"⟩ prog_6_method_21_code 4 (some FieldType.int)) ∈ BG := List.mem_filter.mpr ⟨List.mem_append_right _ (List.mem_append_right _ (List.mem_append_left _ (List.mem_of_getElem? (l := tables_1_2) (i := 189) rfl))), rfl⟩
abbrev w_Model_add : List Cond := Cond.code y_Model_add b_Model_add 4 (some FieldType.int) :: BG
theorem g_Model_add : GoodIn BG w_Model_add := BG_cons iw_305
theorem iw_306 : (Cond.instanceMethod ⟨"SnoopingBusModel", "add", "(III)I"⟩) ∈ BG := List.mem_filter.mpr ⟨List.mem_append_right _ (List.mem_append_right _ (List.mem_append_left _ (List.mem_of_getElem? (l := tables_1_2) (i := 187) rfl))), rfl⟩
theorem iw_307 : (Cond.selects "SnoopingBusModel" ⟨"SnoopingBusModel", "add", "(III)I"⟩ ⟨"SnoopingBusModel", "add", "(III)I"⟩) ∈ BG := List.mem_filter.mpr ⟨List.mem_append_right _ (List.mem_append_right _ (List.mem_append_left _ (List.mem_of_getElem? (l := tables_1_2) (i := 188) rfl))), rfl⟩
abbrev b_Model_bus : ByteArray := prog_6_method_25_code
abbrev y_Model_bus : MethodName := ⟨"SnoopingBusModel", "bus", "()I"⟩
theorem iw_308 : (Cond.code ⟨"SnoopingBusModel", "bus", "()I"⟩ prog_6_method_25_code 4 (some FieldType.int)) ∈ BG := List.mem_filter.mpr ⟨List.mem_append_right _ (List.mem_append_right _ (List.mem_append_left _ (List.mem_of_getElem? (l := tables_1_2) (i := 193) rfl))), rfl⟩
abbrev w_Model_bus : List Cond := Cond.code y_Model_bus b_Model_bus 4 (some FieldType.int) :: BG
theorem g_Model_bus : GoodIn BG w_Model_bus := BG_cons iw_308
theorem iw_309 : (Cond.instanceMethod ⟨"SnoopingBusModel", "bus", "()I"⟩) ∈ BG := List.mem_filter.mpr ⟨List.mem_append_right _ (List.mem_append_right _ (List.mem_append_left _ (List.mem_of_getElem? (l := tables_1_2) (i := 191) rfl))), rfl⟩
theorem iw_310 : (Cond.selects "SnoopingBusModel" ⟨"SnoopingBusModel", "bus", "()I"⟩ ⟨"SnoopingBusModel", "bus", "()I"⟩) ∈ BG := List.mem_filter.mpr ⟨List.mem_append_right _ (List.mem_append_right _ (List.mem_append_left _ (List.mem_of_getElem? (l := tables_1_2) (i := 192) rfl))), rfl⟩
theorem iw_311 : (Cond.fieldLink "SnoopingBusModel" 116 "SnoopingBusModel" "turn" "I") ∈ BG := List.mem_filter.mpr ⟨List.mem_append_right _ (List.mem_append_right _ (List.mem_append_left _ (List.mem_of_getElem? (l := tables_1_2) (i := 86) rfl))), rfl⟩
theorem iw_312 : (Cond.methodLink "SnoopingBusModel" 119 ⟨"SnoopingBusModel", "serveRead", "(II)V"⟩) ∈ BG := List.mem_filter.mpr ⟨List.mem_append_right _ (List.mem_append_right _ (List.mem_append_left _ (List.mem_of_getElem? (l := tables_1_2) (i := 194) rfl))), rfl⟩
theorem iw_313 : (Cond.methodLink "SnoopingBusModel" 122 ⟨"SnoopingBusModel", "serveOwn", "(III)V"⟩) ∈ BG := List.mem_filter.mpr ⟨List.mem_append_right _ (List.mem_append_right _ (List.mem_append_left _ (List.mem_of_getElem? (l := tables_1_2) (i := 214) rfl))), rfl⟩
abbrev b_Model_serveRead : ByteArray := prog_6_method_23_code
abbrev y_Model_serveRead : MethodName := ⟨"SnoopingBusModel", "serveRead", "(II)V"⟩
theorem iw_314 : (Cond.code ⟨"SnoopingBusModel", "serveRead", "(II)V"⟩ prog_6_method_23_code 5 none) ∈ BG := List.mem_filter.mpr ⟨List.mem_append_right _ (List.mem_append_right _ (List.mem_append_left _ (List.mem_of_getElem? (l := tables_1_2) (i := 197) rfl))), rfl⟩
abbrev w_Model_serveRead : List Cond := Cond.code y_Model_serveRead b_Model_serveRead 5 none :: BG
theorem g_Model_serveRead : GoodIn BG w_Model_serveRead := BG_cons iw_314
theorem iw_315 : (Cond.instanceMethod ⟨"SnoopingBusModel", "serveRead", "(II)V"⟩) ∈ BG := List.mem_filter.mpr ⟨List.mem_append_right _ (List.mem_append_right _ (List.mem_append_left _ (List.mem_of_getElem? (l := tables_1_2) (i := 196) rfl))), rfl⟩
theorem iw_316 : (Cond.selects "SnoopingBusModel" ⟨"SnoopingBusModel", "serveRead", "(II)V"⟩ ⟨"SnoopingBusModel", "serveRead", "(II)V"⟩) ∈ BG := List.mem_filter.mpr ⟨List.mem_append_left _ (List.mem_of_getElem? (l := k2_sels lw_privs) (i := 34) rfl), rfl⟩
theorem iw_317 : (Cond.methodLink "SnoopingBusModel" 109 ⟨"SnoopingBusModel", "snoop", "(IIZ)Z"⟩) ∈ BG := List.mem_filter.mpr ⟨List.mem_append_right _ (List.mem_append_right _ (List.mem_append_left _ (List.mem_of_getElem? (l := tables_1_2) (i := 198) rfl))), rfl⟩
theorem iw_318 : (Cond.methodLink "SnoopingBusModel" 113 ⟨"SnoopingBusModel", "fill", "(II)I"⟩) ∈ BG := List.mem_filter.mpr ⟨List.mem_append_right _ (List.mem_append_right _ (List.mem_append_left _ (List.mem_of_getElem? (l := tables_1_2) (i := 206) rfl))), rfl⟩
abbrev b_Model_snoop : ByteArray := prog_6_method_22_code
abbrev y_Model_snoop : MethodName := ⟨"SnoopingBusModel", "snoop", "(IIZ)Z"⟩
theorem iw_319 : (Cond.code ⟨"SnoopingBusModel", "snoop", "(IIZ)Z"⟩ prog_6_method_22_code 7 (some FieldType.boolean)) ∈ BG := List.mem_filter.mpr ⟨List.mem_append_right _ (List.mem_append_right _ (List.mem_append_left _ (List.mem_of_getElem? (l := tables_1_2) (i := 201) rfl))), rfl⟩
abbrev w_Model_snoop : List Cond := Cond.code y_Model_snoop b_Model_snoop 7 (some FieldType.boolean) :: BG
theorem g_Model_snoop : GoodIn BG w_Model_snoop := BG_cons iw_319
theorem iw_320 : (Cond.instanceMethod ⟨"SnoopingBusModel", "snoop", "(IIZ)Z"⟩) ∈ BG := List.mem_filter.mpr ⟨List.mem_append_right _ (List.mem_append_right _ (List.mem_append_left _ (List.mem_of_getElem? (l := tables_1_2) (i := 200) rfl))), rfl⟩
theorem iw_321 : (Cond.selects "SnoopingBusModel" ⟨"SnoopingBusModel", "snoop", "(IIZ)Z"⟩ ⟨"SnoopingBusModel", "snoop", "(IIZ)Z"⟩) ∈ BG := List.mem_filter.mpr ⟨List.mem_append_left _ (List.mem_of_getElem? (l := k2_sels lw_privs) (i := 35) rfl), rfl⟩
theorem iw_322 : (Cond.methodLink "SnoopingBusModel" 70 ⟨"SnoopingBusModel", "writeBack", "(I)V"⟩) ∈ BG := List.mem_filter.mpr ⟨List.mem_append_right _ (List.mem_append_right _ (List.mem_append_left _ (List.mem_of_getElem? (l := tables_1_2) (i := 202) rfl))), rfl⟩
abbrev b_Model_writeBack : ByteArray := prog_6_method_7_code
abbrev y_Model_writeBack : MethodName := ⟨"SnoopingBusModel", "writeBack", "(I)V"⟩
theorem iw_323 : (Cond.code ⟨"SnoopingBusModel", "writeBack", "(I)V"⟩ prog_6_method_7_code 3 none) ∈ BG := List.mem_filter.mpr ⟨List.mem_append_right _ (List.mem_append_right _ (List.mem_append_left _ (List.mem_of_getElem? (l := tables_1_2) (i := 205) rfl))), rfl⟩
abbrev w_Model_writeBack : List Cond := Cond.code y_Model_writeBack b_Model_writeBack 3 none :: BG
theorem g_Model_writeBack : GoodIn BG w_Model_writeBack := BG_cons iw_323
theorem iw_324 : (Cond.instanceMethod ⟨"SnoopingBusModel", "writeBack", "(I)V"⟩) ∈ BG := List.mem_filter.mpr ⟨List.mem_append_right _ (List.mem_append_right _ (List.mem_append_left _ (List.mem_of_getElem? (l := tables_1_2) (i := 204) rfl))), rfl⟩
theorem iw_325 : (Cond.selects "SnoopingBusModel" ⟨"SnoopingBusModel", "writeBack", "(I)V"⟩ ⟨"SnoopingBusModel", "writeBack", "(I)V"⟩) ∈ BG := List.mem_filter.mpr ⟨List.mem_append_left _ (List.mem_of_getElem? (l := k2_sels lw_privs) (i := 36) rfl), rfl⟩
abbrev b_Model_fill : ByteArray := prog_6_method_9_code
abbrev y_Model_fill : MethodName := ⟨"SnoopingBusModel", "fill", "(II)I"⟩
theorem iw_326 : (Cond.code ⟨"SnoopingBusModel", "fill", "(II)I"⟩ prog_6_method_9_code 5 (some FieldType.int)) ∈ BG := List.mem_filter.mpr ⟨List.mem_append_right _ (List.mem_append_right _ (List.mem_append_left _ (List.mem_of_getElem? (l := tables_1_2) (i := 209) rfl))), rfl⟩
abbrev w_Model_fill : List Cond := Cond.code y_Model_fill b_Model_fill 5 (some FieldType.int) :: BG
theorem g_Model_fill : GoodIn BG w_Model_fill := BG_cons iw_326
theorem iw_327 : (Cond.instanceMethod ⟨"SnoopingBusModel", "fill", "(II)I"⟩) ∈ BG := List.mem_filter.mpr ⟨List.mem_append_right _ (List.mem_append_right _ (List.mem_append_left _ (List.mem_of_getElem? (l := tables_1_2) (i := 208) rfl))), rfl⟩
theorem iw_328 : (Cond.selects "SnoopingBusModel" ⟨"SnoopingBusModel", "fill", "(II)I"⟩ ⟨"SnoopingBusModel", "fill", "(II)I"⟩) ∈ BG := List.mem_filter.mpr ⟨List.mem_append_left _ (List.mem_of_getElem? (l := k2_sels lw_privs) (i := 37) rfl), rfl⟩
theorem iw_329 : (Cond.methodLink "SnoopingBusModel" 66 ⟨"SnoopingBusModel", "roomIn", "(II)I"⟩) ∈ BG := List.mem_filter.mpr ⟨List.mem_append_right _ (List.mem_append_right _ (List.mem_append_left _ (List.mem_of_getElem? (l := tables_1_2) (i := 210) rfl))), rfl⟩
abbrev b_Model_roomIn : ByteArray := prog_6_method_8_code
abbrev y_Model_roomIn : MethodName := ⟨"SnoopingBusModel", "roomIn", "(II)I"⟩
theorem iw_330 : (Cond.code ⟨"SnoopingBusModel", "roomIn", "(II)I"⟩ prog_6_method_8_code 7 (some FieldType.int)) ∈ BG := List.mem_filter.mpr ⟨List.mem_append_right _ (List.mem_append_right _ (List.mem_append_left _ (List.mem_of_getElem? (l := tables_1_2) (i := 213) rfl))), rfl⟩
abbrev w_Model_roomIn : List Cond := Cond.code y_Model_roomIn b_Model_roomIn 7 (some FieldType.int) :: BG
theorem g_Model_roomIn : GoodIn BG w_Model_roomIn := BG_cons iw_330
theorem iw_331 : (Cond.instanceMethod ⟨"SnoopingBusModel", "roomIn", "(II)I"⟩) ∈ BG := List.mem_filter.mpr ⟨List.mem_append_right _ (List.mem_append_right _ (List.mem_append_left _ (List.mem_of_getElem? (l := tables_1_2) (i := 212) rfl))), rfl⟩
theorem iw_332 : (Cond.selects "SnoopingBusModel" ⟨"SnoopingBusModel", "roomIn", "(II)I"⟩ ⟨"SnoopingBusModel", "roomIn", "(II)I"⟩) ∈ BG := List.mem_filter.mpr ⟨List.mem_append_left _ (List.mem_of_getElem? (l := k2_sels lw_privs) (i := 38) rfl), rfl⟩
abbrev b_Model_serveOwn : ByteArray := prog_6_method_24_code
abbrev y_Model_serveOwn : MethodName := ⟨"SnoopingBusModel", "serveOwn", "(III)V"⟩
theorem iw_333 : (Cond.code ⟨"SnoopingBusModel", "serveOwn", "(III)V"⟩ prog_6_method_24_code 6 none) ∈ BG := List.mem_filter.mpr ⟨List.mem_append_right _ (List.mem_append_right _ (List.mem_append_left _ (List.mem_of_getElem? (l := tables_1_2) (i := 217) rfl))), rfl⟩
abbrev w_Model_serveOwn : List Cond := Cond.code y_Model_serveOwn b_Model_serveOwn 6 none :: BG
theorem g_Model_serveOwn : GoodIn BG w_Model_serveOwn := BG_cons iw_333
theorem iw_334 : (Cond.instanceMethod ⟨"SnoopingBusModel", "serveOwn", "(III)V"⟩) ∈ BG := List.mem_filter.mpr ⟨List.mem_append_right _ (List.mem_append_right _ (List.mem_append_left _ (List.mem_of_getElem? (l := tables_1_2) (i := 216) rfl))), rfl⟩
theorem iw_335 : (Cond.selects "SnoopingBusModel" ⟨"SnoopingBusModel", "serveOwn", "(III)V"⟩ ⟨"SnoopingBusModel", "serveOwn", "(III)V"⟩) ∈ BG := List.mem_filter.mpr ⟨List.mem_append_left _ (List.mem_of_getElem? (l := k2_sels lw_privs) (i := 39) rfl), rfl⟩
abbrev b_Model_evict : ByteArray := prog_6_method_26_code
abbrev y_Model_evict : MethodName := ⟨"SnoopingBusModel", "evict", "(II)I"⟩
theorem iw_336 : (Cond.code ⟨"SnoopingBusModel", "evict", "(II)I"⟩ prog_6_method_26_code 5 (some FieldType.int)) ∈ BG := List.mem_filter.mpr ⟨List.mem_append_right _ (List.mem_append_right _ (List.mem_append_left _ (List.mem_of_getElem? (l := tables_1_2) (i := 221) rfl))), rfl⟩
abbrev w_Model_evict : List Cond := Cond.code y_Model_evict b_Model_evict 5 (some FieldType.int) :: BG
theorem g_Model_evict : GoodIn BG w_Model_evict := BG_cons iw_336
theorem iw_337 : (Cond.instanceMethod ⟨"SnoopingBusModel", "evict", "(II)I"⟩) ∈ BG := List.mem_filter.mpr ⟨List.mem_append_right _ (List.mem_append_right _ (List.mem_append_left _ (List.mem_of_getElem? (l := tables_1_2) (i := 219) rfl))), rfl⟩
theorem iw_338 : (Cond.selects "SnoopingBusModel" ⟨"SnoopingBusModel", "evict", "(II)I"⟩ ⟨"SnoopingBusModel", "evict", "(II)I"⟩) ∈ BG := List.mem_filter.mpr ⟨List.mem_append_right _ (List.mem_append_right _ (List.mem_append_left _ (List.mem_of_getElem? (l := tables_1_2) (i := 220) rfl))), rfl⟩
abbrev b_Model_last : ByteArray := prog_6_method_27_code
abbrev y_Model_last : MethodName := ⟨"SnoopingBusModel", "last", "(I)I"⟩
theorem iw_339 : (Cond.code ⟨"SnoopingBusModel", "last", "(I)I"⟩ prog_6_method_27_code 2 (some FieldType.int)) ∈ BG := List.mem_filter.mpr ⟨List.mem_append_right _ (List.mem_append_right _ (List.mem_append_left _ (List.mem_of_getElem? (l := tables_1_2) (i := 225) rfl))), rfl⟩
abbrev w_Model_last : List Cond := Cond.code y_Model_last b_Model_last 2 (some FieldType.int) :: BG
theorem g_Model_last : GoodIn BG w_Model_last := BG_cons iw_339
theorem iw_340 : (Cond.instanceMethod ⟨"SnoopingBusModel", "last", "(I)I"⟩) ∈ BG := List.mem_filter.mpr ⟨List.mem_append_right _ (List.mem_append_right _ (List.mem_append_left _ (List.mem_of_getElem? (l := tables_1_2) (i := 223) rfl))), rfl⟩
theorem iw_341 : (Cond.selects "SnoopingBusModel" ⟨"SnoopingBusModel", "last", "(I)I"⟩ ⟨"SnoopingBusModel", "last", "(I)I"⟩) ∈ BG := List.mem_filter.mpr ⟨List.mem_append_right _ (List.mem_append_right _ (List.mem_append_left _ (List.mem_of_getElem? (l := tables_1_2) (i := 224) rfl))), rfl⟩
abbrev b_Model_request : ByteArray := prog_6_method_28_code
abbrev y_Model_request : MethodName := ⟨"SnoopingBusModel", "request", "(I)I"⟩
theorem iw_342 : (Cond.code ⟨"SnoopingBusModel", "request", "(I)I"⟩ prog_6_method_28_code 2 (some FieldType.int)) ∈ BG := List.mem_filter.mpr ⟨List.mem_append_right _ (List.mem_append_right _ (List.mem_append_left _ (List.mem_of_getElem? (l := tables_1_2) (i := 229) rfl))), rfl⟩
abbrev w_Model_request : List Cond := Cond.code y_Model_request b_Model_request 2 (some FieldType.int) :: BG
theorem g_Model_request : GoodIn BG w_Model_request := BG_cons iw_342
theorem iw_343 : (Cond.instanceMethod ⟨"SnoopingBusModel", "request", "(I)I"⟩) ∈ BG := List.mem_filter.mpr ⟨List.mem_append_right _ (List.mem_append_right _ (List.mem_append_left _ (List.mem_of_getElem? (l := tables_1_2) (i := 227) rfl))), rfl⟩
theorem iw_344 : (Cond.selects "SnoopingBusModel" ⟨"SnoopingBusModel", "request", "(I)I"⟩ ⟨"SnoopingBusModel", "request", "(I)I"⟩) ∈ BG := List.mem_filter.mpr ⟨List.mem_append_right _ (List.mem_append_right _ (List.mem_append_left _ (List.mem_of_getElem? (l := tables_1_2) (i := 228) rfl))), rfl⟩
abbrev b_Model_buffered : ByteArray := prog_6_method_29_code
abbrev y_Model_buffered : MethodName := ⟨"SnoopingBusModel", "buffered", "(I)I"⟩
theorem iw_345 : (Cond.code ⟨"SnoopingBusModel", "buffered", "(I)I"⟩ prog_6_method_29_code 2 (some FieldType.int)) ∈ BG := List.mem_filter.mpr ⟨List.mem_append_right _ (List.mem_append_right _ (List.mem_append_left _ (List.mem_of_getElem? (l := tables_1_2) (i := 233) rfl))), rfl⟩
abbrev w_Model_buffered : List Cond := Cond.code y_Model_buffered b_Model_buffered 2 (some FieldType.int) :: BG
theorem g_Model_buffered : GoodIn BG w_Model_buffered := BG_cons iw_345
theorem iw_346 : (Cond.instanceMethod ⟨"SnoopingBusModel", "buffered", "(I)I"⟩) ∈ BG := List.mem_filter.mpr ⟨List.mem_append_right _ (List.mem_append_right _ (List.mem_append_left _ (List.mem_of_getElem? (l := tables_1_2) (i := 231) rfl))), rfl⟩
theorem iw_347 : (Cond.selects "SnoopingBusModel" ⟨"SnoopingBusModel", "buffered", "(I)I"⟩ ⟨"SnoopingBusModel", "buffered", "(I)I"⟩) ∈ BG := List.mem_filter.mpr ⟨List.mem_append_right _ (List.mem_append_right _ (List.mem_append_left _ (List.mem_of_getElem? (l := tables_1_2) (i := 232) rfl))), rfl⟩
abbrev b_Model_state : ByteArray := prog_6_method_30_code
abbrev y_Model_state : MethodName := ⟨"SnoopingBusModel", "state", "(II)I"⟩
theorem iw_348 : (Cond.code ⟨"SnoopingBusModel", "state", "(II)I"⟩ prog_6_method_30_code 4 (some FieldType.int)) ∈ BG := List.mem_filter.mpr ⟨List.mem_append_right _ (List.mem_append_right _ (List.mem_append_left _ (List.mem_of_getElem? (l := tables_1_2) (i := 237) rfl))), rfl⟩
abbrev w_Model_state : List Cond := Cond.code y_Model_state b_Model_state 4 (some FieldType.int) :: BG
theorem g_Model_state : GoodIn BG w_Model_state := BG_cons iw_348
theorem iw_349 : (Cond.instanceMethod ⟨"SnoopingBusModel", "state", "(II)I"⟩) ∈ BG := List.mem_filter.mpr ⟨List.mem_append_right _ (List.mem_append_right _ (List.mem_append_left _ (List.mem_of_getElem? (l := tables_1_2) (i := 235) rfl))), rfl⟩
theorem iw_350 : (Cond.selects "SnoopingBusModel" ⟨"SnoopingBusModel", "state", "(II)I"⟩ ⟨"SnoopingBusModel", "state", "(II)I"⟩) ∈ BG := List.mem_filter.mpr ⟨List.mem_append_right _ (List.mem_append_right _ (List.mem_append_left _ (List.mem_of_getElem? (l := tables_1_2) (i := 236) rfl))), rfl⟩
abbrev b_Model_copy : ByteArray := prog_6_method_31_code
abbrev y_Model_copy : MethodName := ⟨"SnoopingBusModel", "copy", "(II)I"⟩
theorem iw_351 : (Cond.code ⟨"SnoopingBusModel", "copy", "(II)I"⟩ prog_6_method_31_code 4 (some FieldType.int)) ∈ BG := List.mem_filter.mpr ⟨List.mem_append_right _ (List.mem_append_right _ (List.mem_append_right _ (List.mem_of_getElem? (l := tables_1_3) (i := 1) rfl))), rfl⟩
abbrev w_Model_copy : List Cond := Cond.code y_Model_copy b_Model_copy 4 (some FieldType.int) :: BG
theorem g_Model_copy : GoodIn BG w_Model_copy := BG_cons iw_351
theorem iw_352 : (Cond.instanceMethod ⟨"SnoopingBusModel", "copy", "(II)I"⟩) ∈ BG := List.mem_filter.mpr ⟨List.mem_append_right _ (List.mem_append_right _ (List.mem_append_left _ (List.mem_of_getElem? (l := tables_1_2) (i := 239) rfl))), rfl⟩
theorem iw_353 : (Cond.selects "SnoopingBusModel" ⟨"SnoopingBusModel", "copy", "(II)I"⟩ ⟨"SnoopingBusModel", "copy", "(II)I"⟩) ∈ BG := List.mem_filter.mpr ⟨List.mem_append_right _ (List.mem_append_right _ (List.mem_append_right _ (List.mem_of_getElem? (l := tables_1_3) (i := 0) rfl))), rfl⟩
abbrev b_Model_memory : ByteArray := prog_6_method_32_code
abbrev y_Model_memory : MethodName := ⟨"SnoopingBusModel", "memory", "(I)I"⟩
theorem iw_354 : (Cond.code ⟨"SnoopingBusModel", "memory", "(I)I"⟩ prog_6_method_32_code 2 (some FieldType.int)) ∈ BG := List.mem_filter.mpr ⟨List.mem_append_right _ (List.mem_append_right _ (List.mem_append_right _ (List.mem_of_getElem? (l := tables_1_3) (i := 5) rfl))), rfl⟩
abbrev w_Model_memory : List Cond := Cond.code y_Model_memory b_Model_memory 2 (some FieldType.int) :: BG
theorem g_Model_memory : GoodIn BG w_Model_memory := BG_cons iw_354
theorem iw_355 : (Cond.instanceMethod ⟨"SnoopingBusModel", "memory", "(I)I"⟩) ∈ BG := List.mem_filter.mpr ⟨List.mem_append_right _ (List.mem_append_right _ (List.mem_append_right _ (List.mem_of_getElem? (l := tables_1_3) (i := 3) rfl))), rfl⟩
theorem iw_356 : (Cond.selects "SnoopingBusModel" ⟨"SnoopingBusModel", "memory", "(I)I"⟩ ⟨"SnoopingBusModel", "memory", "(I)I"⟩) ∈ BG := List.mem_filter.mpr ⟨List.mem_append_right _ (List.mem_append_right _ (List.mem_append_right _ (List.mem_of_getElem? (l := tables_1_3) (i := 4) rfl))), rfl⟩
abbrev b_Model_seen : ByteArray := prog_6_method_33_code
abbrev y_Model_seen : MethodName := ⟨"SnoopingBusModel", "seen", "(I)I"⟩
theorem iw_357 : (Cond.code ⟨"SnoopingBusModel", "seen", "(I)I"⟩ prog_6_method_33_code 5 (some FieldType.int)) ∈ BG := List.mem_filter.mpr ⟨List.mem_append_right _ (List.mem_append_right _ (List.mem_append_right _ (List.mem_of_getElem? (l := tables_1_3) (i := 9) rfl))), rfl⟩
abbrev w_Model_seen : List Cond := Cond.code y_Model_seen b_Model_seen 5 (some FieldType.int) :: BG
theorem g_Model_seen : GoodIn BG w_Model_seen := BG_cons iw_357
theorem iw_358 : (Cond.instanceMethod ⟨"SnoopingBusModel", "seen", "(I)I"⟩) ∈ BG := List.mem_filter.mpr ⟨List.mem_append_right _ (List.mem_append_right _ (List.mem_append_right _ (List.mem_of_getElem? (l := tables_1_3) (i := 7) rfl))), rfl⟩
theorem iw_359 : (Cond.selects "SnoopingBusModel" ⟨"SnoopingBusModel", "seen", "(I)I"⟩ ⟨"SnoopingBusModel", "seen", "(I)I"⟩) ∈ BG := List.mem_filter.mpr ⟨List.mem_append_right _ (List.mem_append_right _ (List.mem_append_right _ (List.mem_of_getElem? (l := tables_1_3) (i := 8) rfl))), rfl⟩
abbrev b_Model_count : ByteArray := prog_6_method_34_code
abbrev y_Model_count : MethodName := ⟨"SnoopingBusModel", "count", "(I)I"⟩
theorem iw_360 : (Cond.code ⟨"SnoopingBusModel", "count", "(I)I"⟩ prog_6_method_34_code 2 (some FieldType.int)) ∈ BG := List.mem_filter.mpr ⟨List.mem_append_right _ (List.mem_append_right _ (List.mem_append_right _ (List.mem_of_getElem? (l := tables_1_3) (i := 13) rfl))), rfl⟩
abbrev w_Model_count : List Cond := Cond.code y_Model_count b_Model_count 2 (some FieldType.int) :: BG
theorem g_Model_count : GoodIn BG w_Model_count := BG_cons iw_360
theorem iw_361 : (Cond.instanceMethod ⟨"SnoopingBusModel", "count", "(I)I"⟩) ∈ BG := List.mem_filter.mpr ⟨List.mem_append_right _ (List.mem_append_right _ (List.mem_append_right _ (List.mem_of_getElem? (l := tables_1_3) (i := 11) rfl))), rfl⟩
theorem iw_362 : (Cond.selects "SnoopingBusModel" ⟨"SnoopingBusModel", "count", "(I)I"⟩ ⟨"SnoopingBusModel", "count", "(I)I"⟩) ∈ BG := List.mem_filter.mpr ⟨List.mem_append_right _ (List.mem_append_right _ (List.mem_append_right _ (List.mem_of_getElem? (l := tables_1_3) (i := 12) rfl))), rfl⟩
abbrev b_Model_victim : ByteArray := prog_6_method_35_code
abbrev y_Model_victim : MethodName := ⟨"SnoopingBusModel", "victim", "(II)I"⟩
theorem iw_363 : (Cond.code ⟨"SnoopingBusModel", "victim", "(II)I"⟩ prog_6_method_35_code 4 (some FieldType.int)) ∈ BG := List.mem_filter.mpr ⟨List.mem_append_right _ (List.mem_append_right _ (List.mem_append_right _ (List.mem_of_getElem? (l := tables_1_3) (i := 17) rfl))), rfl⟩
abbrev w_Model_victim : List Cond := Cond.code y_Model_victim b_Model_victim 4 (some FieldType.int) :: BG
theorem g_Model_victim : GoodIn BG w_Model_victim := BG_cons iw_363
theorem iw_364 : (Cond.instanceMethod ⟨"SnoopingBusModel", "victim", "(II)I"⟩) ∈ BG := List.mem_filter.mpr ⟨List.mem_append_right _ (List.mem_append_right _ (List.mem_append_right _ (List.mem_of_getElem? (l := tables_1_3) (i := 15) rfl))), rfl⟩
theorem iw_365 : (Cond.selects "SnoopingBusModel" ⟨"SnoopingBusModel", "victim", "(II)I"⟩ ⟨"SnoopingBusModel", "victim", "(II)I"⟩) ∈ BG := List.mem_filter.mpr ⟨List.mem_append_right _ (List.mem_append_right _ (List.mem_append_right _ (List.mem_of_getElem? (l := tables_1_3) (i := 16) rfl))), rfl⟩
theorem iw_366 : (Cond.native ⟨"java/lang/System", "arraycopy", "(Ljava/lang/Object;ILjava/lang/Object;II)V"⟩) ∈ BG := List.mem_filter.mpr ⟨List.mem_append_right _ (List.mem_append_left _ (List.mem_of_getElem? (l := tables_1_1) (i := 234) rfl)), rfl⟩
theorem iw_367 : (Cond.static ⟨"java/lang/System", "arraycopy", "(Ljava/lang/Object;ILjava/lang/Object;II)V"⟩) ∈ BG := List.mem_filter.mpr ⟨List.mem_append_right _ (List.mem_append_left _ (List.mem_of_getElem? (l := tables_1_1) (i := 233) rfl)), rfl⟩
theorem iw_368 : (Cond.initialized "java/lang/System") ∈ BG := List.mem_filter.mpr ⟨List.mem_append_right _ (List.mem_append_left _ (List.mem_of_getElem? (l := tables_1_1) (i := 7) rfl)), rfl⟩
theorem iw_369 : (Cond.initialized "java/lang/Math") ∈ BG := List.mem_filter.mpr ⟨List.mem_append_right _ (List.mem_append_left _ (List.mem_of_getElem? (l := tables_1_1) (i := 3) rfl)), rfl⟩
theorem iw_370 : (Cond.arrayClass FieldType.int) ∈ BG := List.mem_filter.mpr ⟨List.mem_append_right _ (List.mem_append_left _ (List.mem_of_getElem? (l := tables_1_1) (i := 32) rfl)), rfl⟩
theorem iw_371 : (Cond.instantiable "SnoopingBus" 6) ∈ BG := List.mem_filter.mpr ⟨List.mem_append_right _ (List.mem_append_left _ (List.mem_of_getElem? (l := tables_1_1) (i := 9) rfl)), rfl⟩
theorem iw_372 : (Cond.instanceMethod ⟨"java/lang/Object", "<init>", "()V"⟩) ∈ BG := List.mem_filter.mpr ⟨List.mem_append_right _ (List.mem_append_left _ (List.mem_of_getElem? (l := tables_1_1) (i := 14) rfl)), rfl⟩
theorem iw_373 : (Cond.code ⟨"java/lang/Object", "<init>", "()V"⟩ object_method_1_code 1 none) ∈ BG := List.mem_filter.mpr ⟨List.mem_append_right _ (List.mem_append_left _ (List.mem_of_getElem? (l := tables_1_1) (i := 15) rfl)), rfl⟩
theorem iw_374 : (Cond.instantiable "SnoopingBus$MainMemory" 2) ∈ BG := List.mem_filter.mpr ⟨List.mem_append_right _ (List.mem_append_left _ (List.mem_of_getElem? (l := tables_1_1) (i := 17) rfl)), rfl⟩
theorem iw_375 : (Cond.static ⟨"java/lang/Math", "min", "(II)I"⟩) ∈ BG := List.mem_filter.mpr ⟨List.mem_append_right _ (List.mem_append_left _ (List.mem_of_getElem? (l := tables_1_1) (i := 34) rfl)), rfl⟩
theorem iw_376 : (Cond.code ⟨"java/lang/Math", "min", "(II)I"⟩ prog_7_method_69_code 2 (some FieldType.int)) ∈ BG := List.mem_filter.mpr ⟨List.mem_append_right _ (List.mem_append_left _ (List.mem_of_getElem? (l := tables_1_1) (i := 35) rfl)), rfl⟩
theorem iw_377 : (Cond.static ⟨"java/lang/Math", "max", "(II)I"⟩) ∈ BG := List.mem_filter.mpr ⟨List.mem_append_right _ (List.mem_append_left _ (List.mem_of_getElem? (l := tables_1_1) (i := 37) rfl)), rfl⟩
theorem iw_378 : (Cond.code ⟨"java/lang/Math", "max", "(II)I"⟩ prog_7_method_65_code 2 (some FieldType.int)) ∈ BG := List.mem_filter.mpr ⟨List.mem_append_right _ (List.mem_append_left _ (List.mem_of_getElem? (l := tables_1_1) (i := 38) rfl)), rfl⟩
theorem iw_379 : (Cond.instantiable "SnoopingBus$Core" 8) ∈ BG := List.mem_filter.mpr ⟨List.mem_append_right _ (List.mem_append_left _ (List.mem_of_getElem? (l := tables_1_1) (i := 41) rfl)), rfl⟩
theorem iw_380 : (Cond.instantiable "SnoopingBus$Cache" 6) ∈ BG := List.mem_filter.mpr ⟨List.mem_append_right _ (List.mem_append_left _ (List.mem_of_getElem? (l := tables_1_1) (i := 43) rfl)), rfl⟩
theorem iw_381 : (Cond.instantiable "SnoopingBusModel" 17) ∈ BG := List.mem_filter.mpr ⟨List.mem_append_right _ (List.mem_append_right _ (List.mem_append_left _ (List.mem_of_getElem? (l := tables_1_2) (i := 66) rfl))), rfl⟩
