/-! Names by program (wip/whole/names.py): classes, fields, methods; the words of the tables by their places. -/
def R_Crowd : String := "PlanRows$Crowd"
def F_Crowd : u_T := fun k => match k with
  | 0 => ("PlanRows$Crowd", "floors", "[I", true)
  | 1 => ("PlanRows$Crowd", "froms", "[I", true)
  | 2 => ("PlanRows$Crowd", "tos", "[I", true)
  | 3 => ("PlanRows$Crowd", "amounts", "[I", true)
  | _ => ("PlanRows$Crowd", "size", "I", false)
def t_Crowd : Nat → FieldType := fun k => match k with
  | 0 => .array .int
  | 1 => .array .int
  | 2 => .array .int
  | 3 => .array .int
  | _ => .int
theorem n_Crowd : ∀ a, a < 5 → ∀ b, b < 5 → a ≠ b → (F_Crowd a).2.1 ≠ (F_Crowd b).2.1 := by decide +kernel
theorem t_Crowd_ok : ∀ k, k < 5 → parseFieldDescriptor (F_Crowd k).2.2.1 = some (t_Crowd k) := by decide +kernel
def R_Det : String := "PlanRows$Detectors"
def F_Det : u_T := fun k => match k with
  | 0 => ("PlanRows$Detectors", "loops", "[I", true)
  | 1 => ("PlanRows$Detectors", "numbers", "[I", true)
  | 2 => ("PlanRows$Detectors", "roomsOf", "[I", true)
  | _ => ("PlanRows$Detectors", "size", "I", false)
def t_Det : Nat → FieldType := fun k => match k with
  | 0 => .array .int
  | 1 => .array .int
  | 2 => .array .int
  | _ => .int
theorem n_Det : ∀ a, a < 4 → ∀ b, b < 4 → a ≠ b → (F_Det a).2.1 ≠ (F_Det b).2.1 := by decide +kernel
theorem t_Det_ok : ∀ k, k < 4 → parseFieldDescriptor (F_Det k).2.2.1 = some (t_Det k) := by decide +kernel
def R_Doors : String := "PlanRows$Doors"
def F_Doors : u_T := fun k => match k with
  | 0 => ("PlanRows$Doors", "firstRooms", "[I", true)
  | 1 => ("PlanRows$Doors", "secondRooms", "[I", true)
  | 2 => ("PlanRows$Doors", "costs", "[I", true)
  | 3 => ("PlanRows$Doors", "keys", "[I", true)
  | _ => ("PlanRows$Doors", "size", "I", false)
def t_Doors : Nat → FieldType := fun k => match k with
  | 0 => .array .int
  | 1 => .array .int
  | 2 => .array .int
  | 3 => .array .int
  | _ => .int
theorem n_Doors : ∀ a, a < 5 → ∀ b, b < 5 → a ≠ b → (F_Doors a).2.1 ≠ (F_Doors b).2.1 := by decide +kernel
theorem t_Doors_ok : ∀ k, k < 5 → parseFieldDescriptor (F_Doors k).2.2.1 = some (t_Doors k) := by decide +kernel
def R_Keys : String := "PlanRows$KeyRing"
def F_Keys : u_T := fun k => match k with
  | 0 => ("PlanRows$KeyRing", "atHand", "[Z", true)
  | _ => ("PlanRows$KeyRing", "size", "I", false)
def t_Keys : Nat → FieldType := fun k => match k with
  | 0 => .array .boolean
  | _ => .int
theorem n_Keys : ∀ a, a < 2 → ∀ b, b < 2 → a ≠ b → (F_Keys a).2.1 ≠ (F_Keys b).2.1 := by decide +kernel
theorem t_Keys_ok : ∀ k, k < 2 → parseFieldDescriptor (F_Keys k).2.2.1 = some (t_Keys k) := by decide +kernel
def R_Rooms : String := "PlanRows$Rooms"
def F_Rooms : u_T := fun k => match k with
  | 0 => ("PlanRows$Rooms", "floors", "[I", true)
  | 1 => ("PlanRows$Rooms", "kinds", "[I", true)
  | 2 => ("PlanRows$Rooms", "hazards", "[I", true)
  | _ => ("PlanRows$Rooms", "size", "I", false)
def t_Rooms : Nat → FieldType := fun k => match k with
  | 0 => .array .int
  | 1 => .array .int
  | 2 => .array .int
  | _ => .int
theorem n_Rooms : ∀ a, a < 4 → ∀ b, b < 4 → a ≠ b → (F_Rooms a).2.1 ≠ (F_Rooms b).2.1 := by decide +kernel
theorem t_Rooms_ok : ∀ k, k < 4 → parseFieldDescriptor (F_Rooms k).2.2.1 = some (t_Rooms k) := by decide +kernel
def R_Route : String := "PlanRows$Route"
def F_Route : u_T := fun k => match k with
  | 0 => ("PlanRows$Route", "doorsFromEnd", "[I", true)
  | 1 => ("PlanRows$Route", "length", "I", false)
  | 2 => ("PlanRows$Route", "stairs", "I", false)
  | _ => ("PlanRows$Route", "end", "I", false)
def t_Route : Nat → FieldType := fun k => match k with
  | 0 => .array .int
  | 1 => .int
  | 2 => .int
  | _ => .int
theorem n_Route : ∀ a, a < 4 → ∀ b, b < 4 → a ≠ b → (F_Route a).2.1 ≠ (F_Route b).2.1 := by decide +kernel
theorem t_Route_ok : ∀ k, k < 4 → parseFieldDescriptor (F_Route k).2.2.1 = some (t_Route k) := by decide +kernel
def R_Search : String := "PlanRows$Search"
def F_Search : u_T := fun k => match k with
  | 0 => ("PlanRows$Search", "rooms", "LPlanRows$Rooms;", true)
  | 1 => ("PlanRows$Search", "doors", "LPlanRows$Doors;", true)
  | 2 => ("PlanRows$Search", "keyRing", "LPlanRows$KeyRing;", true)
  | _ => ("PlanRows$Search", "costs", "[I", true)
def t_Search : Nat → FieldType := fun k => match k with
  | 0 => .object "PlanRows$Rooms"
  | 1 => .object "PlanRows$Doors"
  | 2 => .object "PlanRows$KeyRing"
  | _ => .array .int
theorem n_Search : ∀ a, a < 4 → ∀ b, b < 4 → a ≠ b → (F_Search a).2.1 ≠ (F_Search b).2.1 := by decide +kernel
theorem t_Search_ok : ∀ k, k < 4 → parseFieldDescriptor (F_Search k).2.2.1 = some (t_Search k) := by decide +kernel
def R_Win : String := "PlanRows$Windows"
def F_Win : u_T := fun k => match k with
  | 0 => ("PlanRows$Windows", "xs", "[I", true)
  | 1 => ("PlanRows$Windows", "ys", "[I", true)
  | 2 => ("PlanRows$Windows", "zs", "[I", true)
  | _ => ("PlanRows$Windows", "size", "I", false)
def t_Win : Nat → FieldType := fun k => match k with
  | 0 => .array .int
  | 1 => .array .int
  | 2 => .array .int
  | _ => .int
theorem n_Win : ∀ a, a < 4 → ∀ b, b < 4 → a ≠ b → (F_Win a).2.1 ≠ (F_Win b).2.1 := by decide +kernel
theorem t_Win_ok : ∀ k, k < 4 → parseFieldDescriptor (F_Win k).2.2.1 = some (t_Win k) := by decide +kernel
def R_Plan : String := "PlanRows"
def F_Plan : u_T := fun k => match k with
  | 0 => ("PlanRows", "rooms", "LPlanRows$Rooms;", true)
  | 1 => ("PlanRows", "doors", "LPlanRows$Doors;", true)
  | 2 => ("PlanRows", "keyRing", "LPlanRows$KeyRing;", true)
  | 3 => ("PlanRows", "search", "LPlanRows$Search;", true)
  | 4 => ("PlanRows", "latestWay", "LPlanRows$Route;", true)
  | 5 => ("PlanRows", "detectors", "LPlanRows$Detectors;", true)
  | 6 => ("PlanRows", "crowd", "LPlanRows$Crowd;", true)
  | 7 => ("PlanRows", "windows", "LPlanRows$Windows;", true)
  | 8 => ("PlanRows", "lookDay", "I", false)
  | _ => ("PlanRows", "lookTerm", "I", false)
def t_Plan : Nat → FieldType := fun k => match k with
  | 0 => .object "PlanRows$Rooms"
  | 1 => .object "PlanRows$Doors"
  | 2 => .object "PlanRows$KeyRing"
  | 3 => .object "PlanRows$Search"
  | 4 => .object "PlanRows$Route"
  | 5 => .object "PlanRows$Detectors"
  | 6 => .object "PlanRows$Crowd"
  | 7 => .object "PlanRows$Windows"
  | 8 => .int
  | _ => .int
theorem n_Plan : ∀ a, a < 10 → ∀ b, b < 10 → a ≠ b → (F_Plan a).2.1 ≠ (F_Plan b).2.1 := by decide +kernel
theorem t_Plan_ok : ∀ k, k < 10 → parseFieldDescriptor (F_Plan k).2.2.1 = some (t_Plan k) := by decide +kernel
def R_Mod : String := "PlanRowsModel"
def F_Mod : u_T := fun k => match k with
  | 0 => ("PlanRowsModel", "thrown", "I", false)
  | 1 => ("PlanRowsModel", "rooms", "I", false)
  | 2 => ("PlanRowsModel", "floor", "[I", true)
  | 3 => ("PlanRowsModel", "kind", "[I", true)
  | 4 => ("PlanRowsModel", "hazard", "[I", true)
  | 5 => ("PlanRowsModel", "doors", "I", false)
  | 6 => ("PlanRowsModel", "from", "[I", true)
  | 7 => ("PlanRowsModel", "to", "[I", true)
  | 8 => ("PlanRowsModel", "metres", "[I", true)
  | 9 => ("PlanRowsModel", "lock", "[I", true)
  | 10 => ("PlanRowsModel", "hand", "[Z", true)
  | 11 => ("PlanRowsModel", "least", "[I", true)
  | 12 => ("PlanRowsModel", "way", "[I", true)
  | 13 => ("PlanRowsModel", "steps", "I", false)
  | 14 => ("PlanRowsModel", "stairs", "I", false)
  | 15 => ("PlanRowsModel", "end", "I", false)
  | 16 => ("PlanRowsModel", "detectors", "I", false)
  | 17 => ("PlanRowsModel", "loop", "[I", true)
  | 18 => ("PlanRowsModel", "number", "[I", true)
  | 19 => ("PlanRowsModel", "watched", "[I", true)
  | 20 => ("PlanRowsModel", "rows", "I", false)
  | 21 => ("PlanRowsModel", "rowRoom", "[I", true)
  | 22 => ("PlanRowsModel", "rowFrom", "[I", true)
  | 23 => ("PlanRowsModel", "rowTo", "[I", true)
  | 24 => ("PlanRowsModel", "rowMany", "[I", true)
  | 25 => ("PlanRowsModel", "windows", "I", false)
  | 26 => ("PlanRowsModel", "windowX", "[I", true)
  | 27 => ("PlanRowsModel", "windowY", "[I", true)
  | 28 => ("PlanRowsModel", "windowZ", "[I", true)
  | 29 => ("PlanRowsModel", "looked", "I", false)
  | _ => ("PlanRowsModel", "term", "I", false)
def t_Mod : Nat → FieldType := fun k => match k with
  | 0 => .int
  | 1 => .int
  | 2 => .array .int
  | 3 => .array .int
  | 4 => .array .int
  | 5 => .int
  | 6 => .array .int
  | 7 => .array .int
  | 8 => .array .int
  | 9 => .array .int
  | 10 => .array .boolean
  | 11 => .array .int
  | 12 => .array .int
  | 13 => .int
  | 14 => .int
  | 15 => .int
  | 16 => .int
  | 17 => .array .int
  | 18 => .array .int
  | 19 => .array .int
  | 20 => .int
  | 21 => .array .int
  | 22 => .array .int
  | 23 => .array .int
  | 24 => .array .int
  | 25 => .int
  | 26 => .array .int
  | 27 => .array .int
  | 28 => .array .int
  | 29 => .int
  | _ => .int
theorem n_Mod : ∀ a, a < 31 → ∀ b, b < 31 → a ≠ b → (F_Mod a).2.1 ≠ (F_Mod b).2.1 := by decide +kernel
theorem t_Mod_ok : ∀ k, k < 31 → parseFieldDescriptor (F_Mod k).2.2.1 = some (t_Mod k) := by decide +kernel
def R_Law : String := "PlanRowsLaw"
def R_Arr : String := "java/util/Arrays"
abbrev clsA : List vw_C := [(R_Crowd, F_Crowd, 5), (R_Det, F_Det, 4), (R_Doors, F_Doors, 5), (R_Keys, F_Keys, 2), (R_Rooms, F_Rooms, 4), (R_Route, F_Route, 4), (R_Search, F_Search, 4), (R_Win, F_Win, 4), (R_Plan, F_Plan, 10), (R_Mod, F_Mod, 31)]
abbrev b_Plan_init : ByteArray := prog_1_method_1_code
def y_Plan_init : MethodName := ⟨"PlanRows", "<init>", "()V"⟩
abbrev b_Rooms_init : ByteArray := prog_6_method_1_code
def y_Rooms_init : MethodName := ⟨"PlanRows$Rooms", "<init>", "()V"⟩
abbrev b_Doors_init : ByteArray := prog_4_method_1_code
def y_Doors_init : MethodName := ⟨"PlanRows$Doors", "<init>", "()V"⟩
abbrev b_Keys_init : ByteArray := prog_5_method_1_code
def y_Keys_init : MethodName := ⟨"PlanRows$KeyRing", "<init>", "()V"⟩
abbrev b_Search_init : ByteArray := prog_8_method_1_code
def y_Search_init : MethodName := ⟨"PlanRows$Search", "<init>", "(LPlanRows$Rooms;LPlanRows$Doors;LPlanRows$KeyRing;)V"⟩
abbrev b_Route_init : ByteArray := prog_7_method_1_code
def y_Route_init : MethodName := ⟨"PlanRows$Route", "<init>", "()V"⟩
abbrev b_Det_init : ByteArray := prog_3_method_1_code
def y_Det_init : MethodName := ⟨"PlanRows$Detectors", "<init>", "()V"⟩
abbrev b_Crowd_init : ByteArray := prog_2_method_1_code
def y_Crowd_init : MethodName := ⟨"PlanRows$Crowd", "<init>", "()V"⟩
abbrev b_Win_init : ByteArray := prog_9_method_1_code
def y_Win_init : MethodName := ⟨"PlanRows$Windows", "<init>", "()V"⟩
abbrev b_Law_room : ByteArray := method_3_code
def y_Law_room : MethodName := ⟨"PlanRowsLaw", "room", "(LPlanRows;II[J)I"⟩
abbrev b_Plan_room : ByteArray := prog_1_method_2_code
def y_Plan_room : MethodName := ⟨"PlanRows", "room", "(II)I"⟩
abbrev b_Plan_wantKind : ByteArray := prog_1_method_24_code
def y_Plan_wantKind : MethodName := ⟨"PlanRows", "wantKind", "(I)V"⟩
abbrev b_Plan_wantWithin : ByteArray := prog_1_method_26_code
def y_Plan_wantWithin : MethodName := ⟨"PlanRows", "wantWithin", "(III)V"⟩
abbrev b_Rooms_add : ByteArray := prog_6_method_2_code
def y_Rooms_add : MethodName := ⟨"PlanRows$Rooms", "add", "(II)I"⟩
abbrev b_Plan_wantAdded : ByteArray := prog_1_method_28_code
def y_Plan_wantAdded : MethodName := ⟨"PlanRows", "wantAdded", "(I)I"⟩
abbrev b_Law_door : ByteArray := method_4_code
def y_Law_door : MethodName := ⟨"PlanRowsLaw", "door", "(LPlanRows;IIII[J)I"⟩
abbrev b_Plan_door : ByteArray := prog_1_method_3_code
def y_Plan_door : MethodName := ⟨"PlanRows", "door", "(IIII)I"⟩
abbrev b_Plan_wantRoom : ByteArray := prog_1_method_22_code
def y_Plan_wantRoom : MethodName := ⟨"PlanRows", "wantRoom", "(I)V"⟩
abbrev b_Rooms_has : ByteArray := prog_6_method_3_code
def y_Rooms_has : MethodName := ⟨"PlanRows$Rooms", "has", "(I)Z"⟩
abbrev b_Rooms_floorOf : ByteArray := prog_6_method_4_code
def y_Rooms_floorOf : MethodName := ⟨"PlanRows$Rooms", "floorOf", "(I)I"⟩
abbrev b_Doors_add : ByteArray := prog_4_method_2_code
def y_Doors_add : MethodName := ⟨"PlanRows$Doors", "add", "(IIII)I"⟩
abbrev b_Law_key : ByteArray := method_5_code
def y_Law_key : MethodName := ⟨"PlanRowsLaw", "key", "(LPlanRows;IZ)I"⟩
abbrev b_Plan_key : ByteArray := prog_1_method_4_code
def y_Plan_key : MethodName := ⟨"PlanRows", "key", "(IZ)V"⟩
abbrev b_Keys_has : ByteArray := prog_5_method_2_code
def y_Keys_has : MethodName := ⟨"PlanRows$KeyRing", "has", "(I)Z"⟩
abbrev b_Keys_isAtHand : ByteArray := prog_5_method_3_code
def y_Keys_isAtHand : MethodName := ⟨"PlanRows$KeyRing", "isAtHand", "(I)Z"⟩
abbrev b_Keys_put : ByteArray := prog_5_method_4_code
def y_Keys_put : MethodName := ⟨"PlanRows$KeyRing", "put", "(IZ)V"⟩
abbrev b_Law_hazard : ByteArray := method_6_code
def y_Law_hazard : MethodName := ⟨"PlanRowsLaw", "hazard", "(LPlanRows;II)I"⟩
abbrev b_Plan_hazard : ByteArray := prog_1_method_5_code
def y_Plan_hazard : MethodName := ⟨"PlanRows", "hazard", "(II)V"⟩
abbrev b_Rooms_setHazards : ByteArray := prog_6_method_7_code
def y_Rooms_setHazards : MethodName := ⟨"PlanRows$Rooms", "setHazards", "(II)V"⟩
abbrev b_Law_way : ByteArray := method_7_code
def y_Law_way : MethodName := ⟨"PlanRowsLaw", "way", "(LPlanRows;III[J)I"⟩
abbrev b_Plan_way : ByteArray := prog_1_method_6_code
def y_Plan_way : MethodName := ⟨"PlanRows", "way", "(III)I"⟩
abbrev b_Search_spreadFromRoom : ByteArray := prog_8_method_2_code
def y_Search_spreadFromRoom : MethodName := ⟨"PlanRows$Search", "spreadFromRoom", "(II)V"⟩
abbrev b_Arr_fill : ByteArray := prog_21_method_103_code
def y_Arr_fill : MethodName := ⟨"java/util/Arrays", "fill", "([II)V"⟩
abbrev b_Search_spread : ByteArray := prog_8_method_4_code
def y_Search_spread : MethodName := ⟨"PlanRows$Search", "spread", "(I)V"⟩
abbrev b_Search_spreadOverAllDoors : ByteArray := prog_8_method_5_code
def y_Search_spreadOverAllDoors : MethodName := ⟨"PlanRows$Search", "spreadOverAllDoors", "(I)Z"⟩
abbrev b_Search_isPassed : ByteArray := prog_8_method_7_code
def y_Search_isPassed : MethodName := ⟨"PlanRows$Search", "isPassed", "(I)Z"⟩
abbrev b_Doors_keyOf : ByteArray := prog_4_method_7_code
def y_Doors_keyOf : MethodName := ⟨"PlanRows$Doors", "keyOf", "(I)I"⟩
abbrev b_Doors_has : ByteArray := prog_4_method_3_code
def y_Doors_has : MethodName := ⟨"PlanRows$Doors", "has", "(I)Z"⟩
abbrev b_Doors_firstRoomOf : ByteArray := prog_4_method_4_code
def y_Doors_firstRoomOf : MethodName := ⟨"PlanRows$Doors", "firstRoomOf", "(I)I"⟩
abbrev b_Doors_secondRoomOf : ByteArray := prog_4_method_5_code
def y_Doors_secondRoomOf : MethodName := ⟨"PlanRows$Doors", "secondRoomOf", "(I)I"⟩
abbrev b_Doors_costOf : ByteArray := prog_4_method_6_code
def y_Doors_costOf : MethodName := ⟨"PlanRows$Doors", "costOf", "(I)I"⟩
abbrev b_Search_lowerCost : ByteArray := prog_8_method_6_code
def y_Search_lowerCost : MethodName := ⟨"PlanRows$Search", "lowerCost", "(IIII)Z"⟩
abbrev b_Search_isReached : ByteArray := prog_8_method_8_code
def y_Search_isReached : MethodName := ⟨"PlanRows$Search", "isReached", "(I)Z"⟩
abbrev b_Rooms_hasHazardOf : ByteArray := prog_6_method_6_code
def y_Rooms_hasHazardOf : MethodName := ⟨"PlanRows$Rooms", "hasHazardOf", "(II)Z"⟩
abbrev b_Search_nearestOf : ByteArray := prog_8_method_9_code
def y_Search_nearestOf : MethodName := ⟨"PlanRows$Search", "nearestOf", "(I)I"⟩
abbrev b_Rooms_isOfKind : ByteArray := prog_6_method_5_code
def y_Rooms_isOfKind : MethodName := ⟨"PlanRows$Rooms", "isOfKind", "(II)Z"⟩
abbrev b_Search_tellWayTo : ByteArray := prog_8_method_12_code
def y_Search_tellWayTo : MethodName := ⟨"PlanRows$Search", "tellWayTo", "(ILPlanRows$Route;)V"⟩
abbrev b_Search_stairsTo : ByteArray := prog_8_method_11_code
def y_Search_stairsTo : MethodName := ⟨"PlanRows$Search", "stairsTo", "(I)I"⟩
abbrev b_Route_restart : ByteArray := prog_7_method_2_code
def y_Route_restart : MethodName := ⟨"PlanRows$Route", "restart", "(II)V"⟩
abbrev b_Search_lowestDoorInto : ByteArray := prog_8_method_13_code
def y_Search_lowestDoorInto : MethodName := ⟨"PlanRows$Search", "lowestDoorInto", "(I)I"⟩
abbrev b_Doors_roomBehind : ByteArray := prog_4_method_8_code
def y_Doors_roomBehind : MethodName := ⟨"PlanRows$Doors", "roomBehind", "(II)I"⟩
abbrev b_Route_addBefore : ByteArray := prog_7_method_3_code
def y_Route_addBefore : MethodName := ⟨"PlanRows$Route", "addBefore", "(I)V"⟩
abbrev b_Search_metresTo : ByteArray := prog_8_method_10_code
def y_Search_metresTo : MethodName := ⟨"PlanRows$Search", "metresTo", "(I)I"⟩
abbrev b_Law_step : ByteArray := method_8_code
def y_Law_step : MethodName := ⟨"PlanRowsLaw", "step", "(LPlanRows;I[J)I"⟩
abbrev b_Plan_step : ByteArray := prog_1_method_7_code
def y_Plan_step : MethodName := ⟨"PlanRows", "step", "(I)I"⟩
abbrev b_Plan_wantNotBelowZero : ByteArray := prog_1_method_27_code
def y_Plan_wantNotBelowZero : MethodName := ⟨"PlanRows", "wantNotBelowZero", "(I)V"⟩
abbrev b_Route_doorAt : ByteArray := prog_7_method_4_code
def y_Route_doorAt : MethodName := ⟨"PlanRows$Route", "doorAt", "(I)I"⟩
abbrev b_Law_told : ByteArray := method_9_code
def y_Law_told : MethodName := ⟨"PlanRowsLaw", "told", "(LPlanRows;I[J)I"⟩
abbrev b_Plan_told : ByteArray := prog_1_method_8_code
def y_Plan_told : MethodName := ⟨"PlanRows", "told", "(I)I"⟩
abbrev b_Law_hoses : ByteArray := method_10_code
def y_Law_hoses : MethodName := ⟨"PlanRowsLaw", "hoses", "(LPlanRows;II[J)I"⟩
abbrev b_Plan_hoses : ByteArray := prog_1_method_9_code
def y_Plan_hoses : MethodName := ⟨"PlanRows", "hoses", "(II)I"⟩
abbrev b_Law_trapped : ByteArray := method_11_code
def y_Law_trapped : MethodName := ⟨"PlanRowsLaw", "trapped", "(LPlanRows;I[J)I"⟩
abbrev b_Plan_trapped : ByteArray := prog_1_method_10_code
def y_Plan_trapped : MethodName := ⟨"PlanRows", "trapped", "(I)I"⟩
abbrev b_Search_spreadFromKind : ByteArray := prog_8_method_3_code
def y_Search_spreadFromKind : MethodName := ⟨"PlanRows$Search", "spreadFromKind", "(I)V"⟩
abbrev b_Search_unreachedAt : ByteArray := prog_8_method_14_code
def y_Search_unreachedAt : MethodName := ⟨"PlanRows$Search", "unreachedAt", "(I)I"⟩
abbrev b_Law_missing : ByteArray := method_12_code
def y_Law_missing : MethodName := ⟨"PlanRowsLaw", "missing", "(LPlanRows;I[J)I"⟩
abbrev b_Plan_missing : ByteArray := prog_1_method_11_code
def y_Plan_missing : MethodName := ⟨"PlanRows", "missing", "(I)I"⟩
abbrev b_Doors_anyHasKey : ByteArray := prog_4_method_9_code
def y_Doors_anyHasKey : MethodName := ⟨"PlanRows$Doors", "anyHasKey", "(I)Z"⟩
abbrev b_Law_detector : ByteArray := method_13_code
def y_Law_detector : MethodName := ⟨"PlanRowsLaw", "detector", "(LPlanRows;III)I"⟩
abbrev b_Plan_detector : ByteArray := prog_1_method_12_code
def y_Plan_detector : MethodName := ⟨"PlanRows", "detector", "(III)V"⟩
abbrev b_Det_roomOf : ByteArray := prog_3_method_3_code
def y_Det_roomOf : MethodName := ⟨"PlanRows$Detectors", "roomOf", "(II)I"⟩
abbrev b_Det_add : ByteArray := prog_3_method_2_code
def y_Det_add : MethodName := ⟨"PlanRows$Detectors", "add", "(III)I"⟩
abbrev b_Law_alarm : ByteArray := method_14_code
def y_Law_alarm : MethodName := ⟨"PlanRowsLaw", "alarm", "(LPlanRows;II[J)I"⟩
abbrev b_Plan_alarm : ByteArray := prog_1_method_13_code
def y_Plan_alarm : MethodName := ⟨"PlanRows", "alarm", "(II)I"⟩
abbrev b_Law_people : ByteArray := method_15_code
def y_Law_people : MethodName := ⟨"PlanRowsLaw", "people", "(LPlanRows;IIII[J)I"⟩
abbrev b_Plan_people : ByteArray := prog_1_method_14_code
def y_Plan_people : MethodName := ⟨"PlanRows", "people", "(IIII)I"⟩
abbrev b_Crowd_add : ByteArray := prog_2_method_2_code
def y_Crowd_add : MethodName := ⟨"PlanRows$Crowd", "add", "(IIII)I"⟩
abbrev b_Law_inside : ByteArray := method_16_code
def y_Law_inside : MethodName := ⟨"PlanRowsLaw", "inside", "(LPlanRows;II[J)I"⟩
abbrev b_Plan_inside : ByteArray := prog_1_method_15_code
def y_Plan_inside : MethodName := ⟨"PlanRows", "inside", "(II)I"⟩
abbrev b_Crowd_sum : ByteArray := prog_2_method_3_code
def y_Crowd_sum : MethodName := ⟨"PlanRows$Crowd", "sum", "(II)I"⟩
abbrev b_Crowd_isBetween : ByteArray := prog_2_method_4_code
def y_Crowd_isBetween : MethodName := ⟨"PlanRows$Crowd", "isBetween", "(III)Z"⟩
abbrev b_Law_window : ByteArray := method_17_code
def y_Law_window : MethodName := ⟨"PlanRowsLaw", "window", "(LPlanRows;IIII[J)I"⟩
abbrev b_Plan_window : ByteArray := prog_1_method_16_code
def y_Plan_window : MethodName := ⟨"PlanRows", "window", "(IIII)I"⟩
abbrev b_Plan_wantPoint : ByteArray := prog_1_method_25_code
def y_Plan_wantPoint : MethodName := ⟨"PlanRows", "wantPoint", "(III)V"⟩
abbrev b_Win_add : ByteArray := prog_9_method_2_code
def y_Win_add : MethodName := ⟨"PlanRows$Windows", "add", "(III)I"⟩
abbrev b_Law_reaches : ByteArray := method_18_code
def y_Law_reaches : MethodName := ⟨"PlanRowsLaw", "reaches", "(LPlanRows;IIIII[J)I"⟩
abbrev b_Plan_reaches : ByteArray := prog_1_method_17_code
def y_Plan_reaches : MethodName := ⟨"PlanRows", "reaches", "(IIIII)Z"⟩
abbrev b_Plan_wantWindow : ByteArray := prog_1_method_23_code
def y_Plan_wantWindow : MethodName := ⟨"PlanRows", "wantWindow", "(I)V"⟩
abbrev b_Win_has : ByteArray := prog_9_method_3_code
def y_Win_has : MethodName := ⟨"PlanRows$Windows", "has", "(I)Z"⟩
abbrev b_Win_isReached : ByteArray := prog_9_method_4_code
def y_Win_isReached : MethodName := ⟨"PlanRows$Windows", "isReached", "(IIIII)Z"⟩
abbrev b_Law_ladder : ByteArray := method_19_code
def y_Law_ladder : MethodName := ⟨"PlanRowsLaw", "ladder", "(LPlanRows;IIII[J)I"⟩
abbrev b_Plan_ladder : ByteArray := prog_1_method_18_code
def y_Plan_ladder : MethodName := ⟨"PlanRows", "ladder", "(IIII)I"⟩
abbrev b_Win_leastLength : ByteArray := prog_9_method_5_code
def y_Win_leastLength : MethodName := ⟨"PlanRows$Windows", "leastLength", "(IIII)I"⟩
abbrev b_Law_look : ByteArray := method_20_code
def y_Law_look : MethodName := ⟨"PlanRowsLaw", "look", "(LPlanRows;II)I"⟩
abbrev b_Plan_look : ByteArray := prog_1_method_19_code
def y_Plan_look : MethodName := ⟨"PlanRows", "look", "(II)V"⟩
abbrev b_Law_old : ByteArray := method_21_code
def y_Law_old : MethodName := ⟨"PlanRowsLaw", "old", "(LPlanRows;I[J)I"⟩
abbrev b_Plan_old : ByteArray := prog_1_method_20_code
def y_Plan_old : MethodName := ⟨"PlanRows", "old", "(I)Z"⟩
abbrev b_Law_count : ByteArray := method_22_code
def y_Law_count : MethodName := ⟨"PlanRowsLaw", "count", "(LPlanRows;I[J)I"⟩
abbrev b_Plan_count : ByteArray := prog_1_method_21_code
def y_Plan_count : MethodName := ⟨"PlanRows", "count", "(I)I"⟩
abbrev b_Mod_init : ByteArray := prog_11_method_1_code
def y_Mod_init : MethodName := ⟨"PlanRowsModel", "<init>", "()V"⟩
abbrev b_Mod_thrown : ByteArray := prog_11_method_2_code
def y_Mod_thrown : MethodName := ⟨"PlanRowsModel", "thrown", "()I"⟩
abbrev b_Mod_room : ByteArray := prog_11_method_6_code
def y_Mod_room : MethodName := ⟨"PlanRowsModel", "room", "(II)I"⟩
abbrev b_Mod_in : ByteArray := prog_11_method_4_code
def y_Mod_in : MethodName := ⟨"PlanRowsModel", "in", "(III)Z"⟩
abbrev b_Mod_throwing : ByteArray := prog_11_method_3_code
def y_Mod_throwing : MethodName := ⟨"PlanRowsModel", "throwing", "(ZZZZ)Z"⟩
abbrev b_Mod_door : ByteArray := prog_11_method_7_code
def y_Mod_door : MethodName := ⟨"PlanRowsModel", "door", "(IIII)I"⟩
abbrev b_Mod_isRoom : ByteArray := prog_11_method_5_code
def y_Mod_isRoom : MethodName := ⟨"PlanRowsModel", "isRoom", "(I)Z"⟩
abbrev b_Mod_key : ByteArray := prog_11_method_8_code
def y_Mod_key : MethodName := ⟨"PlanRowsModel", "key", "(IZ)V"⟩
abbrev b_Mod_hazard : ByteArray := prog_11_method_9_code
def y_Mod_hazard : MethodName := ⟨"PlanRowsModel", "hazard", "(II)V"⟩
abbrev b_Mod_way : ByteArray := prog_11_method_15_code
def y_Mod_way : MethodName := ⟨"PlanRowsModel", "way", "(III)I"⟩
abbrev b_Mod_reckon : ByteArray := prog_11_method_12_code
def y_Mod_reckon : MethodName := ⟨"PlanRowsModel", "reckon", "(II)V"⟩
abbrev b_Mod_isPassed : ByteArray := prog_11_method_10_code
def y_Mod_isPassed : MethodName := ⟨"PlanRowsModel", "isPassed", "(I)Z"⟩
abbrev b_Mod_costOf : ByteArray := prog_11_method_11_code
def y_Mod_costOf : MethodName := ⟨"PlanRowsModel", "costOf", "(I)I"⟩
abbrev b_Mod_nearest : ByteArray := prog_11_method_13_code
def y_Mod_nearest : MethodName := ⟨"PlanRowsModel", "nearest", "(I)I"⟩
abbrev b_Mod_into : ByteArray := prog_11_method_14_code
def y_Mod_into : MethodName := ⟨"PlanRowsModel", "into", "(I)I"⟩
abbrev b_Mod_step : ByteArray := prog_11_method_16_code
def y_Mod_step : MethodName := ⟨"PlanRowsModel", "step", "(I)I"⟩
abbrev b_Mod_told : ByteArray := prog_11_method_17_code
def y_Mod_told : MethodName := ⟨"PlanRowsModel", "told", "(I)I"⟩
abbrev b_Mod_hoses : ByteArray := prog_11_method_18_code
def y_Mod_hoses : MethodName := ⟨"PlanRowsModel", "hoses", "(II)I"⟩
abbrev b_Mod_trapped : ByteArray := prog_11_method_19_code
def y_Mod_trapped : MethodName := ⟨"PlanRowsModel", "trapped", "(I)I"⟩
abbrev b_Mod_missing : ByteArray := prog_11_method_20_code
def y_Mod_missing : MethodName := ⟨"PlanRowsModel", "missing", "(I)I"⟩
abbrev b_Mod_detector : ByteArray := prog_11_method_23_code
def y_Mod_detector : MethodName := ⟨"PlanRowsModel", "detector", "(III)V"⟩
abbrev b_Mod_isDetector : ByteArray := prog_11_method_22_code
def y_Mod_isDetector : MethodName := ⟨"PlanRowsModel", "isDetector", "(II)Z"⟩
abbrev b_Mod_detectorOf : ByteArray := prog_11_method_21_code
def y_Mod_detectorOf : MethodName := ⟨"PlanRowsModel", "detectorOf", "(II)I"⟩
abbrev b_Mod_alarm : ByteArray := prog_11_method_24_code
def y_Mod_alarm : MethodName := ⟨"PlanRowsModel", "alarm", "(II)I"⟩
abbrev b_Mod_people : ByteArray := prog_11_method_26_code
def y_Mod_people : MethodName := ⟨"PlanRowsModel", "people", "(IIII)I"⟩
abbrev b_Mod_isHour : ByteArray := prog_11_method_25_code
def y_Mod_isHour : MethodName := ⟨"PlanRowsModel", "isHour", "(I)Z"⟩
abbrev b_Mod_inside : ByteArray := prog_11_method_27_code
def y_Mod_inside : MethodName := ⟨"PlanRowsModel", "inside", "(II)I"⟩
abbrev b_Mod_window : ByteArray := prog_11_method_29_code
def y_Mod_window : MethodName := ⟨"PlanRowsModel", "window", "(IIII)I"⟩
abbrev b_Mod_isPoint : ByteArray := prog_11_method_28_code
def y_Mod_isPoint : MethodName := ⟨"PlanRowsModel", "isPoint", "(III)Z"⟩
abbrev b_Mod_reaches : ByteArray := prog_11_method_31_code
def y_Mod_reaches : MethodName := ⟨"PlanRowsModel", "reaches", "(IIIII)Z"⟩
abbrev b_Mod_squareTo : ByteArray := prog_11_method_30_code
def y_Mod_squareTo : MethodName := ⟨"PlanRowsModel", "squareTo", "(IIII)J"⟩
abbrev b_Mod_ladder : ByteArray := prog_11_method_32_code
def y_Mod_ladder : MethodName := ⟨"PlanRowsModel", "ladder", "(IIII)I"⟩
abbrev b_Mod_look : ByteArray := prog_11_method_33_code
def y_Mod_look : MethodName := ⟨"PlanRowsModel", "look", "(II)V"⟩
abbrev b_Mod_old : ByteArray := prog_11_method_34_code
def y_Mod_old : MethodName := ⟨"PlanRowsModel", "old", "(I)Z"⟩
abbrev b_Mod_count : ByteArray := prog_11_method_35_code
def y_Mod_count : MethodName := ⟨"PlanRowsModel", "count", "(I)I"⟩
/-- the words that every method is given: the good ones of the tables -/
def BW : List Cond := lw_tbl.filter goodWord
theorem BW_sub {w : Cond} (h : w ∈ BW) : w ∈ lw_tbl := (List.mem_filter.mp h).1
theorem BW_good {w : Cond} (h : w ∈ BW) : (w.onTables && w.keeps) = true ∨ ∃ ty, w = .arrayClass ty := good_of_word (List.mem_filter.mp h).2
theorem BW_tb {w : Cond} (i : Nat) (h : tables_1[i]? = some w) (g : goodWord w = true) : w ∈ BW := List.mem_filter.mpr ⟨List.mem_append_right _ (List.mem_of_getElem? h), g⟩
theorem BW_sel {w : Cond} (i : Nat) (h : (k2_sels lw_privs)[i]? = some w) (g : goodWord w = true) : w ∈ BW := List.mem_filter.mpr ⟨List.mem_append_left _ (List.mem_of_getElem? h), g⟩
theorem gBW {c0 c1 : Cond} (h : c1 ∈ BW) : GoodIn (c0 :: BW) (c1 :: BW) := fun w hw => by
  rcases List.mem_cons.mp hw with rfl | hw
  · exact ⟨List.mem_cons_of_mem _ h, BW_good h⟩
  · exact ⟨List.mem_cons_of_mem _ hw, BW_good hw⟩
theorem w_0 : Cond.initialized "PlanRowsLaw" ∈ BW := BW_tb 0 (by rfl) (by rfl)
theorem w_1 : Cond.initialized "PlanRows" ∈ BW := BW_tb 1 (by rfl) (by rfl)
theorem w_2 : Cond.initialized "PlanRows$Rooms" ∈ BW := BW_tb 2 (by rfl) (by rfl)
theorem w_3 : Cond.initialized "PlanRows$Doors" ∈ BW := BW_tb 3 (by rfl) (by rfl)
theorem w_4 : Cond.initialized "PlanRows$KeyRing" ∈ BW := BW_tb 4 (by rfl) (by rfl)
theorem w_5 : Cond.initialized "PlanRows$Search" ∈ BW := BW_tb 5 (by rfl) (by rfl)
theorem w_6 : Cond.initialized "PlanRows$Route" ∈ BW := BW_tb 6 (by rfl) (by rfl)
theorem w_7 : Cond.initialized "PlanRows$Detectors" ∈ BW := BW_tb 7 (by rfl) (by rfl)
theorem w_8 : Cond.initialized "PlanRows$Crowd" ∈ BW := BW_tb 8 (by rfl) (by rfl)
theorem w_9 : Cond.initialized "PlanRows$Windows" ∈ BW := BW_tb 9 (by rfl) (by rfl)
theorem w_10 : Cond.initialized "PlanRowsModel" ∈ BW := BW_tb 10 (by rfl) (by rfl)
theorem w_11 : Cond.initialized "java/lang/Throwable" ∈ BW := BW_tb 11 (by rfl) (by rfl)
theorem w_12 : Cond.initialized "java/lang/Exception" ∈ BW := BW_tb 12 (by rfl) (by rfl)
theorem w_13 : Cond.initialized "java/lang/RuntimeException" ∈ BW := BW_tb 13 (by rfl) (by rfl)
theorem w_14 : Cond.initialized "java/lang/IllegalArgumentException" ∈ BW := BW_tb 14 (by rfl) (by rfl)
theorem w_15 : Cond.initialized "java/lang/IndexOutOfBoundsException" ∈ BW := BW_tb 15 (by rfl) (by rfl)
theorem w_16 : Cond.initialized "java/lang/UnsupportedOperationException" ∈ BW := BW_tb 16 (by rfl) (by rfl)
theorem w_17 : Cond.initialized "java/lang/Math" ∈ BW := BW_tb 17 (by rfl) (by rfl)
theorem w_18 : Cond.initialized "java/lang/IllegalStateException" ∈ BW := BW_tb 18 (by rfl) (by rfl)
theorem w_19 : Cond.initialized "java/util/Arrays" ∈ BW := BW_tb 19 (by rfl) (by rfl)
theorem w_20 : Cond.classLink "PlanRowsLaw" 8 "PlanRows" ∈ BW := BW_tb 20 (by rfl) (by rfl)
theorem w_21 : Cond.instantiable "PlanRows" 10 ∈ BW := BW_tb 21 (by rfl) (by rfl)
theorem w_22 : Cond.methodLink "PlanRowsLaw" 86 y_Plan_init ∈ BW := BW_tb 22 (by rfl) (by rfl)
theorem w_23 : Cond.instanceMethod y_Plan_init ∈ BW := BW_tb 23 (by rfl) (by rfl)
theorem w_24 : Cond.code y_Plan_init prog_1_method_1_code 1 none ∈ BW := BW_tb 24 (by rfl) (by rfl)
theorem w_25 : Cond.methodLink "PlanRows" 1 ⟨"java/lang/Object", "<init>", "()V"⟩ ∈ BW := BW_tb 25 (by rfl) (by rfl)
theorem w_26 : Cond.instanceMethod ⟨"java/lang/Object", "<init>", "()V"⟩ ∈ BW := BW_tb 26 (by rfl) (by rfl)
theorem w_27 : Cond.code ⟨"java/lang/Object", "<init>", "()V"⟩ object_method_1_code 1 none ∈ BW := BW_tb 27 (by rfl) (by rfl)
theorem w_28 : Cond.classLink "PlanRows" 7 "PlanRows$Rooms" ∈ BW := BW_tb 28 (by rfl) (by rfl)
theorem w_29 : Cond.instantiable "PlanRows$Rooms" 4 ∈ BW := BW_tb 29 (by rfl) (by rfl)
theorem w_31 : Cond.instanceMethod y_Rooms_init ∈ BW := BW_tb 31 (by rfl) (by rfl)
theorem w_32 : Cond.code y_Rooms_init prog_6_method_1_code 1 none ∈ BW := BW_tb 32 (by rfl) (by rfl)
theorem w_33 : Cond.methodLink "PlanRows$Rooms" 3 ⟨"java/lang/Object", "<init>", "()V"⟩ ∈ BW := BW_tb 33 (by rfl) (by rfl)
theorem w_34 : Cond.fieldLink "PlanRows$Rooms" 9 "PlanRows$Rooms" "floors" "[I" ∈ BW := BW_tb 34 (by rfl) (by rfl)
theorem w_35 : Cond.fieldLink "PlanRows$Rooms" 15 "PlanRows$Rooms" "kinds" "[I" ∈ BW := BW_tb 35 (by rfl) (by rfl)
theorem w_36 : Cond.fieldLink "PlanRows$Rooms" 18 "PlanRows$Rooms" "hazards" "[I" ∈ BW := BW_tb 36 (by rfl) (by rfl)
theorem w_37 : Cond.fieldLink "PlanRows$Rooms" 21 "PlanRows$Rooms" "size" "I" ∈ BW := BW_tb 37 (by rfl) (by rfl)
theorem w_40 : Cond.laysFinal "PlanRows$Rooms" "PlanRows$Rooms" "floors" "[I" ∈ BW := BW_tb 40 (by rfl) (by rfl)
theorem w_42 : Cond.laysFinal "PlanRows$Rooms" "PlanRows$Rooms" "kinds" "[I" ∈ BW := BW_tb 42 (by rfl) (by rfl)
theorem w_44 : Cond.laysFinal "PlanRows$Rooms" "PlanRows$Rooms" "hazards" "[I" ∈ BW := BW_tb 44 (by rfl) (by rfl)
theorem w_46 : Cond.lays "PlanRows$Rooms" "PlanRows$Rooms" "size" "I" ∈ BW := BW_tb 46 (by rfl) (by rfl)
theorem w_48 : Cond.superclass "PlanRows$Rooms" "java/lang/Object" ∈ BW := BW_tb 48 (by rfl) (by rfl)
theorem w_49 : Cond.arrayClass FieldType.int ∈ BW := BW_tb 49 (by rfl) (by rfl)
theorem w_50 : Cond.classLink "PlanRows" 16 "PlanRows$Doors" ∈ BW := BW_tb 50 (by rfl) (by rfl)
theorem w_51 : Cond.instantiable "PlanRows$Doors" 5 ∈ BW := BW_tb 51 (by rfl) (by rfl)
theorem w_53 : Cond.instanceMethod y_Doors_init ∈ BW := BW_tb 53 (by rfl) (by rfl)
theorem w_54 : Cond.code y_Doors_init prog_4_method_1_code 1 none ∈ BW := BW_tb 54 (by rfl) (by rfl)
theorem w_55 : Cond.methodLink "PlanRows$Doors" 3 ⟨"java/lang/Object", "<init>", "()V"⟩ ∈ BW := BW_tb 55 (by rfl) (by rfl)
theorem w_56 : Cond.fieldLink "PlanRows$Doors" 9 "PlanRows$Doors" "firstRooms" "[I" ∈ BW := BW_tb 56 (by rfl) (by rfl)
theorem w_57 : Cond.fieldLink "PlanRows$Doors" 15 "PlanRows$Doors" "secondRooms" "[I" ∈ BW := BW_tb 57 (by rfl) (by rfl)
theorem w_58 : Cond.fieldLink "PlanRows$Doors" 18 "PlanRows$Doors" "costs" "[I" ∈ BW := BW_tb 58 (by rfl) (by rfl)
theorem w_59 : Cond.fieldLink "PlanRows$Doors" 21 "PlanRows$Doors" "keys" "[I" ∈ BW := BW_tb 59 (by rfl) (by rfl)
theorem w_60 : Cond.fieldLink "PlanRows$Doors" 24 "PlanRows$Doors" "size" "I" ∈ BW := BW_tb 60 (by rfl) (by rfl)
theorem w_63 : Cond.laysFinal "PlanRows$Doors" "PlanRows$Doors" "firstRooms" "[I" ∈ BW := BW_tb 63 (by rfl) (by rfl)
theorem w_65 : Cond.laysFinal "PlanRows$Doors" "PlanRows$Doors" "secondRooms" "[I" ∈ BW := BW_tb 65 (by rfl) (by rfl)
theorem w_67 : Cond.laysFinal "PlanRows$Doors" "PlanRows$Doors" "costs" "[I" ∈ BW := BW_tb 67 (by rfl) (by rfl)
theorem w_69 : Cond.laysFinal "PlanRows$Doors" "PlanRows$Doors" "keys" "[I" ∈ BW := BW_tb 69 (by rfl) (by rfl)
theorem w_71 : Cond.lays "PlanRows$Doors" "PlanRows$Doors" "size" "I" ∈ BW := BW_tb 71 (by rfl) (by rfl)
theorem w_73 : Cond.superclass "PlanRows$Doors" "java/lang/Object" ∈ BW := BW_tb 73 (by rfl) (by rfl)
theorem w_74 : Cond.classLink "PlanRows" 23 "PlanRows$KeyRing" ∈ BW := BW_tb 74 (by rfl) (by rfl)
theorem w_75 : Cond.instantiable "PlanRows$KeyRing" 2 ∈ BW := BW_tb 75 (by rfl) (by rfl)
theorem w_77 : Cond.instanceMethod y_Keys_init ∈ BW := BW_tb 77 (by rfl) (by rfl)
theorem w_78 : Cond.code y_Keys_init prog_5_method_1_code 1 none ∈ BW := BW_tb 78 (by rfl) (by rfl)
theorem w_79 : Cond.methodLink "PlanRows$KeyRing" 3 ⟨"java/lang/Object", "<init>", "()V"⟩ ∈ BW := BW_tb 79 (by rfl) (by rfl)
theorem w_80 : Cond.fieldLink "PlanRows$KeyRing" 9 "PlanRows$KeyRing" "atHand" "[Z" ∈ BW := BW_tb 80 (by rfl) (by rfl)
theorem w_81 : Cond.fieldLink "PlanRows$KeyRing" 19 "PlanRows$KeyRing" "size" "I" ∈ BW := BW_tb 81 (by rfl) (by rfl)
theorem w_83 : Cond.laysFinal "PlanRows$KeyRing" "PlanRows$KeyRing" "atHand" "[Z" ∈ BW := BW_tb 83 (by rfl) (by rfl)
theorem w_85 : Cond.lays "PlanRows$KeyRing" "PlanRows$KeyRing" "size" "I" ∈ BW := BW_tb 85 (by rfl) (by rfl)
theorem w_87 : Cond.superclass "PlanRows$KeyRing" "java/lang/Object" ∈ BW := BW_tb 87 (by rfl) (by rfl)
theorem w_88 : Cond.arrayClass FieldType.boolean ∈ BW := BW_tb 88 (by rfl) (by rfl)
theorem w_89 : Cond.classLink "PlanRows" 30 "PlanRows$Search" ∈ BW := BW_tb 89 (by rfl) (by rfl)
theorem w_90 : Cond.instantiable "PlanRows$Search" 4 ∈ BW := BW_tb 90 (by rfl) (by rfl)
theorem w_91 : Cond.methodLink "PlanRows" 32 y_Search_init ∈ BW := BW_tb 91 (by rfl) (by rfl)
theorem w_92 : Cond.instanceMethod y_Search_init ∈ BW := BW_tb 92 (by rfl) (by rfl)
theorem w_93 : Cond.code y_Search_init prog_8_method_1_code 4 none ∈ BW := BW_tb 93 (by rfl) (by rfl)
theorem w_94 : Cond.methodLink "PlanRows$Search" 3 ⟨"java/lang/Object", "<init>", "()V"⟩ ∈ BW := BW_tb 94 (by rfl) (by rfl)
theorem w_95 : Cond.fieldLink "PlanRows$Search" 15 "PlanRows$Search" "rooms" "LPlanRows$Rooms;" ∈ BW := BW_tb 95 (by rfl) (by rfl)
theorem w_96 : Cond.fieldLink "PlanRows$Search" 19 "PlanRows$Search" "doors" "LPlanRows$Doors;" ∈ BW := BW_tb 96 (by rfl) (by rfl)
theorem w_97 : Cond.fieldLink "PlanRows$Search" 23 "PlanRows$Search" "keyRing" "LPlanRows$KeyRing;" ∈ BW := BW_tb 97 (by rfl) (by rfl)
theorem w_98 : Cond.fieldLink "PlanRows$Search" 9 "PlanRows$Search" "costs" "[I" ∈ BW := BW_tb 98 (by rfl) (by rfl)
theorem w_99 : Cond.laysFinal "PlanRows$Search" "PlanRows$Search" "rooms" "LPlanRows$Rooms;" ∈ BW := BW_tb 99 (by rfl) (by rfl)
theorem w_101 : Cond.laysFinal "PlanRows$Search" "PlanRows$Search" "doors" "LPlanRows$Doors;" ∈ BW := BW_tb 101 (by rfl) (by rfl)
theorem w_103 : Cond.laysFinal "PlanRows$Search" "PlanRows$Search" "keyRing" "LPlanRows$KeyRing;" ∈ BW := BW_tb 103 (by rfl) (by rfl)
theorem w_105 : Cond.laysFinal "PlanRows$Search" "PlanRows$Search" "costs" "[I" ∈ BW := BW_tb 105 (by rfl) (by rfl)
theorem w_107 : Cond.superclass "PlanRows$Search" "java/lang/Object" ∈ BW := BW_tb 107 (by rfl) (by rfl)
theorem w_108 : Cond.classLink "PlanRows" 39 "PlanRows$Route" ∈ BW := BW_tb 108 (by rfl) (by rfl)
theorem w_109 : Cond.instantiable "PlanRows$Route" 4 ∈ BW := BW_tb 109 (by rfl) (by rfl)
theorem w_111 : Cond.instanceMethod y_Route_init ∈ BW := BW_tb 111 (by rfl) (by rfl)
theorem w_112 : Cond.code y_Route_init prog_7_method_1_code 1 none ∈ BW := BW_tb 112 (by rfl) (by rfl)
theorem w_113 : Cond.methodLink "PlanRows$Route" 3 ⟨"java/lang/Object", "<init>", "()V"⟩ ∈ BW := BW_tb 113 (by rfl) (by rfl)
theorem w_114 : Cond.fieldLink "PlanRows$Route" 9 "PlanRows$Route" "doorsFromEnd" "[I" ∈ BW := BW_tb 114 (by rfl) (by rfl)
theorem w_115 : Cond.fieldLink "PlanRows$Route" 19 "PlanRows$Route" "length" "I" ∈ BW := BW_tb 115 (by rfl) (by rfl)
theorem w_117 : Cond.fieldLink "PlanRows$Route" 22 "PlanRows$Route" "stairs" "I" ∈ BW := BW_tb 117 (by rfl) (by rfl)
theorem w_119 : Cond.fieldLink "PlanRows$Route" 15 "PlanRows$Route" "end" "I" ∈ BW := BW_tb 119 (by rfl) (by rfl)
theorem w_121 : Cond.laysFinal "PlanRows$Route" "PlanRows$Route" "doorsFromEnd" "[I" ∈ BW := BW_tb 121 (by rfl) (by rfl)
theorem w_123 : Cond.lays "PlanRows$Route" "PlanRows$Route" "length" "I" ∈ BW := BW_tb 123 (by rfl) (by rfl)
theorem w_125 : Cond.lays "PlanRows$Route" "PlanRows$Route" "stairs" "I" ∈ BW := BW_tb 125 (by rfl) (by rfl)
theorem w_127 : Cond.lays "PlanRows$Route" "PlanRows$Route" "end" "I" ∈ BW := BW_tb 127 (by rfl) (by rfl)
theorem w_129 : Cond.superclass "PlanRows$Route" "java/lang/Object" ∈ BW := BW_tb 129 (by rfl) (by rfl)
theorem w_130 : Cond.classLink "PlanRows" 46 "PlanRows$Detectors" ∈ BW := BW_tb 130 (by rfl) (by rfl)
theorem w_131 : Cond.instantiable "PlanRows$Detectors" 4 ∈ BW := BW_tb 131 (by rfl) (by rfl)
theorem w_133 : Cond.instanceMethod y_Det_init ∈ BW := BW_tb 133 (by rfl) (by rfl)
theorem w_134 : Cond.code y_Det_init prog_3_method_1_code 1 none ∈ BW := BW_tb 134 (by rfl) (by rfl)
theorem w_135 : Cond.methodLink "PlanRows$Detectors" 3 ⟨"java/lang/Object", "<init>", "()V"⟩ ∈ BW := BW_tb 135 (by rfl) (by rfl)
theorem w_136 : Cond.fieldLink "PlanRows$Detectors" 9 "PlanRows$Detectors" "loops" "[I" ∈ BW := BW_tb 136 (by rfl) (by rfl)
theorem w_137 : Cond.fieldLink "PlanRows$Detectors" 15 "PlanRows$Detectors" "numbers" "[I" ∈ BW := BW_tb 137 (by rfl) (by rfl)
theorem w_138 : Cond.fieldLink "PlanRows$Detectors" 18 "PlanRows$Detectors" "roomsOf" "[I" ∈ BW := BW_tb 138 (by rfl) (by rfl)
theorem w_139 : Cond.fieldLink "PlanRows$Detectors" 21 "PlanRows$Detectors" "size" "I" ∈ BW := BW_tb 139 (by rfl) (by rfl)
theorem w_141 : Cond.laysFinal "PlanRows$Detectors" "PlanRows$Detectors" "loops" "[I" ∈ BW := BW_tb 141 (by rfl) (by rfl)
theorem w_143 : Cond.laysFinal "PlanRows$Detectors" "PlanRows$Detectors" "numbers" "[I" ∈ BW := BW_tb 143 (by rfl) (by rfl)
theorem w_145 : Cond.laysFinal "PlanRows$Detectors" "PlanRows$Detectors" "roomsOf" "[I" ∈ BW := BW_tb 145 (by rfl) (by rfl)
theorem w_147 : Cond.lays "PlanRows$Detectors" "PlanRows$Detectors" "size" "I" ∈ BW := BW_tb 147 (by rfl) (by rfl)
theorem w_149 : Cond.superclass "PlanRows$Detectors" "java/lang/Object" ∈ BW := BW_tb 149 (by rfl) (by rfl)
theorem w_150 : Cond.classLink "PlanRows" 53 "PlanRows$Crowd" ∈ BW := BW_tb 150 (by rfl) (by rfl)
theorem w_151 : Cond.instantiable "PlanRows$Crowd" 5 ∈ BW := BW_tb 151 (by rfl) (by rfl)
theorem w_153 : Cond.instanceMethod y_Crowd_init ∈ BW := BW_tb 153 (by rfl) (by rfl)
theorem w_154 : Cond.code y_Crowd_init prog_2_method_1_code 1 none ∈ BW := BW_tb 154 (by rfl) (by rfl)
theorem w_155 : Cond.methodLink "PlanRows$Crowd" 3 ⟨"java/lang/Object", "<init>", "()V"⟩ ∈ BW := BW_tb 155 (by rfl) (by rfl)
theorem w_156 : Cond.fieldLink "PlanRows$Crowd" 9 "PlanRows$Crowd" "floors" "[I" ∈ BW := BW_tb 156 (by rfl) (by rfl)
theorem w_157 : Cond.fieldLink "PlanRows$Crowd" 15 "PlanRows$Crowd" "froms" "[I" ∈ BW := BW_tb 157 (by rfl) (by rfl)
theorem w_158 : Cond.fieldLink "PlanRows$Crowd" 18 "PlanRows$Crowd" "tos" "[I" ∈ BW := BW_tb 158 (by rfl) (by rfl)
theorem w_159 : Cond.fieldLink "PlanRows$Crowd" 21 "PlanRows$Crowd" "amounts" "[I" ∈ BW := BW_tb 159 (by rfl) (by rfl)
theorem w_160 : Cond.fieldLink "PlanRows$Crowd" 24 "PlanRows$Crowd" "size" "I" ∈ BW := BW_tb 160 (by rfl) (by rfl)
theorem w_161 : Cond.laysFinal "PlanRows$Crowd" "PlanRows$Crowd" "floors" "[I" ∈ BW := BW_tb 161 (by rfl) (by rfl)
theorem w_163 : Cond.laysFinal "PlanRows$Crowd" "PlanRows$Crowd" "froms" "[I" ∈ BW := BW_tb 163 (by rfl) (by rfl)
theorem w_165 : Cond.laysFinal "PlanRows$Crowd" "PlanRows$Crowd" "tos" "[I" ∈ BW := BW_tb 165 (by rfl) (by rfl)
theorem w_167 : Cond.laysFinal "PlanRows$Crowd" "PlanRows$Crowd" "amounts" "[I" ∈ BW := BW_tb 167 (by rfl) (by rfl)
theorem w_169 : Cond.lays "PlanRows$Crowd" "PlanRows$Crowd" "size" "I" ∈ BW := BW_tb 169 (by rfl) (by rfl)
theorem w_171 : Cond.superclass "PlanRows$Crowd" "java/lang/Object" ∈ BW := BW_tb 171 (by rfl) (by rfl)
theorem w_172 : Cond.classLink "PlanRows" 60 "PlanRows$Windows" ∈ BW := BW_tb 172 (by rfl) (by rfl)
theorem w_173 : Cond.instantiable "PlanRows$Windows" 4 ∈ BW := BW_tb 173 (by rfl) (by rfl)
theorem w_175 : Cond.instanceMethod y_Win_init ∈ BW := BW_tb 175 (by rfl) (by rfl)
theorem w_176 : Cond.code y_Win_init prog_9_method_1_code 1 none ∈ BW := BW_tb 176 (by rfl) (by rfl)
theorem w_177 : Cond.methodLink "PlanRows$Windows" 3 ⟨"java/lang/Object", "<init>", "()V"⟩ ∈ BW := BW_tb 177 (by rfl) (by rfl)
theorem w_178 : Cond.fieldLink "PlanRows$Windows" 9 "PlanRows$Windows" "xs" "[I" ∈ BW := BW_tb 178 (by rfl) (by rfl)
theorem w_179 : Cond.fieldLink "PlanRows$Windows" 15 "PlanRows$Windows" "ys" "[I" ∈ BW := BW_tb 179 (by rfl) (by rfl)
theorem w_180 : Cond.fieldLink "PlanRows$Windows" 18 "PlanRows$Windows" "zs" "[I" ∈ BW := BW_tb 180 (by rfl) (by rfl)
theorem w_181 : Cond.fieldLink "PlanRows$Windows" 21 "PlanRows$Windows" "size" "I" ∈ BW := BW_tb 181 (by rfl) (by rfl)
theorem w_183 : Cond.laysFinal "PlanRows$Windows" "PlanRows$Windows" "xs" "[I" ∈ BW := BW_tb 183 (by rfl) (by rfl)
theorem w_185 : Cond.laysFinal "PlanRows$Windows" "PlanRows$Windows" "ys" "[I" ∈ BW := BW_tb 185 (by rfl) (by rfl)
theorem w_187 : Cond.laysFinal "PlanRows$Windows" "PlanRows$Windows" "zs" "[I" ∈ BW := BW_tb 187 (by rfl) (by rfl)
theorem w_189 : Cond.lays "PlanRows$Windows" "PlanRows$Windows" "size" "I" ∈ BW := BW_tb 189 (by rfl) (by rfl)
theorem w_191 : Cond.superclass "PlanRows$Windows" "java/lang/Object" ∈ BW := BW_tb 191 (by rfl) (by rfl)
theorem w_192 : Cond.fieldLink "PlanRows" 10 "PlanRows" "rooms" "LPlanRows$Rooms;" ∈ BW := BW_tb 192 (by rfl) (by rfl)
theorem w_193 : Cond.fieldLink "PlanRows" 19 "PlanRows" "doors" "LPlanRows$Doors;" ∈ BW := BW_tb 193 (by rfl) (by rfl)
theorem w_194 : Cond.fieldLink "PlanRows" 26 "PlanRows" "keyRing" "LPlanRows$KeyRing;" ∈ BW := BW_tb 194 (by rfl) (by rfl)
theorem w_195 : Cond.fieldLink "PlanRows" 35 "PlanRows" "search" "LPlanRows$Search;" ∈ BW := BW_tb 195 (by rfl) (by rfl)
theorem w_196 : Cond.fieldLink "PlanRows" 42 "PlanRows" "latestWay" "LPlanRows$Route;" ∈ BW := BW_tb 196 (by rfl) (by rfl)
theorem w_197 : Cond.fieldLink "PlanRows" 49 "PlanRows" "detectors" "LPlanRows$Detectors;" ∈ BW := BW_tb 197 (by rfl) (by rfl)
theorem w_198 : Cond.fieldLink "PlanRows" 56 "PlanRows" "crowd" "LPlanRows$Crowd;" ∈ BW := BW_tb 198 (by rfl) (by rfl)
theorem w_199 : Cond.fieldLink "PlanRows" 63 "PlanRows" "windows" "LPlanRows$Windows;" ∈ BW := BW_tb 199 (by rfl) (by rfl)
theorem w_200 : Cond.fieldLink "PlanRows" 67 "PlanRows" "lookDay" "I" ∈ BW := BW_tb 200 (by rfl) (by rfl)
theorem w_201 : Cond.fieldLink "PlanRows" 71 "PlanRows" "lookTerm" "I" ∈ BW := BW_tb 201 (by rfl) (by rfl)
theorem w_202 : Cond.laysFinal "PlanRows" "PlanRows" "rooms" "LPlanRows$Rooms;" ∈ BW := BW_tb 202 (by rfl) (by rfl)
theorem w_204 : Cond.laysFinal "PlanRows" "PlanRows" "doors" "LPlanRows$Doors;" ∈ BW := BW_tb 204 (by rfl) (by rfl)
theorem w_206 : Cond.laysFinal "PlanRows" "PlanRows" "keyRing" "LPlanRows$KeyRing;" ∈ BW := BW_tb 206 (by rfl) (by rfl)
theorem w_208 : Cond.laysFinal "PlanRows" "PlanRows" "search" "LPlanRows$Search;" ∈ BW := BW_tb 208 (by rfl) (by rfl)
theorem w_210 : Cond.laysFinal "PlanRows" "PlanRows" "latestWay" "LPlanRows$Route;" ∈ BW := BW_tb 210 (by rfl) (by rfl)
theorem w_212 : Cond.laysFinal "PlanRows" "PlanRows" "detectors" "LPlanRows$Detectors;" ∈ BW := BW_tb 212 (by rfl) (by rfl)
theorem w_214 : Cond.laysFinal "PlanRows" "PlanRows" "crowd" "LPlanRows$Crowd;" ∈ BW := BW_tb 214 (by rfl) (by rfl)
theorem w_216 : Cond.laysFinal "PlanRows" "PlanRows" "windows" "LPlanRows$Windows;" ∈ BW := BW_tb 216 (by rfl) (by rfl)
theorem w_218 : Cond.lays "PlanRows" "PlanRows" "lookDay" "I" ∈ BW := BW_tb 218 (by rfl) (by rfl)
theorem w_220 : Cond.lays "PlanRows" "PlanRows" "lookTerm" "I" ∈ BW := BW_tb 220 (by rfl) (by rfl)
theorem w_222 : Cond.superclass "PlanRows" "java/lang/Object" ∈ BW := BW_tb 222 (by rfl) (by rfl)
theorem w_223 : Cond.methodLink "PlanRowsLaw" 90 y_Law_room ∈ BW := BW_tb 223 (by rfl) (by rfl)
theorem w_224 : Cond.static y_Law_room ∈ BW := BW_tb 224 (by rfl) (by rfl)
theorem w_225 : Cond.codeWith y_Law_room method_3_code 5 (some FieldType.int) [(0, 10, 13, 13), (0, 10, 17, 15), (0, 10, 21, 17)] ∈ BW := BW_tb 225 (by rfl) (by rfl)
theorem w_226 : Cond.classLink "PlanRowsLaw" 13 "java/lang/IllegalArgumentException" ∈ BW := BW_tb 226 (by rfl) (by rfl)
theorem w_227 : Cond.classLink "PlanRowsLaw" 15 "java/lang/IndexOutOfBoundsException" ∈ BW := BW_tb 227 (by rfl) (by rfl)
theorem w_228 : Cond.classLink "PlanRowsLaw" 17 "java/lang/UnsupportedOperationException" ∈ BW := BW_tb 228 (by rfl) (by rfl)
theorem w_229 : Cond.methodLink "PlanRowsLaw" 7 y_Plan_room ∈ BW := BW_tb 229 (by rfl) (by rfl)
theorem w_230 : Cond.instanceMethod y_Plan_room ∈ BW := BW_tb 230 (by rfl) (by rfl)
theorem w_231 : Cond.selects "PlanRows" y_Plan_room y_Plan_room ∈ BW := BW_tb 231 (by rfl) (by rfl)
theorem w_232 : Cond.code y_Plan_room prog_1_method_2_code 3 (some FieldType.int) ∈ BW := BW_tb 232 (by rfl) (by rfl)
theorem w_233 : Cond.methodLink "PlanRows" 74 y_Plan_wantKind ∈ BW := BW_tb 233 (by rfl) (by rfl)
theorem w_234 : Cond.static y_Plan_wantKind ∈ BW := BW_tb 234 (by rfl) (by rfl)
theorem w_235 : Cond.code y_Plan_wantKind prog_1_method_24_code 1 none ∈ BW := BW_tb 235 (by rfl) (by rfl)
theorem w_236 : Cond.classLink "PlanRows" 115 "java/lang/IllegalArgumentException" ∈ BW := BW_tb 236 (by rfl) (by rfl)
theorem w_237 : Cond.instantiable "java/lang/IllegalArgumentException" 6 ∈ BW := BW_tb 237 (by rfl) (by rfl)
theorem w_245 : Cond.selects "java/lang/IllegalArgumentException" ⟨"java/lang/Throwable", "fillInStackTrace", "(I)Ljava/lang/Throwable;"⟩ ⟨"java/lang/Throwable", "fillInStackTrace", "(I)Ljava/lang/Throwable;"⟩ ∈ BW := BW_tb 245 (by rfl) (by rfl)
theorem w_246 : Cond.selects "java/lang/IllegalArgumentException" ⟨"java/lang/Throwable", "fillInStackTrace", "()Ljava/lang/Throwable;"⟩ ⟨"java/lang/Throwable", "fillInStackTrace", "()Ljava/lang/Throwable;"⟩ ∈ BW := BW_tb 246 (by rfl) (by rfl)
theorem w_247 : Cond.lays "java/lang/IllegalArgumentException" "java/lang/Throwable" "cause" "Ljava/lang/Throwable;" ∈ BW := BW_tb 247 (by rfl) (by rfl)
theorem w_248 : Cond.lays "java/lang/Throwable" "java/lang/Throwable" "cause" "Ljava/lang/Throwable;" ∈ BW := BW_tb 248 (by rfl) (by rfl)
theorem w_249 : Cond.lays "java/lang/IllegalArgumentException" "java/lang/Throwable" "stackTrace" "[Ljava/lang/StackTraceElement;" ∈ BW := BW_tb 249 (by rfl) (by rfl)
theorem w_250 : Cond.lays "java/lang/Throwable" "java/lang/Throwable" "stackTrace" "[Ljava/lang/StackTraceElement;" ∈ BW := BW_tb 250 (by rfl) (by rfl)
theorem w_251 : Cond.lays "java/lang/IllegalArgumentException" "java/lang/Throwable" "suppressedExceptions" "Ljava/util/List;" ∈ BW := BW_tb 251 (by rfl) (by rfl)
theorem w_252 : Cond.lays "java/lang/Throwable" "java/lang/Throwable" "suppressedExceptions" "Ljava/util/List;" ∈ BW := BW_tb 252 (by rfl) (by rfl)
theorem w_253 : Cond.lays "java/lang/IllegalArgumentException" "java/lang/Throwable" "detailMessage" "Ljava/lang/String;" ∈ BW := BW_tb 253 (by rfl) (by rfl)
theorem w_254 : Cond.lays "java/lang/Throwable" "java/lang/Throwable" "detailMessage" "Ljava/lang/String;" ∈ BW := BW_tb 254 (by rfl) (by rfl)
theorem w_255 : Cond.lays "java/lang/IllegalArgumentException" "java/lang/Throwable" "backtrace" "Ljava/lang/Object;" ∈ BW := BW_tb 255 (by rfl) (by rfl)
theorem w_256 : Cond.lays "java/lang/Throwable" "java/lang/Throwable" "backtrace" "Ljava/lang/Object;" ∈ BW := BW_tb 256 (by rfl) (by rfl)
theorem w_257 : Cond.fieldLink "java/lang/Throwable" 198 "java/lang/Throwable" "backtrace" "Ljava/lang/Object;" ∈ BW := BW_tb 257 (by rfl) (by rfl)
theorem w_258 : Cond.superclass "java/lang/Throwable" "java/lang/Object" ∈ BW := BW_tb 258 (by rfl) (by rfl)
theorem w_259 : Cond.instanceMethod ⟨"java/lang/Throwable", "<init>", "()V"⟩ ∈ BW := BW_tb 259 (by rfl) (by rfl)
theorem w_260 : Cond.code ⟨"java/lang/Throwable", "<init>", "()V"⟩ prog_19_method_1_code 1 none ∈ BW := BW_tb 260 (by rfl) (by rfl)
theorem w_261 : Cond.methodLink "java/lang/Throwable" 1 ⟨"java/lang/Object", "<init>", "()V"⟩ ∈ BW := BW_tb 261 (by rfl) (by rfl)
theorem w_262 : Cond.fieldLink "java/lang/Throwable" 13 "java/lang/Throwable" "UNASSIGNED_STACK" "[Ljava/lang/StackTraceElement;" ∈ BW := BW_tb 262 (by rfl) (by rfl)
theorem w_264 : Cond.fieldLink "java/lang/Throwable" 20 "java/lang/Throwable" "SUPPRESSED_SENTINEL" "Ljava/util/List;" ∈ BW := BW_tb 264 (by rfl) (by rfl)
theorem w_266 : Cond.methodLink "java/lang/Throwable" 27 ⟨"java/lang/Throwable", "fillInStackTrace", "()Ljava/lang/Throwable;"⟩ ∈ BW := BW_tb 266 (by rfl) (by rfl)
theorem w_267 : Cond.instanceMethod ⟨"java/lang/Throwable", "fillInStackTrace", "()Ljava/lang/Throwable;"⟩ ∈ BW := BW_tb 267 (by rfl) (by rfl)
theorem w_269 : Cond.selects "java/lang/IllegalStateException" ⟨"java/lang/Throwable", "fillInStackTrace", "()Ljava/lang/Throwable;"⟩ ⟨"java/lang/Throwable", "fillInStackTrace", "()Ljava/lang/Throwable;"⟩ ∈ BW := BW_tb 269 (by rfl) (by rfl)
theorem w_270 : Cond.selects "java/lang/IndexOutOfBoundsException" ⟨"java/lang/Throwable", "fillInStackTrace", "()Ljava/lang/Throwable;"⟩ ⟨"java/lang/Throwable", "fillInStackTrace", "()Ljava/lang/Throwable;"⟩ ∈ BW := BW_tb 270 (by rfl) (by rfl)
theorem w_271 : Cond.selects "java/lang/UnsupportedOperationException" ⟨"java/lang/Throwable", "fillInStackTrace", "()Ljava/lang/Throwable;"⟩ ⟨"java/lang/Throwable", "fillInStackTrace", "()Ljava/lang/Throwable;"⟩ ∈ BW := BW_tb 271 (by rfl) (by rfl)
theorem w_272 : Cond.codeSync ⟨"java/lang/Throwable", "fillInStackTrace", "()Ljava/lang/Throwable;"⟩ prog_19_method_18_code 1 (some (FieldType.object "java/lang/Throwable")) ∈ BW := BW_tb 272 (by rfl) (by rfl)
theorem w_273 : Cond.methodLink "java/lang/Throwable" 202 ⟨"java/lang/Throwable", "fillInStackTrace", "(I)Ljava/lang/Throwable;"⟩ ∈ BW := BW_tb 273 (by rfl) (by rfl)
theorem w_275 : Cond.instanceMethod ⟨"java/lang/Throwable", "fillInStackTrace", "(I)Ljava/lang/Throwable;"⟩ ∈ BW := BW_tb 275 (by rfl) (by rfl)
theorem w_276 : Cond.instantiable "java/lang/Throwable" 6 ∈ BW := BW_tb 276 (by rfl) (by rfl)
theorem w_277 : Cond.native ⟨"java/lang/Throwable", "fillInStackTrace", "(I)Ljava/lang/Throwable;"⟩ ∈ BW := BW_tb 277 (by rfl) (by rfl)
theorem w_279 : Cond.methodLink "PlanRows" 119 ⟨"java/lang/IllegalArgumentException", "<init>", "(Ljava/lang/String;)V"⟩ ∈ BW := BW_tb 279 (by rfl) (by rfl)
theorem w_280 : Cond.instanceMethod ⟨"java/lang/IllegalArgumentException", "<init>", "(Ljava/lang/String;)V"⟩ ∈ BW := BW_tb 280 (by rfl) (by rfl)
theorem w_281 : Cond.code ⟨"java/lang/IllegalArgumentException", "<init>", "(Ljava/lang/String;)V"⟩ prog_13_method_2_code 2 none ∈ BW := BW_tb 281 (by rfl) (by rfl)
theorem w_282 : Cond.methodLink "java/lang/IllegalArgumentException" 7 ⟨"java/lang/RuntimeException", "<init>", "(Ljava/lang/String;)V"⟩ ∈ BW := BW_tb 282 (by rfl) (by rfl)
theorem w_283 : Cond.instanceMethod ⟨"java/lang/RuntimeException", "<init>", "(Ljava/lang/String;)V"⟩ ∈ BW := BW_tb 283 (by rfl) (by rfl)
theorem w_284 : Cond.code ⟨"java/lang/RuntimeException", "<init>", "(Ljava/lang/String;)V"⟩ prog_17_method_2_code 2 none ∈ BW := BW_tb 284 (by rfl) (by rfl)
theorem w_285 : Cond.methodLink "java/lang/RuntimeException" 7 ⟨"java/lang/Exception", "<init>", "(Ljava/lang/String;)V"⟩ ∈ BW := BW_tb 285 (by rfl) (by rfl)
theorem w_286 : Cond.instanceMethod ⟨"java/lang/Exception", "<init>", "(Ljava/lang/String;)V"⟩ ∈ BW := BW_tb 286 (by rfl) (by rfl)
theorem w_287 : Cond.code ⟨"java/lang/Exception", "<init>", "(Ljava/lang/String;)V"⟩ prog_12_method_2_code 2 none ∈ BW := BW_tb 287 (by rfl) (by rfl)
theorem w_288 : Cond.methodLink "java/lang/Exception" 7 ⟨"java/lang/Throwable", "<init>", "(Ljava/lang/String;)V"⟩ ∈ BW := BW_tb 288 (by rfl) (by rfl)
theorem w_289 : Cond.instanceMethod ⟨"java/lang/Throwable", "<init>", "(Ljava/lang/String;)V"⟩ ∈ BW := BW_tb 289 (by rfl) (by rfl)
theorem w_290 : Cond.code ⟨"java/lang/Throwable", "<init>", "(Ljava/lang/String;)V"⟩ prog_19_method_2_code 2 none ∈ BW := BW_tb 290 (by rfl) (by rfl)
theorem w_292 : Cond.fieldLink "java/lang/Throwable" 31 "java/lang/Throwable" "detailMessage" "Ljava/lang/String;" ∈ BW := BW_tb 292 (by rfl) (by rfl)
theorem w_293 : Cond.fieldLink "java/lang/Throwable" 7 "java/lang/Throwable" "cause" "Ljava/lang/Throwable;" ∈ BW := BW_tb 293 (by rfl) (by rfl)
theorem w_294 : Cond.fieldLink "java/lang/Throwable" 17 "java/lang/Throwable" "stackTrace" "[Ljava/lang/StackTraceElement;" ∈ BW := BW_tb 294 (by rfl) (by rfl)
theorem w_295 : Cond.fieldLink "java/lang/Throwable" 24 "java/lang/Throwable" "suppressedExceptions" "Ljava/util/List;" ∈ BW := BW_tb 295 (by rfl) (by rfl)
set_option maxRecDepth 100000 in
theorem w_300 : Cond.lays "java/lang/IllegalArgumentException" "java/lang/Throwable" "depth" "I" ∈ BW := BW_tb 300 (by rfl) (by rfl)
set_option maxRecDepth 100000 in
theorem w_303 : Cond.superclass "java/lang/IllegalArgumentException" "java/lang/RuntimeException" ∈ BW := BW_tb 303 (by rfl) (by rfl)
set_option maxRecDepth 100000 in
theorem w_304 : Cond.arrayClass FieldType.byte ∈ BW := BW_tb 304 (by rfl) (by rfl)
set_option maxRecDepth 100000 in
theorem w_305 : Cond.methodLink "PlanRows" 78 y_Plan_wantWithin ∈ BW := BW_tb 305 (by rfl) (by rfl)
set_option maxRecDepth 100000 in
theorem w_306 : Cond.static y_Plan_wantWithin ∈ BW := BW_tb 306 (by rfl) (by rfl)
set_option maxRecDepth 100000 in
theorem w_307 : Cond.code y_Plan_wantWithin prog_1_method_26_code 3 none ∈ BW := BW_tb 307 (by rfl) (by rfl)
set_option maxRecDepth 100000 in
theorem w_308 : Cond.classLink "PlanRows" 220 "java/lang/IndexOutOfBoundsException" ∈ BW := BW_tb 308 (by rfl) (by rfl)
set_option maxRecDepth 100000 in
theorem w_309 : Cond.instantiable "java/lang/IndexOutOfBoundsException" 6 ∈ BW := BW_tb 309 (by rfl) (by rfl)
set_option maxRecDepth 100000 in
theorem w_311 : Cond.selects "java/lang/IndexOutOfBoundsException" ⟨"java/lang/Throwable", "fillInStackTrace", "(I)Ljava/lang/Throwable;"⟩ ⟨"java/lang/Throwable", "fillInStackTrace", "(I)Ljava/lang/Throwable;"⟩ ∈ BW := BW_tb 311 (by rfl) (by rfl)
set_option maxRecDepth 100000 in
theorem w_312 : Cond.lays "java/lang/IndexOutOfBoundsException" "java/lang/Throwable" "cause" "Ljava/lang/Throwable;" ∈ BW := BW_tb 312 (by rfl) (by rfl)
set_option maxRecDepth 100000 in
theorem w_313 : Cond.lays "java/lang/IndexOutOfBoundsException" "java/lang/Throwable" "stackTrace" "[Ljava/lang/StackTraceElement;" ∈ BW := BW_tb 313 (by rfl) (by rfl)
set_option maxRecDepth 100000 in
theorem w_314 : Cond.lays "java/lang/IndexOutOfBoundsException" "java/lang/Throwable" "suppressedExceptions" "Ljava/util/List;" ∈ BW := BW_tb 314 (by rfl) (by rfl)
set_option maxRecDepth 100000 in
theorem w_315 : Cond.lays "java/lang/IndexOutOfBoundsException" "java/lang/Throwable" "detailMessage" "Ljava/lang/String;" ∈ BW := BW_tb 315 (by rfl) (by rfl)
set_option maxRecDepth 100000 in
theorem w_316 : Cond.lays "java/lang/IndexOutOfBoundsException" "java/lang/Throwable" "backtrace" "Ljava/lang/Object;" ∈ BW := BW_tb 316 (by rfl) (by rfl)
set_option maxRecDepth 100000 in
theorem w_318 : Cond.methodLink "PlanRows" 224 ⟨"java/lang/IndexOutOfBoundsException", "<init>", "(Ljava/lang/String;)V"⟩ ∈ BW := BW_tb 318 (by rfl) (by rfl)
set_option maxRecDepth 100000 in
theorem w_319 : Cond.instanceMethod ⟨"java/lang/IndexOutOfBoundsException", "<init>", "(Ljava/lang/String;)V"⟩ ∈ BW := BW_tb 319 (by rfl) (by rfl)
set_option maxRecDepth 100000 in
theorem w_320 : Cond.code ⟨"java/lang/IndexOutOfBoundsException", "<init>", "(Ljava/lang/String;)V"⟩ prog_15_method_2_code 2 none ∈ BW := BW_tb 320 (by rfl) (by rfl)
set_option maxRecDepth 100000 in
theorem w_321 : Cond.methodLink "java/lang/IndexOutOfBoundsException" 7 ⟨"java/lang/RuntimeException", "<init>", "(Ljava/lang/String;)V"⟩ ∈ BW := BW_tb 321 (by rfl) (by rfl)
set_option maxRecDepth 100000 in
theorem w_322 : Cond.lays "java/lang/IndexOutOfBoundsException" "java/lang/Throwable" "depth" "I" ∈ BW := BW_tb 322 (by rfl) (by rfl)
set_option maxRecDepth 100000 in
theorem w_323 : Cond.superclass "java/lang/IndexOutOfBoundsException" "java/lang/RuntimeException" ∈ BW := BW_tb 323 (by rfl) (by rfl)
set_option maxRecDepth 100000 in
theorem w_324 : Cond.methodLink "PlanRows" 82 y_Rooms_add ∈ BW := BW_tb 324 (by rfl) (by rfl)
set_option maxRecDepth 100000 in
theorem w_325 : Cond.instanceMethod y_Rooms_add ∈ BW := BW_tb 325 (by rfl) (by rfl)
set_option maxRecDepth 100000 in
theorem w_326 : Cond.selects "PlanRows$Rooms" y_Rooms_add y_Rooms_add ∈ BW := BW_tb 326 (by rfl) (by rfl)
set_option maxRecDepth 100000 in
theorem w_327 : Cond.code y_Rooms_add prog_6_method_2_code 3 (some FieldType.int) ∈ BW := BW_tb 327 (by rfl) (by rfl)
set_option maxRecDepth 100000 in
theorem w_328 : Cond.methodLink "PlanRows" 86 y_Plan_wantAdded ∈ BW := BW_tb 328 (by rfl) (by rfl)
set_option maxRecDepth 100000 in
theorem w_329 : Cond.static y_Plan_wantAdded ∈ BW := BW_tb 329 (by rfl) (by rfl)
set_option maxRecDepth 100000 in
theorem w_330 : Cond.code y_Plan_wantAdded prog_1_method_28_code 1 (some FieldType.int) ∈ BW := BW_tb 330 (by rfl) (by rfl)
set_option maxRecDepth 100000 in
theorem w_331 : Cond.classLink "PlanRows" 227 "java/lang/UnsupportedOperationException" ∈ BW := BW_tb 331 (by rfl) (by rfl)
set_option maxRecDepth 100000 in
theorem w_332 : Cond.instantiable "java/lang/UnsupportedOperationException" 6 ∈ BW := BW_tb 332 (by rfl) (by rfl)
set_option maxRecDepth 100000 in
theorem w_334 : Cond.selects "java/lang/UnsupportedOperationException" ⟨"java/lang/Throwable", "fillInStackTrace", "(I)Ljava/lang/Throwable;"⟩ ⟨"java/lang/Throwable", "fillInStackTrace", "(I)Ljava/lang/Throwable;"⟩ ∈ BW := BW_tb 334 (by rfl) (by rfl)
set_option maxRecDepth 100000 in
theorem w_335 : Cond.lays "java/lang/UnsupportedOperationException" "java/lang/Throwable" "cause" "Ljava/lang/Throwable;" ∈ BW := BW_tb 335 (by rfl) (by rfl)
set_option maxRecDepth 100000 in
theorem w_336 : Cond.lays "java/lang/UnsupportedOperationException" "java/lang/Throwable" "stackTrace" "[Ljava/lang/StackTraceElement;" ∈ BW := BW_tb 336 (by rfl) (by rfl)
set_option maxRecDepth 100000 in
theorem w_337 : Cond.lays "java/lang/UnsupportedOperationException" "java/lang/Throwable" "suppressedExceptions" "Ljava/util/List;" ∈ BW := BW_tb 337 (by rfl) (by rfl)
set_option maxRecDepth 100000 in
theorem w_338 : Cond.lays "java/lang/UnsupportedOperationException" "java/lang/Throwable" "detailMessage" "Ljava/lang/String;" ∈ BW := BW_tb 338 (by rfl) (by rfl)
set_option maxRecDepth 100000 in
theorem w_339 : Cond.lays "java/lang/UnsupportedOperationException" "java/lang/Throwable" "backtrace" "Ljava/lang/Object;" ∈ BW := BW_tb 339 (by rfl) (by rfl)
set_option maxRecDepth 100000 in
theorem w_341 : Cond.methodLink "PlanRows" 231 ⟨"java/lang/UnsupportedOperationException", "<init>", "(Ljava/lang/String;)V"⟩ ∈ BW := BW_tb 341 (by rfl) (by rfl)
set_option maxRecDepth 100000 in
theorem w_342 : Cond.instanceMethod ⟨"java/lang/UnsupportedOperationException", "<init>", "(Ljava/lang/String;)V"⟩ ∈ BW := BW_tb 342 (by rfl) (by rfl)
set_option maxRecDepth 100000 in
theorem w_343 : Cond.code ⟨"java/lang/UnsupportedOperationException", "<init>", "(Ljava/lang/String;)V"⟩ prog_20_method_2_code 2 none ∈ BW := BW_tb 343 (by rfl) (by rfl)
set_option maxRecDepth 100000 in
theorem w_344 : Cond.methodLink "java/lang/UnsupportedOperationException" 7 ⟨"java/lang/RuntimeException", "<init>", "(Ljava/lang/String;)V"⟩ ∈ BW := BW_tb 344 (by rfl) (by rfl)
set_option maxRecDepth 100000 in
theorem w_345 : Cond.lays "java/lang/UnsupportedOperationException" "java/lang/Throwable" "depth" "I" ∈ BW := BW_tb 345 (by rfl) (by rfl)
set_option maxRecDepth 100000 in
theorem w_346 : Cond.superclass "java/lang/UnsupportedOperationException" "java/lang/RuntimeException" ∈ BW := BW_tb 346 (by rfl) (by rfl)
set_option maxRecDepth 100000 in
theorem w_347 : Cond.methodLink "PlanRowsLaw" 100 y_Law_door ∈ BW := BW_tb 347 (by rfl) (by rfl)
set_option maxRecDepth 100000 in
theorem w_348 : Cond.static y_Law_door ∈ BW := BW_tb 348 (by rfl) (by rfl)
set_option maxRecDepth 100000 in
theorem w_349 : Cond.codeWith y_Law_door method_4_code 7 (some FieldType.int) [(0, 14, 17, 13), (0, 14, 21, 15), (0, 14, 25, 23), (0, 14, 29, 17)] ∈ BW := BW_tb 349 (by rfl) (by rfl)
set_option maxRecDepth 100000 in
theorem w_350 : Cond.classLink "PlanRowsLaw" 23 "java/lang/IllegalStateException" ∈ BW := BW_tb 350 (by rfl) (by rfl)
set_option maxRecDepth 100000 in
theorem w_351 : Cond.methodLink "PlanRowsLaw" 19 y_Plan_door ∈ BW := BW_tb 351 (by rfl) (by rfl)
set_option maxRecDepth 100000 in
theorem w_352 : Cond.instanceMethod y_Plan_door ∈ BW := BW_tb 352 (by rfl) (by rfl)
set_option maxRecDepth 100000 in
theorem w_353 : Cond.selects "PlanRows" y_Plan_door y_Plan_door ∈ BW := BW_tb 353 (by rfl) (by rfl)
set_option maxRecDepth 100000 in
theorem w_354 : Cond.code y_Plan_door prog_1_method_3_code 7 (some FieldType.int) ∈ BW := BW_tb 354 (by rfl) (by rfl)
set_option maxRecDepth 100000 in
theorem w_355 : Cond.methodLink "PlanRows" 90 y_Plan_wantRoom ∈ BW := BW_tb 355 (by rfl) (by rfl)
set_option maxRecDepth 100000 in
theorem w_357 : Cond.instanceMethod y_Plan_wantRoom ∈ BW := BW_tb 357 (by rfl) (by rfl)
set_option maxRecDepth 100000 in
theorem w_358 : Cond.code y_Plan_wantRoom prog_1_method_22_code 2 none ∈ BW := BW_tb 358 (by rfl) (by rfl)
set_option maxRecDepth 100000 in
theorem w_359 : Cond.methodLink "PlanRows" 211 y_Rooms_has ∈ BW := BW_tb 359 (by rfl) (by rfl)
set_option maxRecDepth 100000 in
theorem w_360 : Cond.instanceMethod y_Rooms_has ∈ BW := BW_tb 360 (by rfl) (by rfl)
set_option maxRecDepth 100000 in
theorem w_361 : Cond.selects "PlanRows$Rooms" y_Rooms_has y_Rooms_has ∈ BW := BW_tb 361 (by rfl) (by rfl)
set_option maxRecDepth 100000 in
theorem w_362 : Cond.code y_Rooms_has prog_6_method_3_code 2 (some FieldType.boolean) ∈ BW := BW_tb 362 (by rfl) (by rfl)
set_option maxRecDepth 100000 in
theorem w_364 : Cond.methodLink "PlanRows" 93 y_Rooms_floorOf ∈ BW := BW_tb 364 (by rfl) (by rfl)
set_option maxRecDepth 100000 in
theorem w_365 : Cond.instanceMethod y_Rooms_floorOf ∈ BW := BW_tb 365 (by rfl) (by rfl)
set_option maxRecDepth 100000 in
theorem w_366 : Cond.selects "PlanRows$Rooms" y_Rooms_floorOf y_Rooms_floorOf ∈ BW := BW_tb 366 (by rfl) (by rfl)
set_option maxRecDepth 100000 in
theorem w_367 : Cond.code y_Rooms_floorOf prog_6_method_4_code 2 (some FieldType.int) ∈ BW := BW_tb 367 (by rfl) (by rfl)
set_option maxRecDepth 100000 in
theorem w_368 : Cond.methodLink "PlanRows$Rooms" 25 y_Rooms_has ∈ BW := BW_tb 368 (by rfl) (by rfl)
set_option maxRecDepth 100000 in
theorem w_369 : Cond.methodLink "PlanRows" 96 ⟨"java/lang/Math", "abs", "(I)I"⟩ ∈ BW := BW_tb 369 (by rfl) (by rfl)
set_option maxRecDepth 100000 in
theorem w_370 : Cond.static ⟨"java/lang/Math", "abs", "(I)I"⟩ ∈ BW := BW_tb 370 (by rfl) (by rfl)
set_option maxRecDepth 100000 in
theorem w_371 : Cond.code ⟨"java/lang/Math", "abs", "(I)I"⟩ prog_16_method_59_code 1 (some FieldType.int) ∈ BW := BW_tb 371 (by rfl) (by rfl)
set_option maxRecDepth 100000 in
theorem w_372 : Cond.classLink "PlanRows" 101 "java/lang/IllegalStateException" ∈ BW := BW_tb 372 (by rfl) (by rfl)
set_option maxRecDepth 100000 in
theorem w_373 : Cond.instantiable "java/lang/IllegalStateException" 6 ∈ BW := BW_tb 373 (by rfl) (by rfl)
set_option maxRecDepth 100000 in
theorem w_375 : Cond.selects "java/lang/IllegalStateException" ⟨"java/lang/Throwable", "fillInStackTrace", "(I)Ljava/lang/Throwable;"⟩ ⟨"java/lang/Throwable", "fillInStackTrace", "(I)Ljava/lang/Throwable;"⟩ ∈ BW := BW_tb 375 (by rfl) (by rfl)
set_option maxRecDepth 100000 in
theorem w_376 : Cond.lays "java/lang/IllegalStateException" "java/lang/Throwable" "cause" "Ljava/lang/Throwable;" ∈ BW := BW_tb 376 (by rfl) (by rfl)
set_option maxRecDepth 100000 in
theorem w_377 : Cond.lays "java/lang/IllegalStateException" "java/lang/Throwable" "stackTrace" "[Ljava/lang/StackTraceElement;" ∈ BW := BW_tb 377 (by rfl) (by rfl)
set_option maxRecDepth 100000 in
theorem w_378 : Cond.lays "java/lang/IllegalStateException" "java/lang/Throwable" "suppressedExceptions" "Ljava/util/List;" ∈ BW := BW_tb 378 (by rfl) (by rfl)
set_option maxRecDepth 100000 in
theorem w_379 : Cond.lays "java/lang/IllegalStateException" "java/lang/Throwable" "detailMessage" "Ljava/lang/String;" ∈ BW := BW_tb 379 (by rfl) (by rfl)
set_option maxRecDepth 100000 in
theorem w_380 : Cond.lays "java/lang/IllegalStateException" "java/lang/Throwable" "backtrace" "Ljava/lang/Object;" ∈ BW := BW_tb 380 (by rfl) (by rfl)
set_option maxRecDepth 100000 in
theorem w_382 : Cond.methodLink "PlanRows" 105 ⟨"java/lang/IllegalStateException", "<init>", "(Ljava/lang/String;)V"⟩ ∈ BW := BW_tb 382 (by rfl) (by rfl)
set_option maxRecDepth 100000 in
theorem w_383 : Cond.instanceMethod ⟨"java/lang/IllegalStateException", "<init>", "(Ljava/lang/String;)V"⟩ ∈ BW := BW_tb 383 (by rfl) (by rfl)
set_option maxRecDepth 100000 in
theorem w_384 : Cond.code ⟨"java/lang/IllegalStateException", "<init>", "(Ljava/lang/String;)V"⟩ prog_14_method_2_code 2 none ∈ BW := BW_tb 384 (by rfl) (by rfl)
set_option maxRecDepth 100000 in
theorem w_385 : Cond.methodLink "java/lang/IllegalStateException" 7 ⟨"java/lang/RuntimeException", "<init>", "(Ljava/lang/String;)V"⟩ ∈ BW := BW_tb 385 (by rfl) (by rfl)
set_option maxRecDepth 100000 in
theorem w_386 : Cond.lays "java/lang/IllegalStateException" "java/lang/Throwable" "depth" "I" ∈ BW := BW_tb 386 (by rfl) (by rfl)
set_option maxRecDepth 100000 in
theorem w_387 : Cond.superclass "java/lang/IllegalStateException" "java/lang/RuntimeException" ∈ BW := BW_tb 387 (by rfl) (by rfl)
set_option maxRecDepth 100000 in
theorem w_388 : Cond.methodLink "PlanRows" 108 y_Doors_add ∈ BW := BW_tb 388 (by rfl) (by rfl)
set_option maxRecDepth 100000 in
theorem w_389 : Cond.instanceMethod y_Doors_add ∈ BW := BW_tb 389 (by rfl) (by rfl)
set_option maxRecDepth 100000 in
theorem w_390 : Cond.selects "PlanRows$Doors" y_Doors_add y_Doors_add ∈ BW := BW_tb 390 (by rfl) (by rfl)
set_option maxRecDepth 100000 in
theorem w_391 : Cond.code y_Doors_add prog_4_method_2_code 5 (some FieldType.int) ∈ BW := BW_tb 391 (by rfl) (by rfl)
set_option maxRecDepth 100000 in
theorem w_392 : Cond.methodLink "PlanRowsLaw" 104 y_Law_key ∈ BW := BW_tb 392 (by rfl) (by rfl)
set_option maxRecDepth 100000 in
theorem w_393 : Cond.static y_Law_key ∈ BW := BW_tb 393 (by rfl) (by rfl)
set_option maxRecDepth 100000 in
theorem w_394 : Cond.codeWith y_Law_key method_5_code 4 (some FieldType.int) [(0, 6, 9, 13), (0, 6, 12, 23)] ∈ BW := BW_tb 394 (by rfl) (by rfl)
set_option maxRecDepth 100000 in
theorem w_395 : Cond.methodLink "PlanRowsLaw" 25 y_Plan_key ∈ BW := BW_tb 395 (by rfl) (by rfl)
set_option maxRecDepth 100000 in
theorem w_396 : Cond.instanceMethod y_Plan_key ∈ BW := BW_tb 396 (by rfl) (by rfl)
set_option maxRecDepth 100000 in
theorem w_397 : Cond.selects "PlanRows" y_Plan_key y_Plan_key ∈ BW := BW_tb 397 (by rfl) (by rfl)
set_option maxRecDepth 100000 in
theorem w_398 : Cond.code y_Plan_key prog_1_method_4_code 3 none ∈ BW := BW_tb 398 (by rfl) (by rfl)
set_option maxRecDepth 100000 in
theorem w_399 : Cond.methodLink "PlanRows" 111 y_Keys_has ∈ BW := BW_tb 399 (by rfl) (by rfl)
set_option maxRecDepth 100000 in
theorem w_400 : Cond.instanceMethod y_Keys_has ∈ BW := BW_tb 400 (by rfl) (by rfl)
set_option maxRecDepth 100000 in
theorem w_401 : Cond.selects "PlanRows$KeyRing" y_Keys_has y_Keys_has ∈ BW := BW_tb 401 (by rfl) (by rfl)
set_option maxRecDepth 100000 in
theorem w_402 : Cond.code y_Keys_has prog_5_method_2_code 2 (some FieldType.boolean) ∈ BW := BW_tb 402 (by rfl) (by rfl)
set_option maxRecDepth 100000 in
theorem w_404 : Cond.methodLink "PlanRows" 120 y_Keys_isAtHand ∈ BW := BW_tb 404 (by rfl) (by rfl)
set_option maxRecDepth 100000 in
theorem w_405 : Cond.instanceMethod y_Keys_isAtHand ∈ BW := BW_tb 405 (by rfl) (by rfl)
set_option maxRecDepth 100000 in
theorem w_406 : Cond.selects "PlanRows$KeyRing" y_Keys_isAtHand y_Keys_isAtHand ∈ BW := BW_tb 406 (by rfl) (by rfl)
set_option maxRecDepth 100000 in
theorem w_407 : Cond.code y_Keys_isAtHand prog_5_method_3_code 2 (some FieldType.boolean) ∈ BW := BW_tb 407 (by rfl) (by rfl)
set_option maxRecDepth 100000 in
theorem w_408 : Cond.methodLink "PlanRows$KeyRing" 15 y_Keys_has ∈ BW := BW_tb 408 (by rfl) (by rfl)
set_option maxRecDepth 100000 in
theorem w_410 : Cond.methodLink "PlanRows" 125 y_Keys_put ∈ BW := BW_tb 410 (by rfl) (by rfl)
set_option maxRecDepth 100000 in
theorem w_411 : Cond.instanceMethod y_Keys_put ∈ BW := BW_tb 411 (by rfl) (by rfl)
set_option maxRecDepth 100000 in
theorem w_412 : Cond.selects "PlanRows$KeyRing" y_Keys_put y_Keys_put ∈ BW := BW_tb 412 (by rfl) (by rfl)
set_option maxRecDepth 100000 in
theorem w_413 : Cond.code y_Keys_put prog_5_method_4_code 3 none ∈ BW := BW_tb 413 (by rfl) (by rfl)
set_option maxRecDepth 100000 in
theorem w_414 : Cond.methodLink "PlanRowsLaw" 108 y_Law_hazard ∈ BW := BW_tb 414 (by rfl) (by rfl)
set_option maxRecDepth 100000 in
theorem w_415 : Cond.static y_Law_hazard ∈ BW := BW_tb 415 (by rfl) (by rfl)
set_option maxRecDepth 100000 in
theorem w_416 : Cond.codeWith y_Law_hazard method_6_code 4 (some FieldType.int) [(0, 6, 9, 13), (0, 6, 12, 15)] ∈ BW := BW_tb 416 (by rfl) (by rfl)
set_option maxRecDepth 100000 in
theorem w_417 : Cond.methodLink "PlanRowsLaw" 29 y_Plan_hazard ∈ BW := BW_tb 417 (by rfl) (by rfl)
set_option maxRecDepth 100000 in
theorem w_418 : Cond.instanceMethod y_Plan_hazard ∈ BW := BW_tb 418 (by rfl) (by rfl)
set_option maxRecDepth 100000 in
theorem w_419 : Cond.selects "PlanRows" y_Plan_hazard y_Plan_hazard ∈ BW := BW_tb 419 (by rfl) (by rfl)
set_option maxRecDepth 100000 in
theorem w_420 : Cond.code y_Plan_hazard prog_1_method_5_code 3 none ∈ BW := BW_tb 420 (by rfl) (by rfl)
set_option maxRecDepth 100000 in
theorem w_421 : Cond.methodLink "PlanRows" 129 y_Rooms_setHazards ∈ BW := BW_tb 421 (by rfl) (by rfl)
set_option maxRecDepth 100000 in
theorem w_422 : Cond.instanceMethod y_Rooms_setHazards ∈ BW := BW_tb 422 (by rfl) (by rfl)
set_option maxRecDepth 100000 in
theorem w_423 : Cond.selects "PlanRows$Rooms" y_Rooms_setHazards y_Rooms_setHazards ∈ BW := BW_tb 423 (by rfl) (by rfl)
set_option maxRecDepth 100000 in
theorem w_424 : Cond.code y_Rooms_setHazards prog_6_method_7_code 3 none ∈ BW := BW_tb 424 (by rfl) (by rfl)
set_option maxRecDepth 100000 in
theorem w_425 : Cond.methodLink "PlanRowsLaw" 112 y_Law_way ∈ BW := BW_tb 425 (by rfl) (by rfl)
set_option maxRecDepth 100000 in
theorem w_426 : Cond.static y_Law_way ∈ BW := BW_tb 426 (by rfl) (by rfl)
set_option maxRecDepth 100000 in
theorem w_427 : Cond.codeWith y_Law_way method_7_code 6 (some FieldType.int) [(0, 12, 15, 13), (0, 12, 19, 15)] ∈ BW := BW_tb 427 (by rfl) (by rfl)
set_option maxRecDepth 100000 in
theorem w_428 : Cond.methodLink "PlanRowsLaw" 33 y_Plan_way ∈ BW := BW_tb 428 (by rfl) (by rfl)
set_option maxRecDepth 100000 in
theorem w_429 : Cond.instanceMethod y_Plan_way ∈ BW := BW_tb 429 (by rfl) (by rfl)
set_option maxRecDepth 100000 in
theorem w_430 : Cond.selects "PlanRows" y_Plan_way y_Plan_way ∈ BW := BW_tb 430 (by rfl) (by rfl)
set_option maxRecDepth 100000 in
theorem w_431 : Cond.code y_Plan_way prog_1_method_6_code 5 (some FieldType.int) ∈ BW := BW_tb 431 (by rfl) (by rfl)
set_option maxRecDepth 100000 in
theorem w_432 : Cond.methodLink "PlanRows" 133 y_Search_spreadFromRoom ∈ BW := BW_tb 432 (by rfl) (by rfl)
set_option maxRecDepth 100000 in
theorem w_433 : Cond.instanceMethod y_Search_spreadFromRoom ∈ BW := BW_tb 433 (by rfl) (by rfl)
set_option maxRecDepth 100000 in
theorem w_434 : Cond.selects "PlanRows$Search" y_Search_spreadFromRoom y_Search_spreadFromRoom ∈ BW := BW_tb 434 (by rfl) (by rfl)
set_option maxRecDepth 100000 in
theorem w_435 : Cond.code y_Search_spreadFromRoom prog_8_method_2_code 3 none ∈ BW := BW_tb 435 (by rfl) (by rfl)
set_option maxRecDepth 100000 in
theorem w_436 : Cond.constant "PlanRows$Search" 27 1000000000 ∈ BW := BW_tb 436 (by rfl) (by rfl)
set_option maxRecDepth 100000 in
theorem w_437 : Cond.methodLink "PlanRows$Search" 28 y_Arr_fill ∈ BW := BW_tb 437 (by rfl) (by rfl)
set_option maxRecDepth 100000 in
theorem w_438 : Cond.static y_Arr_fill ∈ BW := BW_tb 438 (by rfl) (by rfl)
set_option maxRecDepth 100000 in
theorem w_439 : Cond.code y_Arr_fill prog_21_method_103_code 4 none ∈ BW := BW_tb 439 (by rfl) (by rfl)
set_option maxRecDepth 100000 in
theorem w_440 : Cond.methodLink "PlanRows$Search" 34 y_Rooms_has ∈ BW := BW_tb 440 (by rfl) (by rfl)
set_option maxRecDepth 100000 in
theorem w_441 : Cond.methodLink "PlanRows$Search" 40 y_Search_spread ∈ BW := BW_tb 441 (by rfl) (by rfl)
set_option maxRecDepth 100000 in
theorem w_443 : Cond.instanceMethod y_Search_spread ∈ BW := BW_tb 443 (by rfl) (by rfl)
set_option maxRecDepth 100000 in
theorem w_444 : Cond.code y_Search_spread prog_8_method_4_code 4 none ∈ BW := BW_tb 444 (by rfl) (by rfl)
set_option maxRecDepth 100000 in
theorem w_445 : Cond.methodLink "PlanRows$Search" 48 y_Search_spreadOverAllDoors ∈ BW := BW_tb 445 (by rfl) (by rfl)
set_option maxRecDepth 100000 in
theorem w_447 : Cond.instanceMethod y_Search_spreadOverAllDoors ∈ BW := BW_tb 447 (by rfl) (by rfl)
set_option maxRecDepth 100000 in
theorem w_448 : Cond.code y_Search_spreadOverAllDoors prog_8_method_5_code 9 (some FieldType.boolean) ∈ BW := BW_tb 448 (by rfl) (by rfl)
set_option maxRecDepth 100000 in
theorem w_449 : Cond.methodLink "PlanRows$Search" 57 y_Search_isPassed ∈ BW := BW_tb 449 (by rfl) (by rfl)
set_option maxRecDepth 100000 in
theorem w_451 : Cond.instanceMethod y_Search_isPassed ∈ BW := BW_tb 451 (by rfl) (by rfl)
set_option maxRecDepth 100000 in
theorem w_452 : Cond.code y_Search_isPassed prog_8_method_7_code 3 (some FieldType.boolean) ∈ BW := BW_tb 452 (by rfl) (by rfl)
set_option maxRecDepth 100000 in
theorem w_453 : Cond.methodLink "PlanRows$Search" 80 y_Doors_keyOf ∈ BW := BW_tb 453 (by rfl) (by rfl)
set_option maxRecDepth 100000 in
theorem w_454 : Cond.instanceMethod y_Doors_keyOf ∈ BW := BW_tb 454 (by rfl) (by rfl)
set_option maxRecDepth 100000 in
theorem w_455 : Cond.selects "PlanRows$Doors" y_Doors_keyOf y_Doors_keyOf ∈ BW := BW_tb 455 (by rfl) (by rfl)
set_option maxRecDepth 100000 in
theorem w_456 : Cond.code y_Doors_keyOf prog_4_method_7_code 2 (some FieldType.int) ∈ BW := BW_tb 456 (by rfl) (by rfl)
set_option maxRecDepth 100000 in
theorem w_457 : Cond.methodLink "PlanRows$Doors" 28 y_Doors_has ∈ BW := BW_tb 457 (by rfl) (by rfl)
set_option maxRecDepth 100000 in
theorem w_458 : Cond.instanceMethod y_Doors_has ∈ BW := BW_tb 458 (by rfl) (by rfl)
set_option maxRecDepth 100000 in
theorem w_459 : Cond.selects "PlanRows$Doors" y_Doors_has y_Doors_has ∈ BW := BW_tb 459 (by rfl) (by rfl)
set_option maxRecDepth 100000 in
theorem w_460 : Cond.code y_Doors_has prog_4_method_3_code 2 (some FieldType.boolean) ∈ BW := BW_tb 460 (by rfl) (by rfl)
set_option maxRecDepth 100000 in
theorem w_461 : Cond.methodLink "PlanRows$Search" 83 y_Keys_isAtHand ∈ BW := BW_tb 461 (by rfl) (by rfl)
set_option maxRecDepth 100000 in
theorem w_462 : Cond.methodLink "PlanRows$Search" 60 y_Doors_firstRoomOf ∈ BW := BW_tb 462 (by rfl) (by rfl)
set_option maxRecDepth 100000 in
theorem w_463 : Cond.instanceMethod y_Doors_firstRoomOf ∈ BW := BW_tb 463 (by rfl) (by rfl)
set_option maxRecDepth 100000 in
theorem w_464 : Cond.selects "PlanRows$Doors" y_Doors_firstRoomOf y_Doors_firstRoomOf ∈ BW := BW_tb 464 (by rfl) (by rfl)
set_option maxRecDepth 100000 in
theorem w_465 : Cond.code y_Doors_firstRoomOf prog_4_method_4_code 2 (some FieldType.int) ∈ BW := BW_tb 465 (by rfl) (by rfl)
set_option maxRecDepth 100000 in
theorem w_466 : Cond.methodLink "PlanRows$Search" 64 y_Doors_secondRoomOf ∈ BW := BW_tb 466 (by rfl) (by rfl)
set_option maxRecDepth 100000 in
theorem w_467 : Cond.instanceMethod y_Doors_secondRoomOf ∈ BW := BW_tb 467 (by rfl) (by rfl)
set_option maxRecDepth 100000 in
theorem w_468 : Cond.selects "PlanRows$Doors" y_Doors_secondRoomOf y_Doors_secondRoomOf ∈ BW := BW_tb 468 (by rfl) (by rfl)
set_option maxRecDepth 100000 in
theorem w_469 : Cond.code y_Doors_secondRoomOf prog_4_method_5_code 2 (some FieldType.int) ∈ BW := BW_tb 469 (by rfl) (by rfl)
set_option maxRecDepth 100000 in
theorem w_470 : Cond.methodLink "PlanRows$Search" 67 y_Doors_costOf ∈ BW := BW_tb 470 (by rfl) (by rfl)
set_option maxRecDepth 100000 in
theorem w_471 : Cond.instanceMethod y_Doors_costOf ∈ BW := BW_tb 471 (by rfl) (by rfl)
set_option maxRecDepth 100000 in
theorem w_472 : Cond.selects "PlanRows$Doors" y_Doors_costOf y_Doors_costOf ∈ BW := BW_tb 472 (by rfl) (by rfl)
set_option maxRecDepth 100000 in
theorem w_473 : Cond.code y_Doors_costOf prog_4_method_6_code 2 (some FieldType.int) ∈ BW := BW_tb 473 (by rfl) (by rfl)
set_option maxRecDepth 100000 in
theorem w_474 : Cond.methodLink "PlanRows$Search" 70 y_Search_lowerCost ∈ BW := BW_tb 474 (by rfl) (by rfl)
set_option maxRecDepth 100000 in
theorem w_476 : Cond.instanceMethod y_Search_lowerCost ∈ BW := BW_tb 476 (by rfl) (by rfl)
set_option maxRecDepth 100000 in
theorem w_477 : Cond.code y_Search_lowerCost prog_8_method_6_code 6 (some FieldType.boolean) ∈ BW := BW_tb 477 (by rfl) (by rfl)
set_option maxRecDepth 100000 in
theorem w_478 : Cond.methodLink "PlanRows$Search" 74 y_Search_isReached ∈ BW := BW_tb 478 (by rfl) (by rfl)
set_option maxRecDepth 100000 in
theorem w_480 : Cond.instanceMethod y_Search_isReached ∈ BW := BW_tb 480 (by rfl) (by rfl)
set_option maxRecDepth 100000 in
theorem w_481 : Cond.code y_Search_isReached prog_8_method_8_code 2 (some FieldType.boolean) ∈ BW := BW_tb 481 (by rfl) (by rfl)
set_option maxRecDepth 100000 in
theorem w_482 : Cond.methodLink "PlanRows$Search" 77 y_Rooms_hasHazardOf ∈ BW := BW_tb 482 (by rfl) (by rfl)
set_option maxRecDepth 100000 in
theorem w_483 : Cond.instanceMethod y_Rooms_hasHazardOf ∈ BW := BW_tb 483 (by rfl) (by rfl)
set_option maxRecDepth 100000 in
theorem w_484 : Cond.selects "PlanRows$Rooms" y_Rooms_hasHazardOf y_Rooms_hasHazardOf ∈ BW := BW_tb 484 (by rfl) (by rfl)
set_option maxRecDepth 100000 in
theorem w_485 : Cond.code y_Rooms_hasHazardOf prog_6_method_6_code 3 (some FieldType.boolean) ∈ BW := BW_tb 485 (by rfl) (by rfl)
set_option maxRecDepth 100000 in
theorem w_486 : Cond.methodLink "PlanRows" 136 y_Search_nearestOf ∈ BW := BW_tb 486 (by rfl) (by rfl)
set_option maxRecDepth 100000 in
theorem w_487 : Cond.instanceMethod y_Search_nearestOf ∈ BW := BW_tb 487 (by rfl) (by rfl)
set_option maxRecDepth 100000 in
theorem w_488 : Cond.selects "PlanRows$Search" y_Search_nearestOf y_Search_nearestOf ∈ BW := BW_tb 488 (by rfl) (by rfl)
set_option maxRecDepth 100000 in
theorem w_489 : Cond.code y_Search_nearestOf prog_8_method_9_code 5 (some FieldType.int) ∈ BW := BW_tb 489 (by rfl) (by rfl)
set_option maxRecDepth 100000 in
theorem w_490 : Cond.methodLink "PlanRows$Search" 44 y_Rooms_isOfKind ∈ BW := BW_tb 490 (by rfl) (by rfl)
set_option maxRecDepth 100000 in
theorem w_491 : Cond.instanceMethod y_Rooms_isOfKind ∈ BW := BW_tb 491 (by rfl) (by rfl)
set_option maxRecDepth 100000 in
theorem w_492 : Cond.selects "PlanRows$Rooms" y_Rooms_isOfKind y_Rooms_isOfKind ∈ BW := BW_tb 492 (by rfl) (by rfl)
set_option maxRecDepth 100000 in
theorem w_493 : Cond.code y_Rooms_isOfKind prog_6_method_5_code 3 (some FieldType.boolean) ∈ BW := BW_tb 493 (by rfl) (by rfl)
set_option maxRecDepth 100000 in
theorem w_494 : Cond.methodLink "PlanRows" 139 y_Search_tellWayTo ∈ BW := BW_tb 494 (by rfl) (by rfl)
set_option maxRecDepth 100000 in
theorem w_495 : Cond.instanceMethod y_Search_tellWayTo ∈ BW := BW_tb 495 (by rfl) (by rfl)
set_option maxRecDepth 100000 in
theorem w_496 : Cond.selects "PlanRows$Search" y_Search_tellWayTo y_Search_tellWayTo ∈ BW := BW_tb 496 (by rfl) (by rfl)
set_option maxRecDepth 100000 in
theorem w_497 : Cond.code y_Search_tellWayTo prog_8_method_12_code 6 none ∈ BW := BW_tb 497 (by rfl) (by rfl)
set_option maxRecDepth 100000 in
theorem w_498 : Cond.methodLink "PlanRows$Search" 89 y_Search_stairsTo ∈ BW := BW_tb 498 (by rfl) (by rfl)
set_option maxRecDepth 100000 in
theorem w_500 : Cond.instanceMethod y_Search_stairsTo ∈ BW := BW_tb 500 (by rfl) (by rfl)
set_option maxRecDepth 100000 in
theorem w_501 : Cond.code y_Search_stairsTo prog_8_method_11_code 2 (some FieldType.int) ∈ BW := BW_tb 501 (by rfl) (by rfl)
set_option maxRecDepth 100000 in
theorem w_502 : Cond.methodLink "PlanRows$Search" 92 y_Route_restart ∈ BW := BW_tb 502 (by rfl) (by rfl)
set_option maxRecDepth 100000 in
theorem w_503 : Cond.instanceMethod y_Route_restart ∈ BW := BW_tb 503 (by rfl) (by rfl)
set_option maxRecDepth 100000 in
theorem w_504 : Cond.selects "PlanRows$Route" y_Route_restart y_Route_restart ∈ BW := BW_tb 504 (by rfl) (by rfl)
set_option maxRecDepth 100000 in
theorem w_505 : Cond.code y_Route_restart prog_7_method_2_code 3 none ∈ BW := BW_tb 505 (by rfl) (by rfl)
set_option maxRecDepth 100000 in
theorem w_506 : Cond.methodLink "PlanRows$Search" 98 y_Search_lowestDoorInto ∈ BW := BW_tb 506 (by rfl) (by rfl)
set_option maxRecDepth 100000 in
theorem w_508 : Cond.instanceMethod y_Search_lowestDoorInto ∈ BW := BW_tb 508 (by rfl) (by rfl)
set_option maxRecDepth 100000 in
theorem w_509 : Cond.code y_Search_lowestDoorInto prog_8_method_13_code 4 (some FieldType.int) ∈ BW := BW_tb 509 (by rfl) (by rfl)
set_option maxRecDepth 100000 in
theorem w_510 : Cond.methodLink "PlanRows$Search" 104 y_Doors_roomBehind ∈ BW := BW_tb 510 (by rfl) (by rfl)
set_option maxRecDepth 100000 in
theorem w_511 : Cond.instanceMethod y_Doors_roomBehind ∈ BW := BW_tb 511 (by rfl) (by rfl)
set_option maxRecDepth 100000 in
theorem w_512 : Cond.selects "PlanRows$Doors" y_Doors_roomBehind y_Doors_roomBehind ∈ BW := BW_tb 512 (by rfl) (by rfl)
set_option maxRecDepth 100000 in
theorem w_513 : Cond.code y_Doors_roomBehind prog_4_method_8_code 3 (some FieldType.int) ∈ BW := BW_tb 513 (by rfl) (by rfl)
set_option maxRecDepth 100000 in
theorem w_514 : Cond.methodLink "PlanRows$Doors" 32 y_Doors_firstRoomOf ∈ BW := BW_tb 514 (by rfl) (by rfl)
set_option maxRecDepth 100000 in
theorem w_515 : Cond.methodLink "PlanRows$Doors" 36 y_Doors_secondRoomOf ∈ BW := BW_tb 515 (by rfl) (by rfl)
set_option maxRecDepth 100000 in
theorem w_516 : Cond.methodLink "PlanRows$Search" 101 y_Route_addBefore ∈ BW := BW_tb 516 (by rfl) (by rfl)
set_option maxRecDepth 100000 in
theorem w_517 : Cond.instanceMethod y_Route_addBefore ∈ BW := BW_tb 517 (by rfl) (by rfl)
set_option maxRecDepth 100000 in
theorem w_518 : Cond.selects "PlanRows$Route" y_Route_addBefore y_Route_addBefore ∈ BW := BW_tb 518 (by rfl) (by rfl)
set_option maxRecDepth 100000 in
theorem w_519 : Cond.code y_Route_addBefore prog_7_method_3_code 2 none ∈ BW := BW_tb 519 (by rfl) (by rfl)
set_option maxRecDepth 100000 in
theorem w_520 : Cond.methodLink "PlanRows" 143 y_Search_metresTo ∈ BW := BW_tb 520 (by rfl) (by rfl)
set_option maxRecDepth 100000 in
theorem w_521 : Cond.instanceMethod y_Search_metresTo ∈ BW := BW_tb 521 (by rfl) (by rfl)
set_option maxRecDepth 100000 in
theorem w_522 : Cond.selects "PlanRows$Search" y_Search_metresTo y_Search_metresTo ∈ BW := BW_tb 522 (by rfl) (by rfl)
set_option maxRecDepth 100000 in
theorem w_523 : Cond.code y_Search_metresTo prog_8_method_10_code 2 (some FieldType.int) ∈ BW := BW_tb 523 (by rfl) (by rfl)
set_option maxRecDepth 100000 in
theorem w_524 : Cond.methodLink "PlanRowsLaw" 116 y_Law_step ∈ BW := BW_tb 524 (by rfl) (by rfl)
set_option maxRecDepth 100000 in
theorem w_525 : Cond.static y_Law_step ∈ BW := BW_tb 525 (by rfl) (by rfl)
set_option maxRecDepth 100000 in
theorem w_526 : Cond.codeWith y_Law_step method_8_code 4 (some FieldType.int) [(0, 9, 12, 15)] ∈ BW := BW_tb 526 (by rfl) (by rfl)
set_option maxRecDepth 100000 in
theorem w_527 : Cond.methodLink "PlanRowsLaw" 37 y_Plan_step ∈ BW := BW_tb 527 (by rfl) (by rfl)
set_option maxRecDepth 100000 in
theorem w_528 : Cond.instanceMethod y_Plan_step ∈ BW := BW_tb 528 (by rfl) (by rfl)
set_option maxRecDepth 100000 in
theorem w_529 : Cond.selects "PlanRows" y_Plan_step y_Plan_step ∈ BW := BW_tb 529 (by rfl) (by rfl)
set_option maxRecDepth 100000 in
theorem w_530 : Cond.code y_Plan_step prog_1_method_7_code 2 (some FieldType.int) ∈ BW := BW_tb 530 (by rfl) (by rfl)
set_option maxRecDepth 100000 in
theorem w_531 : Cond.methodLink "PlanRows" 146 y_Plan_wantNotBelowZero ∈ BW := BW_tb 531 (by rfl) (by rfl)
set_option maxRecDepth 100000 in
theorem w_532 : Cond.static y_Plan_wantNotBelowZero ∈ BW := BW_tb 532 (by rfl) (by rfl)
set_option maxRecDepth 100000 in
theorem w_533 : Cond.code y_Plan_wantNotBelowZero prog_1_method_27_code 1 none ∈ BW := BW_tb 533 (by rfl) (by rfl)
set_option maxRecDepth 100000 in
theorem w_535 : Cond.methodLink "PlanRows" 149 y_Route_doorAt ∈ BW := BW_tb 535 (by rfl) (by rfl)
set_option maxRecDepth 100000 in
theorem w_536 : Cond.instanceMethod y_Route_doorAt ∈ BW := BW_tb 536 (by rfl) (by rfl)
set_option maxRecDepth 100000 in
theorem w_537 : Cond.selects "PlanRows$Route" y_Route_doorAt y_Route_doorAt ∈ BW := BW_tb 537 (by rfl) (by rfl)
set_option maxRecDepth 100000 in
theorem w_538 : Cond.code y_Route_doorAt prog_7_method_4_code 2 (some FieldType.int) ∈ BW := BW_tb 538 (by rfl) (by rfl)
set_option maxRecDepth 100000 in
theorem w_539 : Cond.methodLink "PlanRowsLaw" 120 y_Law_told ∈ BW := BW_tb 539 (by rfl) (by rfl)
set_option maxRecDepth 100000 in
theorem w_540 : Cond.static y_Law_told ∈ BW := BW_tb 540 (by rfl) (by rfl)
set_option maxRecDepth 100000 in
theorem w_541 : Cond.codeWith y_Law_told method_9_code 4 (some FieldType.int) [(0, 9, 12, 13)] ∈ BW := BW_tb 541 (by rfl) (by rfl)
set_option maxRecDepth 100000 in
theorem w_542 : Cond.methodLink "PlanRowsLaw" 41 y_Plan_told ∈ BW := BW_tb 542 (by rfl) (by rfl)
set_option maxRecDepth 100000 in
theorem w_543 : Cond.instanceMethod y_Plan_told ∈ BW := BW_tb 543 (by rfl) (by rfl)
set_option maxRecDepth 100000 in
theorem w_544 : Cond.selects "PlanRows" y_Plan_told y_Plan_told ∈ BW := BW_tb 544 (by rfl) (by rfl)
set_option maxRecDepth 100000 in
theorem w_545 : Cond.code y_Plan_told prog_1_method_8_code 2 (some FieldType.int) ∈ BW := BW_tb 545 (by rfl) (by rfl)
set_option maxRecDepth 100000 in
theorem w_547 : Cond.methodLink "PlanRowsLaw" 123 y_Law_hoses ∈ BW := BW_tb 547 (by rfl) (by rfl)
set_option maxRecDepth 100000 in
theorem w_548 : Cond.static y_Law_hoses ∈ BW := BW_tb 548 (by rfl) (by rfl)
set_option maxRecDepth 100000 in
theorem w_549 : Cond.codeWith y_Law_hoses method_10_code 5 (some FieldType.int) [(0, 10, 13, 13), (0, 10, 17, 15)] ∈ BW := BW_tb 549 (by rfl) (by rfl)
set_option maxRecDepth 100000 in
theorem w_550 : Cond.methodLink "PlanRowsLaw" 44 y_Plan_hoses ∈ BW := BW_tb 550 (by rfl) (by rfl)
set_option maxRecDepth 100000 in
theorem w_551 : Cond.instanceMethod y_Plan_hoses ∈ BW := BW_tb 551 (by rfl) (by rfl)
set_option maxRecDepth 100000 in
theorem w_552 : Cond.selects "PlanRows" y_Plan_hoses y_Plan_hoses ∈ BW := BW_tb 552 (by rfl) (by rfl)
set_option maxRecDepth 100000 in
theorem w_553 : Cond.code y_Plan_hoses prog_1_method_9_code 4 (some FieldType.int) ∈ BW := BW_tb 553 (by rfl) (by rfl)
set_option maxRecDepth 100000 in
theorem w_554 : Cond.methodLink "PlanRowsLaw" 126 y_Law_trapped ∈ BW := BW_tb 554 (by rfl) (by rfl)
set_option maxRecDepth 100000 in
theorem w_555 : Cond.static y_Law_trapped ∈ BW := BW_tb 555 (by rfl) (by rfl)
set_option maxRecDepth 100000 in
theorem w_556 : Cond.codeWith y_Law_trapped method_11_code 4 (some FieldType.int) [(0, 9, 12, 15)] ∈ BW := BW_tb 556 (by rfl) (by rfl)
set_option maxRecDepth 100000 in
theorem w_557 : Cond.methodLink "PlanRowsLaw" 47 y_Plan_trapped ∈ BW := BW_tb 557 (by rfl) (by rfl)
set_option maxRecDepth 100000 in
theorem w_558 : Cond.instanceMethod y_Plan_trapped ∈ BW := BW_tb 558 (by rfl) (by rfl)
set_option maxRecDepth 100000 in
theorem w_559 : Cond.selects "PlanRows" y_Plan_trapped y_Plan_trapped ∈ BW := BW_tb 559 (by rfl) (by rfl)
set_option maxRecDepth 100000 in
theorem w_560 : Cond.code y_Plan_trapped prog_1_method_10_code 2 (some FieldType.int) ∈ BW := BW_tb 560 (by rfl) (by rfl)
set_option maxRecDepth 100000 in
theorem w_561 : Cond.methodLink "PlanRows" 163 y_Search_spreadFromKind ∈ BW := BW_tb 561 (by rfl) (by rfl)
set_option maxRecDepth 100000 in
theorem w_562 : Cond.instanceMethod y_Search_spreadFromKind ∈ BW := BW_tb 562 (by rfl) (by rfl)
set_option maxRecDepth 100000 in
theorem w_563 : Cond.selects "PlanRows$Search" y_Search_spreadFromKind y_Search_spreadFromKind ∈ BW := BW_tb 563 (by rfl) (by rfl)
set_option maxRecDepth 100000 in
theorem w_564 : Cond.code y_Search_spreadFromKind prog_8_method_3_code 3 none ∈ BW := BW_tb 564 (by rfl) (by rfl)
set_option maxRecDepth 100000 in
theorem w_565 : Cond.methodLink "PlanRows" 166 y_Search_unreachedAt ∈ BW := BW_tb 565 (by rfl) (by rfl)
set_option maxRecDepth 100000 in
theorem w_566 : Cond.instanceMethod y_Search_unreachedAt ∈ BW := BW_tb 566 (by rfl) (by rfl)
set_option maxRecDepth 100000 in
theorem w_567 : Cond.selects "PlanRows$Search" y_Search_unreachedAt y_Search_unreachedAt ∈ BW := BW_tb 567 (by rfl) (by rfl)
set_option maxRecDepth 100000 in
theorem w_568 : Cond.code y_Search_unreachedAt prog_8_method_14_code 4 (some FieldType.int) ∈ BW := BW_tb 568 (by rfl) (by rfl)
set_option maxRecDepth 100000 in
theorem w_569 : Cond.methodLink "PlanRowsLaw" 129 y_Law_missing ∈ BW := BW_tb 569 (by rfl) (by rfl)
set_option maxRecDepth 100000 in
theorem w_570 : Cond.static y_Law_missing ∈ BW := BW_tb 570 (by rfl) (by rfl)
set_option maxRecDepth 100000 in
theorem w_571 : Cond.codeWith y_Law_missing method_12_code 4 (some FieldType.int) [(0, 9, 12, 15)] ∈ BW := BW_tb 571 (by rfl) (by rfl)
set_option maxRecDepth 100000 in
theorem w_572 : Cond.methodLink "PlanRowsLaw" 50 y_Plan_missing ∈ BW := BW_tb 572 (by rfl) (by rfl)
set_option maxRecDepth 100000 in
theorem w_573 : Cond.instanceMethod y_Plan_missing ∈ BW := BW_tb 573 (by rfl) (by rfl)
set_option maxRecDepth 100000 in
theorem w_574 : Cond.selects "PlanRows" y_Plan_missing y_Plan_missing ∈ BW := BW_tb 574 (by rfl) (by rfl)
set_option maxRecDepth 100000 in
theorem w_575 : Cond.code y_Plan_missing prog_1_method_11_code 4 (some FieldType.int) ∈ BW := BW_tb 575 (by rfl) (by rfl)
set_option maxRecDepth 100000 in
theorem w_576 : Cond.methodLink "PlanRows" 169 y_Doors_anyHasKey ∈ BW := BW_tb 576 (by rfl) (by rfl)
set_option maxRecDepth 100000 in
theorem w_577 : Cond.instanceMethod y_Doors_anyHasKey ∈ BW := BW_tb 577 (by rfl) (by rfl)
set_option maxRecDepth 100000 in
theorem w_578 : Cond.selects "PlanRows$Doors" y_Doors_anyHasKey y_Doors_anyHasKey ∈ BW := BW_tb 578 (by rfl) (by rfl)
set_option maxRecDepth 100000 in
theorem w_579 : Cond.code y_Doors_anyHasKey prog_4_method_9_code 3 (some FieldType.boolean) ∈ BW := BW_tb 579 (by rfl) (by rfl)
set_option maxRecDepth 100000 in
theorem w_580 : Cond.methodLink "PlanRowsLaw" 132 y_Law_detector ∈ BW := BW_tb 580 (by rfl) (by rfl)
set_option maxRecDepth 100000 in
theorem w_581 : Cond.static y_Law_detector ∈ BW := BW_tb 581 (by rfl) (by rfl)
set_option maxRecDepth 100000 in
theorem w_582 : Cond.codeWith y_Law_detector method_13_code 5 (some FieldType.int) [(0, 7, 10, 13), (0, 7, 14, 15), (0, 7, 18, 23), (0, 7, 22, 17)] ∈ BW := BW_tb 582 (by rfl) (by rfl)
set_option maxRecDepth 100000 in
theorem w_583 : Cond.methodLink "PlanRowsLaw" 53 y_Plan_detector ∈ BW := BW_tb 583 (by rfl) (by rfl)
set_option maxRecDepth 100000 in
theorem w_584 : Cond.instanceMethod y_Plan_detector ∈ BW := BW_tb 584 (by rfl) (by rfl)
set_option maxRecDepth 100000 in
theorem w_585 : Cond.selects "PlanRows" y_Plan_detector y_Plan_detector ∈ BW := BW_tb 585 (by rfl) (by rfl)
set_option maxRecDepth 100000 in
theorem w_586 : Cond.code y_Plan_detector prog_1_method_12_code 4 none ∈ BW := BW_tb 586 (by rfl) (by rfl)
set_option maxRecDepth 100000 in
theorem w_587 : Cond.methodLink "PlanRows" 172 y_Det_roomOf ∈ BW := BW_tb 587 (by rfl) (by rfl)
set_option maxRecDepth 100000 in
theorem w_588 : Cond.instanceMethod y_Det_roomOf ∈ BW := BW_tb 588 (by rfl) (by rfl)
set_option maxRecDepth 100000 in
theorem w_589 : Cond.selects "PlanRows$Detectors" y_Det_roomOf y_Det_roomOf ∈ BW := BW_tb 589 (by rfl) (by rfl)
set_option maxRecDepth 100000 in
theorem w_590 : Cond.code y_Det_roomOf prog_3_method_3_code 4 (some FieldType.int) ∈ BW := BW_tb 590 (by rfl) (by rfl)
set_option maxRecDepth 100000 in
theorem w_592 : Cond.methodLink "PlanRows" 177 y_Det_add ∈ BW := BW_tb 592 (by rfl) (by rfl)
set_option maxRecDepth 100000 in
theorem w_593 : Cond.instanceMethod y_Det_add ∈ BW := BW_tb 593 (by rfl) (by rfl)
set_option maxRecDepth 100000 in
theorem w_594 : Cond.selects "PlanRows$Detectors" y_Det_add y_Det_add ∈ BW := BW_tb 594 (by rfl) (by rfl)
set_option maxRecDepth 100000 in
theorem w_595 : Cond.code y_Det_add prog_3_method_2_code 4 (some FieldType.int) ∈ BW := BW_tb 595 (by rfl) (by rfl)
set_option maxRecDepth 100000 in
theorem w_596 : Cond.methodLink "PlanRowsLaw" 136 y_Law_alarm ∈ BW := BW_tb 596 (by rfl) (by rfl)
set_option maxRecDepth 100000 in
theorem w_597 : Cond.static y_Law_alarm ∈ BW := BW_tb 597 (by rfl) (by rfl)
set_option maxRecDepth 100000 in
theorem w_598 : Cond.codeWith y_Law_alarm method_14_code 5 (some FieldType.int) [(0, 10, 13, 15)] ∈ BW := BW_tb 598 (by rfl) (by rfl)
set_option maxRecDepth 100000 in
theorem w_599 : Cond.methodLink "PlanRowsLaw" 57 y_Plan_alarm ∈ BW := BW_tb 599 (by rfl) (by rfl)
set_option maxRecDepth 100000 in
theorem w_600 : Cond.instanceMethod y_Plan_alarm ∈ BW := BW_tb 600 (by rfl) (by rfl)
set_option maxRecDepth 100000 in
theorem w_601 : Cond.selects "PlanRows" y_Plan_alarm y_Plan_alarm ∈ BW := BW_tb 601 (by rfl) (by rfl)
set_option maxRecDepth 100000 in
theorem w_602 : Cond.code y_Plan_alarm prog_1_method_13_code 4 (some FieldType.int) ∈ BW := BW_tb 602 (by rfl) (by rfl)
set_option maxRecDepth 100000 in
theorem w_603 : Cond.methodLink "PlanRowsLaw" 139 y_Law_people ∈ BW := BW_tb 603 (by rfl) (by rfl)
set_option maxRecDepth 100000 in
theorem w_604 : Cond.static y_Law_people ∈ BW := BW_tb 604 (by rfl) (by rfl)
set_option maxRecDepth 100000 in
theorem w_605 : Cond.codeWith y_Law_people method_15_code 7 (some FieldType.int) [(0, 14, 17, 13), (0, 14, 21, 15), (0, 14, 25, 17)] ∈ BW := BW_tb 605 (by rfl) (by rfl)
set_option maxRecDepth 100000 in
theorem w_606 : Cond.methodLink "PlanRowsLaw" 60 y_Plan_people ∈ BW := BW_tb 606 (by rfl) (by rfl)
set_option maxRecDepth 100000 in
theorem w_607 : Cond.instanceMethod y_Plan_people ∈ BW := BW_tb 607 (by rfl) (by rfl)
set_option maxRecDepth 100000 in
theorem w_608 : Cond.selects "PlanRows" y_Plan_people y_Plan_people ∈ BW := BW_tb 608 (by rfl) (by rfl)
set_option maxRecDepth 100000 in
theorem w_609 : Cond.code y_Plan_people prog_1_method_14_code 5 (some FieldType.int) ∈ BW := BW_tb 609 (by rfl) (by rfl)
set_option maxRecDepth 100000 in
theorem w_610 : Cond.methodLink "PlanRows" 180 y_Crowd_add ∈ BW := BW_tb 610 (by rfl) (by rfl)
set_option maxRecDepth 100000 in
theorem w_611 : Cond.instanceMethod y_Crowd_add ∈ BW := BW_tb 611 (by rfl) (by rfl)
set_option maxRecDepth 100000 in
theorem w_612 : Cond.selects "PlanRows$Crowd" y_Crowd_add y_Crowd_add ∈ BW := BW_tb 612 (by rfl) (by rfl)
set_option maxRecDepth 100000 in
theorem w_613 : Cond.code y_Crowd_add prog_2_method_2_code 5 (some FieldType.int) ∈ BW := BW_tb 613 (by rfl) (by rfl)
set_option maxRecDepth 100000 in
theorem w_614 : Cond.methodLink "PlanRowsLaw" 142 y_Law_inside ∈ BW := BW_tb 614 (by rfl) (by rfl)
set_option maxRecDepth 100000 in
theorem w_615 : Cond.static y_Law_inside ∈ BW := BW_tb 615 (by rfl) (by rfl)
set_option maxRecDepth 100000 in
theorem w_616 : Cond.codeWith y_Law_inside method_16_code 5 (some FieldType.int) [(0, 10, 13, 13), (0, 10, 17, 15)] ∈ BW := BW_tb 616 (by rfl) (by rfl)
set_option maxRecDepth 100000 in
theorem w_617 : Cond.methodLink "PlanRowsLaw" 63 y_Plan_inside ∈ BW := BW_tb 617 (by rfl) (by rfl)
set_option maxRecDepth 100000 in
theorem w_618 : Cond.instanceMethod y_Plan_inside ∈ BW := BW_tb 618 (by rfl) (by rfl)
set_option maxRecDepth 100000 in
theorem w_619 : Cond.selects "PlanRows" y_Plan_inside y_Plan_inside ∈ BW := BW_tb 619 (by rfl) (by rfl)
set_option maxRecDepth 100000 in
theorem w_620 : Cond.code y_Plan_inside prog_1_method_15_code 3 (some FieldType.int) ∈ BW := BW_tb 620 (by rfl) (by rfl)
set_option maxRecDepth 100000 in
theorem w_622 : Cond.methodLink "PlanRows" 183 y_Crowd_sum ∈ BW := BW_tb 622 (by rfl) (by rfl)
set_option maxRecDepth 100000 in
theorem w_623 : Cond.instanceMethod y_Crowd_sum ∈ BW := BW_tb 623 (by rfl) (by rfl)
set_option maxRecDepth 100000 in
theorem w_624 : Cond.selects "PlanRows$Crowd" y_Crowd_sum y_Crowd_sum ∈ BW := BW_tb 624 (by rfl) (by rfl)
set_option maxRecDepth 100000 in
theorem w_625 : Cond.code y_Crowd_sum prog_2_method_3_code 6 (some FieldType.int) ∈ BW := BW_tb 625 (by rfl) (by rfl)
set_option maxRecDepth 100000 in
theorem w_626 : Cond.methodLink "PlanRows$Crowd" 28 y_Crowd_isBetween ∈ BW := BW_tb 626 (by rfl) (by rfl)
set_option maxRecDepth 100000 in
theorem w_627 : Cond.static y_Crowd_isBetween ∈ BW := BW_tb 627 (by rfl) (by rfl)
set_option maxRecDepth 100000 in
theorem w_628 : Cond.code y_Crowd_isBetween prog_2_method_4_code 4 (some FieldType.boolean) ∈ BW := BW_tb 628 (by rfl) (by rfl)
set_option maxRecDepth 100000 in
theorem w_629 : Cond.methodLink "PlanRowsLaw" 145 y_Law_window ∈ BW := BW_tb 629 (by rfl) (by rfl)
set_option maxRecDepth 100000 in
theorem w_630 : Cond.static y_Law_window ∈ BW := BW_tb 630 (by rfl) (by rfl)
set_option maxRecDepth 100000 in
theorem w_631 : Cond.codeWith y_Law_window method_17_code 7 (some FieldType.int) [(0, 14, 17, 13), (0, 14, 21, 15), (0, 14, 25, 17)] ∈ BW := BW_tb 631 (by rfl) (by rfl)
set_option maxRecDepth 100000 in
theorem w_632 : Cond.methodLink "PlanRowsLaw" 66 y_Plan_window ∈ BW := BW_tb 632 (by rfl) (by rfl)
set_option maxRecDepth 100000 in
theorem w_633 : Cond.instanceMethod y_Plan_window ∈ BW := BW_tb 633 (by rfl) (by rfl)
set_option maxRecDepth 100000 in
theorem w_634 : Cond.selects "PlanRows" y_Plan_window y_Plan_window ∈ BW := BW_tb 634 (by rfl) (by rfl)
set_option maxRecDepth 100000 in
theorem w_635 : Cond.code y_Plan_window prog_1_method_16_code 5 (some FieldType.int) ∈ BW := BW_tb 635 (by rfl) (by rfl)
set_option maxRecDepth 100000 in
theorem w_636 : Cond.methodLink "PlanRows" 186 y_Plan_wantPoint ∈ BW := BW_tb 636 (by rfl) (by rfl)
set_option maxRecDepth 100000 in
theorem w_637 : Cond.static y_Plan_wantPoint ∈ BW := BW_tb 637 (by rfl) (by rfl)
set_option maxRecDepth 100000 in
theorem w_638 : Cond.code y_Plan_wantPoint prog_1_method_25_code 3 none ∈ BW := BW_tb 638 (by rfl) (by rfl)
set_option maxRecDepth 100000 in
theorem w_639 : Cond.constant "PlanRows" 219 (-200000) ∈ BW := BW_tb 639 (by rfl) (by rfl)
set_option maxRecDepth 100000 in
theorem w_640 : Cond.constant "PlanRows" 193 200000 ∈ BW := BW_tb 640 (by rfl) (by rfl)
set_option maxRecDepth 100000 in
theorem w_641 : Cond.methodLink "PlanRows" 189 y_Win_add ∈ BW := BW_tb 641 (by rfl) (by rfl)
set_option maxRecDepth 100000 in
theorem w_642 : Cond.instanceMethod y_Win_add ∈ BW := BW_tb 642 (by rfl) (by rfl)
set_option maxRecDepth 100000 in
theorem w_643 : Cond.selects "PlanRows$Windows" y_Win_add y_Win_add ∈ BW := BW_tb 643 (by rfl) (by rfl)
set_option maxRecDepth 100000 in
theorem w_644 : Cond.code y_Win_add prog_9_method_2_code 4 (some FieldType.int) ∈ BW := BW_tb 644 (by rfl) (by rfl)
set_option maxRecDepth 100000 in
theorem w_645 : Cond.methodLink "PlanRowsLaw" 148 y_Law_reaches ∈ BW := BW_tb 645 (by rfl) (by rfl)
set_option maxRecDepth 100000 in
theorem w_646 : Cond.static y_Law_reaches ∈ BW := BW_tb 646 (by rfl) (by rfl)
set_option maxRecDepth 100000 in
theorem w_647 : Cond.codeWith y_Law_reaches method_18_code 8 (some FieldType.int) [(0, 23, 26, 13), (0, 23, 30, 15)] ∈ BW := BW_tb 647 (by rfl) (by rfl)
set_option maxRecDepth 100000 in
theorem w_648 : Cond.methodLink "PlanRowsLaw" 69 y_Plan_reaches ∈ BW := BW_tb 648 (by rfl) (by rfl)
set_option maxRecDepth 100000 in
theorem w_649 : Cond.instanceMethod y_Plan_reaches ∈ BW := BW_tb 649 (by rfl) (by rfl)
set_option maxRecDepth 100000 in
theorem w_650 : Cond.selects "PlanRows" y_Plan_reaches y_Plan_reaches ∈ BW := BW_tb 650 (by rfl) (by rfl)
set_option maxRecDepth 100000 in
theorem w_651 : Cond.code y_Plan_reaches prog_1_method_17_code 6 (some FieldType.boolean) ∈ BW := BW_tb 651 (by rfl) (by rfl)
set_option maxRecDepth 100000 in
theorem w_652 : Cond.methodLink "PlanRows" 190 y_Plan_wantWindow ∈ BW := BW_tb 652 (by rfl) (by rfl)
set_option maxRecDepth 100000 in
theorem w_654 : Cond.instanceMethod y_Plan_wantWindow ∈ BW := BW_tb 654 (by rfl) (by rfl)
set_option maxRecDepth 100000 in
theorem w_655 : Cond.code y_Plan_wantWindow prog_1_method_23_code 2 none ∈ BW := BW_tb 655 (by rfl) (by rfl)
set_option maxRecDepth 100000 in
theorem w_656 : Cond.methodLink "PlanRows" 214 y_Win_has ∈ BW := BW_tb 656 (by rfl) (by rfl)
set_option maxRecDepth 100000 in
theorem w_657 : Cond.instanceMethod y_Win_has ∈ BW := BW_tb 657 (by rfl) (by rfl)
set_option maxRecDepth 100000 in
theorem w_658 : Cond.selects "PlanRows$Windows" y_Win_has y_Win_has ∈ BW := BW_tb 658 (by rfl) (by rfl)
set_option maxRecDepth 100000 in
theorem w_659 : Cond.code y_Win_has prog_9_method_3_code 2 (some FieldType.boolean) ∈ BW := BW_tb 659 (by rfl) (by rfl)
set_option maxRecDepth 100000 in
theorem w_661 : Cond.methodLink "PlanRows" 194 y_Win_isReached ∈ BW := BW_tb 661 (by rfl) (by rfl)
set_option maxRecDepth 100000 in
theorem w_662 : Cond.instanceMethod y_Win_isReached ∈ BW := BW_tb 662 (by rfl) (by rfl)
set_option maxRecDepth 100000 in
theorem w_663 : Cond.selects "PlanRows$Windows" y_Win_isReached y_Win_isReached ∈ BW := BW_tb 663 (by rfl) (by rfl)
set_option maxRecDepth 100000 in
theorem w_664 : Cond.code y_Win_isReached prog_9_method_4_code 12 (some FieldType.boolean) ∈ BW := BW_tb 664 (by rfl) (by rfl)
set_option maxRecDepth 100000 in
theorem w_665 : Cond.methodLink "PlanRows$Windows" 25 y_Win_has ∈ BW := BW_tb 665 (by rfl) (by rfl)
set_option maxRecDepth 100000 in
theorem w_666 : Cond.methodLink "PlanRowsLaw" 152 y_Law_ladder ∈ BW := BW_tb 666 (by rfl) (by rfl)
set_option maxRecDepth 100000 in
theorem w_667 : Cond.static y_Law_ladder ∈ BW := BW_tb 667 (by rfl) (by rfl)
set_option maxRecDepth 100000 in
theorem w_668 : Cond.codeWith y_Law_ladder method_19_code 7 (some FieldType.int) [(0, 14, 17, 13), (0, 14, 21, 15)] ∈ BW := BW_tb 668 (by rfl) (by rfl)
set_option maxRecDepth 100000 in
theorem w_669 : Cond.methodLink "PlanRowsLaw" 73 y_Plan_ladder ∈ BW := BW_tb 669 (by rfl) (by rfl)
set_option maxRecDepth 100000 in
theorem w_670 : Cond.instanceMethod y_Plan_ladder ∈ BW := BW_tb 670 (by rfl) (by rfl)
set_option maxRecDepth 100000 in
theorem w_671 : Cond.selects "PlanRows" y_Plan_ladder y_Plan_ladder ∈ BW := BW_tb 671 (by rfl) (by rfl)
set_option maxRecDepth 100000 in
theorem w_672 : Cond.code y_Plan_ladder prog_1_method_18_code 5 (some FieldType.int) ∈ BW := BW_tb 672 (by rfl) (by rfl)
set_option maxRecDepth 100000 in
theorem w_673 : Cond.methodLink "PlanRows" 198 y_Win_leastLength ∈ BW := BW_tb 673 (by rfl) (by rfl)
set_option maxRecDepth 100000 in
theorem w_674 : Cond.instanceMethod y_Win_leastLength ∈ BW := BW_tb 674 (by rfl) (by rfl)
set_option maxRecDepth 100000 in
theorem w_675 : Cond.selects "PlanRows$Windows" y_Win_leastLength y_Win_leastLength ∈ BW := BW_tb 675 (by rfl) (by rfl)
set_option maxRecDepth 100000 in
theorem w_676 : Cond.code y_Win_leastLength prog_9_method_5_code 7 (some FieldType.int) ∈ BW := BW_tb 676 (by rfl) (by rfl)
set_option maxRecDepth 100000 in
theorem w_677 : Cond.constant "PlanRows$Windows" 29 200000 ∈ BW := BW_tb 677 (by rfl) (by rfl)
set_option maxRecDepth 100000 in
theorem w_678 : Cond.methodLink "PlanRows$Windows" 30 y_Win_isReached ∈ BW := BW_tb 678 (by rfl) (by rfl)
set_option maxRecDepth 100000 in
theorem w_679 : Cond.constant "PlanRows$Windows" 34 131072 ∈ BW := BW_tb 679 (by rfl) (by rfl)
set_option maxRecDepth 100000 in
theorem w_680 : Cond.methodLink "PlanRowsLaw" 155 y_Law_look ∈ BW := BW_tb 680 (by rfl) (by rfl)
set_option maxRecDepth 100000 in
theorem w_681 : Cond.static y_Law_look ∈ BW := BW_tb 681 (by rfl) (by rfl)
set_option maxRecDepth 100000 in
theorem w_682 : Cond.codeWith y_Law_look method_20_code 4 (some FieldType.int) [(0, 6, 9, 15)] ∈ BW := BW_tb 682 (by rfl) (by rfl)
set_option maxRecDepth 100000 in
theorem w_683 : Cond.methodLink "PlanRowsLaw" 76 y_Plan_look ∈ BW := BW_tb 683 (by rfl) (by rfl)
set_option maxRecDepth 100000 in
theorem w_684 : Cond.instanceMethod y_Plan_look ∈ BW := BW_tb 684 (by rfl) (by rfl)
set_option maxRecDepth 100000 in
theorem w_685 : Cond.selects "PlanRows" y_Plan_look y_Plan_look ∈ BW := BW_tb 685 (by rfl) (by rfl)
set_option maxRecDepth 100000 in
theorem w_686 : Cond.code y_Plan_look prog_1_method_19_code 3 none ∈ BW := BW_tb 686 (by rfl) (by rfl)
set_option maxRecDepth 100000 in
theorem w_687 : Cond.constant "PlanRows" 201 99999 ∈ BW := BW_tb 687 (by rfl) (by rfl)
set_option maxRecDepth 100000 in
theorem w_688 : Cond.methodLink "PlanRowsLaw" 158 y_Law_old ∈ BW := BW_tb 688 (by rfl) (by rfl)
set_option maxRecDepth 100000 in
theorem w_689 : Cond.static y_Law_old ∈ BW := BW_tb 689 (by rfl) (by rfl)
set_option maxRecDepth 100000 in
theorem w_690 : Cond.codeWith y_Law_old method_21_code 4 (some FieldType.int) [(0, 16, 19, 15)] ∈ BW := BW_tb 690 (by rfl) (by rfl)
set_option maxRecDepth 100000 in
theorem w_691 : Cond.methodLink "PlanRowsLaw" 79 y_Plan_old ∈ BW := BW_tb 691 (by rfl) (by rfl)
set_option maxRecDepth 100000 in
theorem w_692 : Cond.instanceMethod y_Plan_old ∈ BW := BW_tb 692 (by rfl) (by rfl)
set_option maxRecDepth 100000 in
theorem w_693 : Cond.selects "PlanRows" y_Plan_old y_Plan_old ∈ BW := BW_tb 693 (by rfl) (by rfl)
set_option maxRecDepth 100000 in
theorem w_694 : Cond.code y_Plan_old prog_1_method_20_code 2 (some FieldType.boolean) ∈ BW := BW_tb 694 (by rfl) (by rfl)
set_option maxRecDepth 100000 in
theorem w_695 : Cond.methodLink "PlanRowsLaw" 161 y_Law_count ∈ BW := BW_tb 695 (by rfl) (by rfl)
set_option maxRecDepth 100000 in
theorem w_696 : Cond.static y_Law_count ∈ BW := BW_tb 696 (by rfl) (by rfl)
set_option maxRecDepth 100000 in
theorem w_697 : Cond.codeWith y_Law_count method_22_code 4 (some FieldType.int) [(0, 9, 12, 13)] ∈ BW := BW_tb 697 (by rfl) (by rfl)
set_option maxRecDepth 100000 in
theorem w_698 : Cond.methodLink "PlanRowsLaw" 83 y_Plan_count ∈ BW := BW_tb 698 (by rfl) (by rfl)
set_option maxRecDepth 100000 in
theorem w_699 : Cond.instanceMethod y_Plan_count ∈ BW := BW_tb 699 (by rfl) (by rfl)
set_option maxRecDepth 100000 in
theorem w_700 : Cond.selects "PlanRows" y_Plan_count y_Plan_count ∈ BW := BW_tb 700 (by rfl) (by rfl)
set_option maxRecDepth 100000 in
theorem w_701 : Cond.code y_Plan_count prog_1_method_21_code 2 (some FieldType.int) ∈ BW := BW_tb 701 (by rfl) (by rfl)
set_option maxRecDepth 100000 in
theorem w_703 : Cond.classLink "PlanRowsLaw" 87 "PlanRowsModel" ∈ BW := BW_tb 703 (by rfl) (by rfl)
set_option maxRecDepth 100000 in
theorem w_704 : Cond.instantiable "PlanRowsModel" 31 ∈ BW := BW_tb 704 (by rfl) (by rfl)
set_option maxRecDepth 100000 in
theorem w_705 : Cond.methodLink "PlanRowsLaw" 89 y_Mod_init ∈ BW := BW_tb 705 (by rfl) (by rfl)
set_option maxRecDepth 100000 in
theorem w_706 : Cond.instanceMethod y_Mod_init ∈ BW := BW_tb 706 (by rfl) (by rfl)
set_option maxRecDepth 100000 in
theorem w_707 : Cond.code y_Mod_init prog_11_method_1_code 1 none ∈ BW := BW_tb 707 (by rfl) (by rfl)
set_option maxRecDepth 100000 in
theorem w_708 : Cond.methodLink "PlanRowsModel" 1 ⟨"java/lang/Object", "<init>", "()V"⟩ ∈ BW := BW_tb 708 (by rfl) (by rfl)
set_option maxRecDepth 100000 in
theorem w_709 : Cond.fieldLink "PlanRowsModel" 78 "PlanRowsModel" "thrown" "I" ∈ BW := BW_tb 709 (by rfl) (by rfl)
set_option maxRecDepth 100000 in
theorem w_710 : Cond.fieldLink "PlanRowsModel" 81 "PlanRowsModel" "rooms" "I" ∈ BW := BW_tb 710 (by rfl) (by rfl)
set_option maxRecDepth 100000 in
theorem w_711 : Cond.fieldLink "PlanRowsModel" 7 "PlanRowsModel" "floor" "[I" ∈ BW := BW_tb 711 (by rfl) (by rfl)
set_option maxRecDepth 100000 in
theorem w_712 : Cond.fieldLink "PlanRowsModel" 13 "PlanRowsModel" "kind" "[I" ∈ BW := BW_tb 712 (by rfl) (by rfl)
set_option maxRecDepth 100000 in
theorem w_713 : Cond.fieldLink "PlanRowsModel" 16 "PlanRowsModel" "hazard" "[I" ∈ BW := BW_tb 713 (by rfl) (by rfl)
set_option maxRecDepth 100000 in
theorem w_714 : Cond.fieldLink "PlanRowsModel" 96 "PlanRowsModel" "doors" "I" ∈ BW := BW_tb 714 (by rfl) (by rfl)
set_option maxRecDepth 100000 in
theorem w_715 : Cond.fieldLink "PlanRowsModel" 19 "PlanRowsModel" "from" "[I" ∈ BW := BW_tb 715 (by rfl) (by rfl)
set_option maxRecDepth 100000 in
theorem w_716 : Cond.fieldLink "PlanRowsModel" 22 "PlanRowsModel" "to" "[I" ∈ BW := BW_tb 716 (by rfl) (by rfl)
set_option maxRecDepth 100000 in
theorem w_717 : Cond.fieldLink "PlanRowsModel" 25 "PlanRowsModel" "metres" "[I" ∈ BW := BW_tb 717 (by rfl) (by rfl)
set_option maxRecDepth 100000 in
theorem w_718 : Cond.fieldLink "PlanRowsModel" 28 "PlanRowsModel" "lock" "[I" ∈ BW := BW_tb 718 (by rfl) (by rfl)
set_option maxRecDepth 100000 in
theorem w_719 : Cond.fieldLink "PlanRowsModel" 31 "PlanRowsModel" "hand" "[Z" ∈ BW := BW_tb 719 (by rfl) (by rfl)
set_option maxRecDepth 100000 in
theorem w_720 : Cond.fieldLink "PlanRowsModel" 35 "PlanRowsModel" "least" "[I" ∈ BW := BW_tb 720 (by rfl) (by rfl)
set_option maxRecDepth 100000 in
theorem w_721 : Cond.fieldLink "PlanRowsModel" 38 "PlanRowsModel" "way" "[I" ∈ BW := BW_tb 721 (by rfl) (by rfl)
set_option maxRecDepth 100000 in
theorem w_722 : Cond.fieldLink "PlanRowsModel" 114 "PlanRowsModel" "steps" "I" ∈ BW := BW_tb 722 (by rfl) (by rfl)
set_option maxRecDepth 100000 in
theorem w_723 : Cond.fieldLink "PlanRowsModel" 117 "PlanRowsModel" "stairs" "I" ∈ BW := BW_tb 723 (by rfl) (by rfl)
set_option maxRecDepth 100000 in
theorem w_724 : Cond.fieldLink "PlanRowsModel" 41 "PlanRowsModel" "end" "I" ∈ BW := BW_tb 724 (by rfl) (by rfl)
set_option maxRecDepth 100000 in
theorem w_725 : Cond.fieldLink "PlanRowsModel" 123 "PlanRowsModel" "detectors" "I" ∈ BW := BW_tb 725 (by rfl) (by rfl)
set_option maxRecDepth 100000 in
theorem w_726 : Cond.fieldLink "PlanRowsModel" 45 "PlanRowsModel" "loop" "[I" ∈ BW := BW_tb 726 (by rfl) (by rfl)
set_option maxRecDepth 100000 in
theorem w_727 : Cond.fieldLink "PlanRowsModel" 48 "PlanRowsModel" "number" "[I" ∈ BW := BW_tb 727 (by rfl) (by rfl)
set_option maxRecDepth 100000 in
theorem w_728 : Cond.fieldLink "PlanRowsModel" 51 "PlanRowsModel" "watched" "[I" ∈ BW := BW_tb 728 (by rfl) (by rfl)
set_option maxRecDepth 100000 in
theorem w_729 : Cond.fieldLink "PlanRowsModel" 137 "PlanRowsModel" "rows" "I" ∈ BW := BW_tb 729 (by rfl) (by rfl)
set_option maxRecDepth 100000 in
theorem w_730 : Cond.fieldLink "PlanRowsModel" 54 "PlanRowsModel" "rowRoom" "[I" ∈ BW := BW_tb 730 (by rfl) (by rfl)
set_option maxRecDepth 100000 in
theorem w_731 : Cond.fieldLink "PlanRowsModel" 57 "PlanRowsModel" "rowFrom" "[I" ∈ BW := BW_tb 731 (by rfl) (by rfl)
set_option maxRecDepth 100000 in
theorem w_732 : Cond.fieldLink "PlanRowsModel" 60 "PlanRowsModel" "rowTo" "[I" ∈ BW := BW_tb 732 (by rfl) (by rfl)
set_option maxRecDepth 100000 in
theorem w_733 : Cond.fieldLink "PlanRowsModel" 63 "PlanRowsModel" "rowMany" "[I" ∈ BW := BW_tb 733 (by rfl) (by rfl)
set_option maxRecDepth 100000 in
theorem w_734 : Cond.fieldLink "PlanRowsModel" 145 "PlanRowsModel" "windows" "I" ∈ BW := BW_tb 734 (by rfl) (by rfl)
set_option maxRecDepth 100000 in
theorem w_735 : Cond.fieldLink "PlanRowsModel" 66 "PlanRowsModel" "windowX" "[I" ∈ BW := BW_tb 735 (by rfl) (by rfl)
set_option maxRecDepth 100000 in
theorem w_736 : Cond.fieldLink "PlanRowsModel" 69 "PlanRowsModel" "windowY" "[I" ∈ BW := BW_tb 736 (by rfl) (by rfl)
set_option maxRecDepth 100000 in
theorem w_737 : Cond.fieldLink "PlanRowsModel" 72 "PlanRowsModel" "windowZ" "[I" ∈ BW := BW_tb 737 (by rfl) (by rfl)
set_option maxRecDepth 100000 in
theorem w_738 : Cond.fieldLink "PlanRowsModel" 155 "PlanRowsModel" "looked" "I" ∈ BW := BW_tb 738 (by rfl) (by rfl)
set_option maxRecDepth 100000 in
theorem w_739 : Cond.fieldLink "PlanRowsModel" 75 "PlanRowsModel" "term" "I" ∈ BW := BW_tb 739 (by rfl) (by rfl)
set_option maxRecDepth 100000 in
theorem w_740 : Cond.lays "PlanRowsModel" "PlanRowsModel" "thrown" "I" ∈ BW := BW_tb 740 (by rfl) (by rfl)
set_option maxRecDepth 100000 in
theorem w_742 : Cond.lays "PlanRowsModel" "PlanRowsModel" "rooms" "I" ∈ BW := BW_tb 742 (by rfl) (by rfl)
set_option maxRecDepth 100000 in
theorem w_744 : Cond.laysFinal "PlanRowsModel" "PlanRowsModel" "floor" "[I" ∈ BW := BW_tb 744 (by rfl) (by rfl)
set_option maxRecDepth 100000 in
theorem w_746 : Cond.laysFinal "PlanRowsModel" "PlanRowsModel" "kind" "[I" ∈ BW := BW_tb 746 (by rfl) (by rfl)
set_option maxRecDepth 100000 in
theorem w_748 : Cond.laysFinal "PlanRowsModel" "PlanRowsModel" "hazard" "[I" ∈ BW := BW_tb 748 (by rfl) (by rfl)
set_option maxRecDepth 100000 in
theorem w_750 : Cond.lays "PlanRowsModel" "PlanRowsModel" "doors" "I" ∈ BW := BW_tb 750 (by rfl) (by rfl)
set_option maxRecDepth 100000 in
theorem w_752 : Cond.laysFinal "PlanRowsModel" "PlanRowsModel" "from" "[I" ∈ BW := BW_tb 752 (by rfl) (by rfl)
set_option maxRecDepth 100000 in
theorem w_754 : Cond.laysFinal "PlanRowsModel" "PlanRowsModel" "to" "[I" ∈ BW := BW_tb 754 (by rfl) (by rfl)
set_option maxRecDepth 100000 in
theorem w_756 : Cond.laysFinal "PlanRowsModel" "PlanRowsModel" "metres" "[I" ∈ BW := BW_tb 756 (by rfl) (by rfl)
set_option maxRecDepth 100000 in
theorem w_758 : Cond.laysFinal "PlanRowsModel" "PlanRowsModel" "lock" "[I" ∈ BW := BW_tb 758 (by rfl) (by rfl)
set_option maxRecDepth 100000 in
theorem w_760 : Cond.laysFinal "PlanRowsModel" "PlanRowsModel" "hand" "[Z" ∈ BW := BW_tb 760 (by rfl) (by rfl)
set_option maxRecDepth 100000 in
theorem w_762 : Cond.laysFinal "PlanRowsModel" "PlanRowsModel" "least" "[I" ∈ BW := BW_tb 762 (by rfl) (by rfl)
set_option maxRecDepth 100000 in
theorem w_764 : Cond.laysFinal "PlanRowsModel" "PlanRowsModel" "way" "[I" ∈ BW := BW_tb 764 (by rfl) (by rfl)
set_option maxRecDepth 100000 in
theorem w_766 : Cond.lays "PlanRowsModel" "PlanRowsModel" "steps" "I" ∈ BW := BW_tb 766 (by rfl) (by rfl)
set_option maxRecDepth 100000 in
theorem w_768 : Cond.lays "PlanRowsModel" "PlanRowsModel" "stairs" "I" ∈ BW := BW_tb 768 (by rfl) (by rfl)
set_option maxRecDepth 100000 in
theorem w_770 : Cond.lays "PlanRowsModel" "PlanRowsModel" "end" "I" ∈ BW := BW_tb 770 (by rfl) (by rfl)
set_option maxRecDepth 100000 in
theorem w_772 : Cond.lays "PlanRowsModel" "PlanRowsModel" "detectors" "I" ∈ BW := BW_tb 772 (by rfl) (by rfl)
set_option maxRecDepth 100000 in
theorem w_774 : Cond.laysFinal "PlanRowsModel" "PlanRowsModel" "loop" "[I" ∈ BW := BW_tb 774 (by rfl) (by rfl)
set_option maxRecDepth 100000 in
theorem w_776 : Cond.laysFinal "PlanRowsModel" "PlanRowsModel" "number" "[I" ∈ BW := BW_tb 776 (by rfl) (by rfl)
set_option maxRecDepth 100000 in
theorem w_778 : Cond.laysFinal "PlanRowsModel" "PlanRowsModel" "watched" "[I" ∈ BW := BW_tb 778 (by rfl) (by rfl)
set_option maxRecDepth 100000 in
theorem w_780 : Cond.lays "PlanRowsModel" "PlanRowsModel" "rows" "I" ∈ BW := BW_tb 780 (by rfl) (by rfl)
set_option maxRecDepth 100000 in
theorem w_782 : Cond.laysFinal "PlanRowsModel" "PlanRowsModel" "rowRoom" "[I" ∈ BW := BW_tb 782 (by rfl) (by rfl)
set_option maxRecDepth 100000 in
theorem w_784 : Cond.laysFinal "PlanRowsModel" "PlanRowsModel" "rowFrom" "[I" ∈ BW := BW_tb 784 (by rfl) (by rfl)
set_option maxRecDepth 100000 in
theorem w_786 : Cond.laysFinal "PlanRowsModel" "PlanRowsModel" "rowTo" "[I" ∈ BW := BW_tb 786 (by rfl) (by rfl)
set_option maxRecDepth 100000 in
theorem w_788 : Cond.laysFinal "PlanRowsModel" "PlanRowsModel" "rowMany" "[I" ∈ BW := BW_tb 788 (by rfl) (by rfl)
set_option maxRecDepth 100000 in
theorem w_790 : Cond.lays "PlanRowsModel" "PlanRowsModel" "windows" "I" ∈ BW := BW_tb 790 (by rfl) (by rfl)
set_option maxRecDepth 100000 in
theorem w_792 : Cond.laysFinal "PlanRowsModel" "PlanRowsModel" "windowX" "[I" ∈ BW := BW_tb 792 (by rfl) (by rfl)
set_option maxRecDepth 100000 in
theorem w_794 : Cond.laysFinal "PlanRowsModel" "PlanRowsModel" "windowY" "[I" ∈ BW := BW_tb 794 (by rfl) (by rfl)
set_option maxRecDepth 100000 in
theorem w_796 : Cond.laysFinal "PlanRowsModel" "PlanRowsModel" "windowZ" "[I" ∈ BW := BW_tb 796 (by rfl) (by rfl)
set_option maxRecDepth 100000 in
theorem w_798 : Cond.lays "PlanRowsModel" "PlanRowsModel" "looked" "I" ∈ BW := BW_tb 798 (by rfl) (by rfl)
set_option maxRecDepth 100000 in
theorem w_800 : Cond.lays "PlanRowsModel" "PlanRowsModel" "term" "I" ∈ BW := BW_tb 800 (by rfl) (by rfl)
set_option maxRecDepth 100000 in
theorem w_802 : Cond.superclass "PlanRowsModel" "java/lang/Object" ∈ BW := BW_tb 802 (by rfl) (by rfl)
set_option maxRecDepth 100000 in
theorem w_803 : Cond.methodLink "PlanRowsLaw" 96 y_Mod_thrown ∈ BW := BW_tb 803 (by rfl) (by rfl)
set_option maxRecDepth 100000 in
theorem w_804 : Cond.instanceMethod y_Mod_thrown ∈ BW := BW_tb 804 (by rfl) (by rfl)
set_option maxRecDepth 100000 in
theorem w_805 : Cond.selects "PlanRowsModel" y_Mod_thrown y_Mod_thrown ∈ BW := BW_tb 805 (by rfl) (by rfl)
set_option maxRecDepth 100000 in
theorem w_806 : Cond.code y_Mod_thrown prog_11_method_2_code 1 (some FieldType.int) ∈ BW := BW_tb 806 (by rfl) (by rfl)
set_option maxRecDepth 100000 in
theorem w_807 : Cond.methodLink "PlanRowsLaw" 95 y_Mod_room ∈ BW := BW_tb 807 (by rfl) (by rfl)
set_option maxRecDepth 100000 in
theorem w_808 : Cond.instanceMethod y_Mod_room ∈ BW := BW_tb 808 (by rfl) (by rfl)
set_option maxRecDepth 100000 in
theorem w_809 : Cond.selects "PlanRowsModel" y_Mod_room y_Mod_room ∈ BW := BW_tb 809 (by rfl) (by rfl)
set_option maxRecDepth 100000 in
theorem w_810 : Cond.code y_Mod_room prog_11_method_6_code 3 (some FieldType.int) ∈ BW := BW_tb 810 (by rfl) (by rfl)
set_option maxRecDepth 100000 in
theorem w_811 : Cond.methodLink "PlanRowsModel" 84 y_Mod_in ∈ BW := BW_tb 811 (by rfl) (by rfl)
set_option maxRecDepth 100000 in
theorem w_812 : Cond.static y_Mod_in ∈ BW := BW_tb 812 (by rfl) (by rfl)
set_option maxRecDepth 100000 in
theorem w_813 : Cond.code y_Mod_in prog_11_method_4_code 3 (some FieldType.boolean) ∈ BW := BW_tb 813 (by rfl) (by rfl)
set_option maxRecDepth 100000 in
theorem w_814 : Cond.methodLink "PlanRowsModel" 88 y_Mod_throwing ∈ BW := BW_tb 814 (by rfl) (by rfl)
set_option maxRecDepth 100000 in
theorem w_816 : Cond.instanceMethod y_Mod_throwing ∈ BW := BW_tb 816 (by rfl) (by rfl)
set_option maxRecDepth 100000 in
theorem w_817 : Cond.code y_Mod_throwing prog_11_method_3_code 5 (some FieldType.boolean) ∈ BW := BW_tb 817 (by rfl) (by rfl)
set_option maxRecDepth 100000 in
theorem w_818 : Cond.methodLink "PlanRowsLaw" 103 y_Mod_door ∈ BW := BW_tb 818 (by rfl) (by rfl)
set_option maxRecDepth 100000 in
theorem w_819 : Cond.instanceMethod y_Mod_door ∈ BW := BW_tb 819 (by rfl) (by rfl)
set_option maxRecDepth 100000 in
theorem w_820 : Cond.selects "PlanRowsModel" y_Mod_door y_Mod_door ∈ BW := BW_tb 820 (by rfl) (by rfl)
set_option maxRecDepth 100000 in
theorem w_821 : Cond.code y_Mod_door prog_11_method_7_code 8 (some FieldType.int) ∈ BW := BW_tb 821 (by rfl) (by rfl)
set_option maxRecDepth 100000 in
theorem w_822 : Cond.methodLink "PlanRowsModel" 92 y_Mod_isRoom ∈ BW := BW_tb 822 (by rfl) (by rfl)
set_option maxRecDepth 100000 in
theorem w_824 : Cond.instanceMethod y_Mod_isRoom ∈ BW := BW_tb 824 (by rfl) (by rfl)
set_option maxRecDepth 100000 in
theorem w_825 : Cond.code y_Mod_isRoom prog_11_method_5_code 2 (some FieldType.boolean) ∈ BW := BW_tb 825 (by rfl) (by rfl)
set_option maxRecDepth 100000 in
theorem w_826 : Cond.methodLink "PlanRowsLaw" 107 y_Mod_key ∈ BW := BW_tb 826 (by rfl) (by rfl)
set_option maxRecDepth 100000 in
theorem w_827 : Cond.instanceMethod y_Mod_key ∈ BW := BW_tb 827 (by rfl) (by rfl)
set_option maxRecDepth 100000 in
theorem w_828 : Cond.selects "PlanRowsModel" y_Mod_key y_Mod_key ∈ BW := BW_tb 828 (by rfl) (by rfl)
set_option maxRecDepth 100000 in
theorem w_829 : Cond.code y_Mod_key prog_11_method_8_code 4 none ∈ BW := BW_tb 829 (by rfl) (by rfl)
set_option maxRecDepth 100000 in
theorem w_830 : Cond.methodLink "PlanRowsLaw" 111 y_Mod_hazard ∈ BW := BW_tb 830 (by rfl) (by rfl)
set_option maxRecDepth 100000 in
theorem w_831 : Cond.instanceMethod y_Mod_hazard ∈ BW := BW_tb 831 (by rfl) (by rfl)
set_option maxRecDepth 100000 in
theorem w_832 : Cond.selects "PlanRowsModel" y_Mod_hazard y_Mod_hazard ∈ BW := BW_tb 832 (by rfl) (by rfl)
set_option maxRecDepth 100000 in
theorem w_833 : Cond.code y_Mod_hazard prog_11_method_9_code 3 none ∈ BW := BW_tb 833 (by rfl) (by rfl)
set_option maxRecDepth 100000 in
theorem w_834 : Cond.methodLink "PlanRowsLaw" 115 y_Mod_way ∈ BW := BW_tb 834 (by rfl) (by rfl)
set_option maxRecDepth 100000 in
theorem w_835 : Cond.instanceMethod y_Mod_way ∈ BW := BW_tb 835 (by rfl) (by rfl)
set_option maxRecDepth 100000 in
theorem w_836 : Cond.selects "PlanRowsModel" y_Mod_way y_Mod_way ∈ BW := BW_tb 836 (by rfl) (by rfl)
set_option maxRecDepth 100000 in
theorem w_837 : Cond.code y_Mod_way prog_11_method_15_code 6 (some FieldType.int) ∈ BW := BW_tb 837 (by rfl) (by rfl)
set_option maxRecDepth 100000 in
theorem w_838 : Cond.methodLink "PlanRowsModel" 107 y_Mod_reckon ∈ BW := BW_tb 838 (by rfl) (by rfl)
set_option maxRecDepth 100000 in
theorem w_840 : Cond.instanceMethod y_Mod_reckon ∈ BW := BW_tb 840 (by rfl) (by rfl)
set_option maxRecDepth 100000 in
theorem w_841 : Cond.code y_Mod_reckon prog_11_method_12_code 8 none ∈ BW := BW_tb 841 (by rfl) (by rfl)
set_option maxRecDepth 100000 in
theorem w_842 : Cond.constant "PlanRowsModel" 99 100000000 ∈ BW := BW_tb 842 (by rfl) (by rfl)
set_option maxRecDepth 100000 in
theorem w_843 : Cond.methodLink "PlanRowsModel" 100 y_Mod_isPassed ∈ BW := BW_tb 843 (by rfl) (by rfl)
set_option maxRecDepth 100000 in
theorem w_845 : Cond.instanceMethod y_Mod_isPassed ∈ BW := BW_tb 845 (by rfl) (by rfl)
set_option maxRecDepth 100000 in
theorem w_846 : Cond.code y_Mod_isPassed prog_11_method_10_code 2 (some FieldType.boolean) ∈ BW := BW_tb 846 (by rfl) (by rfl)
set_option maxRecDepth 100000 in
theorem w_847 : Cond.methodLink "PlanRowsModel" 103 y_Mod_costOf ∈ BW := BW_tb 847 (by rfl) (by rfl)
set_option maxRecDepth 100000 in
theorem w_849 : Cond.instanceMethod y_Mod_costOf ∈ BW := BW_tb 849 (by rfl) (by rfl)
set_option maxRecDepth 100000 in
theorem w_850 : Cond.code y_Mod_costOf prog_11_method_11_code 2 (some FieldType.int) ∈ BW := BW_tb 850 (by rfl) (by rfl)
set_option maxRecDepth 100000 in
theorem w_851 : Cond.methodLink "PlanRowsModel" 111 y_Mod_nearest ∈ BW := BW_tb 851 (by rfl) (by rfl)
set_option maxRecDepth 100000 in
theorem w_853 : Cond.instanceMethod y_Mod_nearest ∈ BW := BW_tb 853 (by rfl) (by rfl)
set_option maxRecDepth 100000 in
theorem w_854 : Cond.code y_Mod_nearest prog_11_method_13_code 4 (some FieldType.int) ∈ BW := BW_tb 854 (by rfl) (by rfl)
set_option maxRecDepth 100000 in
theorem w_855 : Cond.methodLink "PlanRowsModel" 120 y_Mod_into ∈ BW := BW_tb 855 (by rfl) (by rfl)
set_option maxRecDepth 100000 in
theorem w_857 : Cond.instanceMethod y_Mod_into ∈ BW := BW_tb 857 (by rfl) (by rfl)
set_option maxRecDepth 100000 in
theorem w_858 : Cond.code y_Mod_into prog_11_method_14_code 4 (some FieldType.int) ∈ BW := BW_tb 858 (by rfl) (by rfl)
set_option maxRecDepth 100000 in
theorem w_859 : Cond.methodLink "PlanRowsLaw" 119 y_Mod_step ∈ BW := BW_tb 859 (by rfl) (by rfl)
set_option maxRecDepth 100000 in
theorem w_860 : Cond.instanceMethod y_Mod_step ∈ BW := BW_tb 860 (by rfl) (by rfl)
set_option maxRecDepth 100000 in
theorem w_861 : Cond.selects "PlanRowsModel" y_Mod_step y_Mod_step ∈ BW := BW_tb 861 (by rfl) (by rfl)
set_option maxRecDepth 100000 in
theorem w_862 : Cond.code y_Mod_step prog_11_method_16_code 2 (some FieldType.int) ∈ BW := BW_tb 862 (by rfl) (by rfl)
set_option maxRecDepth 100000 in
theorem w_863 : Cond.methodLink "PlanRowsLaw" 122 y_Mod_told ∈ BW := BW_tb 863 (by rfl) (by rfl)
set_option maxRecDepth 100000 in
theorem w_864 : Cond.instanceMethod y_Mod_told ∈ BW := BW_tb 864 (by rfl) (by rfl)
set_option maxRecDepth 100000 in
theorem w_865 : Cond.selects "PlanRowsModel" y_Mod_told y_Mod_told ∈ BW := BW_tb 865 (by rfl) (by rfl)
set_option maxRecDepth 100000 in
theorem w_866 : Cond.code y_Mod_told prog_11_method_17_code 2 (some FieldType.int) ∈ BW := BW_tb 866 (by rfl) (by rfl)
set_option maxRecDepth 100000 in
theorem w_867 : Cond.methodLink "PlanRowsLaw" 125 y_Mod_hoses ∈ BW := BW_tb 867 (by rfl) (by rfl)
set_option maxRecDepth 100000 in
theorem w_868 : Cond.instanceMethod y_Mod_hoses ∈ BW := BW_tb 868 (by rfl) (by rfl)
set_option maxRecDepth 100000 in
theorem w_869 : Cond.selects "PlanRowsModel" y_Mod_hoses y_Mod_hoses ∈ BW := BW_tb 869 (by rfl) (by rfl)
set_option maxRecDepth 100000 in
theorem w_870 : Cond.code y_Mod_hoses prog_11_method_18_code 4 (some FieldType.int) ∈ BW := BW_tb 870 (by rfl) (by rfl)
set_option maxRecDepth 100000 in
theorem w_871 : Cond.methodLink "PlanRowsLaw" 128 y_Mod_trapped ∈ BW := BW_tb 871 (by rfl) (by rfl)
set_option maxRecDepth 100000 in
theorem w_872 : Cond.instanceMethod y_Mod_trapped ∈ BW := BW_tb 872 (by rfl) (by rfl)
set_option maxRecDepth 100000 in
theorem w_873 : Cond.selects "PlanRowsModel" y_Mod_trapped y_Mod_trapped ∈ BW := BW_tb 873 (by rfl) (by rfl)
set_option maxRecDepth 100000 in
theorem w_874 : Cond.code y_Mod_trapped prog_11_method_19_code 4 (some FieldType.int) ∈ BW := BW_tb 874 (by rfl) (by rfl)
set_option maxRecDepth 100000 in
theorem w_875 : Cond.methodLink "PlanRowsLaw" 131 y_Mod_missing ∈ BW := BW_tb 875 (by rfl) (by rfl)
set_option maxRecDepth 100000 in
theorem w_876 : Cond.instanceMethod y_Mod_missing ∈ BW := BW_tb 876 (by rfl) (by rfl)
set_option maxRecDepth 100000 in
theorem w_877 : Cond.selects "PlanRowsModel" y_Mod_missing y_Mod_missing ∈ BW := BW_tb 877 (by rfl) (by rfl)
set_option maxRecDepth 100000 in
theorem w_878 : Cond.code y_Mod_missing prog_11_method_20_code 6 (some FieldType.int) ∈ BW := BW_tb 878 (by rfl) (by rfl)
set_option maxRecDepth 100000 in
theorem w_879 : Cond.methodLink "PlanRowsLaw" 135 y_Mod_detector ∈ BW := BW_tb 879 (by rfl) (by rfl)
set_option maxRecDepth 100000 in
theorem w_880 : Cond.instanceMethod y_Mod_detector ∈ BW := BW_tb 880 (by rfl) (by rfl)
set_option maxRecDepth 100000 in
theorem w_881 : Cond.selects "PlanRowsModel" y_Mod_detector y_Mod_detector ∈ BW := BW_tb 881 (by rfl) (by rfl)
set_option maxRecDepth 100000 in
theorem w_882 : Cond.code y_Mod_detector prog_11_method_23_code 4 none ∈ BW := BW_tb 882 (by rfl) (by rfl)
set_option maxRecDepth 100000 in
theorem w_883 : Cond.methodLink "PlanRowsModel" 126 y_Mod_isDetector ∈ BW := BW_tb 883 (by rfl) (by rfl)
set_option maxRecDepth 100000 in
theorem w_884 : Cond.static y_Mod_isDetector ∈ BW := BW_tb 884 (by rfl) (by rfl)
set_option maxRecDepth 100000 in
theorem w_885 : Cond.code y_Mod_isDetector prog_11_method_22_code 2 (some FieldType.boolean) ∈ BW := BW_tb 885 (by rfl) (by rfl)
set_option maxRecDepth 100000 in
theorem w_886 : Cond.methodLink "PlanRowsModel" 130 y_Mod_detectorOf ∈ BW := BW_tb 886 (by rfl) (by rfl)
set_option maxRecDepth 100000 in
theorem w_888 : Cond.instanceMethod y_Mod_detectorOf ∈ BW := BW_tb 888 (by rfl) (by rfl)
set_option maxRecDepth 100000 in
theorem w_889 : Cond.code y_Mod_detectorOf prog_11_method_21_code 5 (some FieldType.int) ∈ BW := BW_tb 889 (by rfl) (by rfl)
set_option maxRecDepth 100000 in
theorem w_890 : Cond.methodLink "PlanRowsLaw" 138 y_Mod_alarm ∈ BW := BW_tb 890 (by rfl) (by rfl)
set_option maxRecDepth 100000 in
theorem w_891 : Cond.instanceMethod y_Mod_alarm ∈ BW := BW_tb 891 (by rfl) (by rfl)
set_option maxRecDepth 100000 in
theorem w_892 : Cond.selects "PlanRowsModel" y_Mod_alarm y_Mod_alarm ∈ BW := BW_tb 892 (by rfl) (by rfl)
set_option maxRecDepth 100000 in
theorem w_893 : Cond.code y_Mod_alarm prog_11_method_24_code 4 (some FieldType.int) ∈ BW := BW_tb 893 (by rfl) (by rfl)
set_option maxRecDepth 100000 in
theorem w_894 : Cond.methodLink "PlanRowsLaw" 141 y_Mod_people ∈ BW := BW_tb 894 (by rfl) (by rfl)
set_option maxRecDepth 100000 in
theorem w_895 : Cond.instanceMethod y_Mod_people ∈ BW := BW_tb 895 (by rfl) (by rfl)
set_option maxRecDepth 100000 in
theorem w_896 : Cond.selects "PlanRowsModel" y_Mod_people y_Mod_people ∈ BW := BW_tb 896 (by rfl) (by rfl)
set_option maxRecDepth 100000 in
theorem w_897 : Cond.code y_Mod_people prog_11_method_26_code 5 (some FieldType.int) ∈ BW := BW_tb 897 (by rfl) (by rfl)
set_option maxRecDepth 100000 in
theorem w_898 : Cond.methodLink "PlanRowsModel" 134 y_Mod_isHour ∈ BW := BW_tb 898 (by rfl) (by rfl)
set_option maxRecDepth 100000 in
theorem w_899 : Cond.static y_Mod_isHour ∈ BW := BW_tb 899 (by rfl) (by rfl)
set_option maxRecDepth 100000 in
theorem w_900 : Cond.code y_Mod_isHour prog_11_method_25_code 1 (some FieldType.boolean) ∈ BW := BW_tb 900 (by rfl) (by rfl)
set_option maxRecDepth 100000 in
theorem w_901 : Cond.methodLink "PlanRowsLaw" 144 y_Mod_inside ∈ BW := BW_tb 901 (by rfl) (by rfl)
set_option maxRecDepth 100000 in
theorem w_902 : Cond.instanceMethod y_Mod_inside ∈ BW := BW_tb 902 (by rfl) (by rfl)
set_option maxRecDepth 100000 in
theorem w_903 : Cond.selects "PlanRowsModel" y_Mod_inside y_Mod_inside ∈ BW := BW_tb 903 (by rfl) (by rfl)
set_option maxRecDepth 100000 in
theorem w_904 : Cond.code y_Mod_inside prog_11_method_27_code 8 (some FieldType.int) ∈ BW := BW_tb 904 (by rfl) (by rfl)
set_option maxRecDepth 100000 in
theorem w_905 : Cond.methodLink "PlanRowsLaw" 147 y_Mod_window ∈ BW := BW_tb 905 (by rfl) (by rfl)
set_option maxRecDepth 100000 in
theorem w_906 : Cond.instanceMethod y_Mod_window ∈ BW := BW_tb 906 (by rfl) (by rfl)
set_option maxRecDepth 100000 in
theorem w_907 : Cond.selects "PlanRowsModel" y_Mod_window y_Mod_window ∈ BW := BW_tb 907 (by rfl) (by rfl)
set_option maxRecDepth 100000 in
theorem w_908 : Cond.code y_Mod_window prog_11_method_29_code 5 (some FieldType.int) ∈ BW := BW_tb 908 (by rfl) (by rfl)
set_option maxRecDepth 100000 in
theorem w_909 : Cond.methodLink "PlanRowsModel" 142 y_Mod_isPoint ∈ BW := BW_tb 909 (by rfl) (by rfl)
set_option maxRecDepth 100000 in
theorem w_910 : Cond.static y_Mod_isPoint ∈ BW := BW_tb 910 (by rfl) (by rfl)
set_option maxRecDepth 100000 in
theorem w_911 : Cond.code y_Mod_isPoint prog_11_method_28_code 3 (some FieldType.boolean) ∈ BW := BW_tb 911 (by rfl) (by rfl)
set_option maxRecDepth 100000 in
theorem w_912 : Cond.constant "PlanRowsModel" 140 (-200000) ∈ BW := BW_tb 912 (by rfl) (by rfl)
set_option maxRecDepth 100000 in
theorem w_913 : Cond.constant "PlanRowsModel" 141 200000 ∈ BW := BW_tb 913 (by rfl) (by rfl)
set_option maxRecDepth 100000 in
theorem w_914 : Cond.methodLink "PlanRowsLaw" 151 y_Mod_reaches ∈ BW := BW_tb 914 (by rfl) (by rfl)
set_option maxRecDepth 100000 in
theorem w_915 : Cond.instanceMethod y_Mod_reaches ∈ BW := BW_tb 915 (by rfl) (by rfl)
set_option maxRecDepth 100000 in
theorem w_916 : Cond.selects "PlanRowsModel" y_Mod_reaches y_Mod_reaches ∈ BW := BW_tb 916 (by rfl) (by rfl)
set_option maxRecDepth 100000 in
theorem w_917 : Cond.code y_Mod_reaches prog_11_method_31_code 7 (some FieldType.boolean) ∈ BW := BW_tb 917 (by rfl) (by rfl)
set_option maxRecDepth 100000 in
theorem w_918 : Cond.methodLink "PlanRowsModel" 148 y_Mod_squareTo ∈ BW := BW_tb 918 (by rfl) (by rfl)
set_option maxRecDepth 100000 in
theorem w_920 : Cond.instanceMethod y_Mod_squareTo ∈ BW := BW_tb 920 (by rfl) (by rfl)
set_option maxRecDepth 100000 in
theorem w_921 : Cond.code y_Mod_squareTo prog_11_method_30_code 11 (some FieldType.long) ∈ BW := BW_tb 921 (by rfl) (by rfl)
set_option maxRecDepth 100000 in
theorem w_922 : Cond.methodLink "PlanRowsLaw" 154 y_Mod_ladder ∈ BW := BW_tb 922 (by rfl) (by rfl)
set_option maxRecDepth 100000 in
theorem w_923 : Cond.instanceMethod y_Mod_ladder ∈ BW := BW_tb 923 (by rfl) (by rfl)
set_option maxRecDepth 100000 in
theorem w_924 : Cond.selects "PlanRowsModel" y_Mod_ladder y_Mod_ladder ∈ BW := BW_tb 924 (by rfl) (by rfl)
set_option maxRecDepth 100000 in
theorem w_925 : Cond.code y_Mod_ladder prog_11_method_32_code 11 (some FieldType.int) ∈ BW := BW_tb 925 (by rfl) (by rfl)
set_option maxRecDepth 100000 in
theorem w_926 : Cond.constantLong "PlanRowsModel" 152 40000000000 ∈ BW := BW_tb 926 (by rfl) (by rfl)
set_option maxRecDepth 100000 in
theorem w_927 : Cond.methodLink "PlanRowsLaw" 157 y_Mod_look ∈ BW := BW_tb 927 (by rfl) (by rfl)
set_option maxRecDepth 100000 in
theorem w_928 : Cond.instanceMethod y_Mod_look ∈ BW := BW_tb 928 (by rfl) (by rfl)
set_option maxRecDepth 100000 in
theorem w_929 : Cond.selects "PlanRowsModel" y_Mod_look y_Mod_look ∈ BW := BW_tb 929 (by rfl) (by rfl)
set_option maxRecDepth 100000 in
theorem w_930 : Cond.code y_Mod_look prog_11_method_33_code 4 none ∈ BW := BW_tb 930 (by rfl) (by rfl)
set_option maxRecDepth 100000 in
theorem w_931 : Cond.constant "PlanRowsModel" 154 99999 ∈ BW := BW_tb 931 (by rfl) (by rfl)
set_option maxRecDepth 100000 in
theorem w_932 : Cond.methodLink "PlanRowsLaw" 160 y_Mod_old ∈ BW := BW_tb 932 (by rfl) (by rfl)
set_option maxRecDepth 100000 in
theorem w_933 : Cond.instanceMethod y_Mod_old ∈ BW := BW_tb 933 (by rfl) (by rfl)
set_option maxRecDepth 100000 in
theorem w_934 : Cond.selects "PlanRowsModel" y_Mod_old y_Mod_old ∈ BW := BW_tb 934 (by rfl) (by rfl)
set_option maxRecDepth 100000 in
theorem w_935 : Cond.code y_Mod_old prog_11_method_34_code 2 (some FieldType.boolean) ∈ BW := BW_tb 935 (by rfl) (by rfl)
set_option maxRecDepth 100000 in
theorem w_936 : Cond.methodLink "PlanRowsLaw" 163 y_Mod_count ∈ BW := BW_tb 936 (by rfl) (by rfl)
set_option maxRecDepth 100000 in
theorem w_937 : Cond.instanceMethod y_Mod_count ∈ BW := BW_tb 937 (by rfl) (by rfl)
set_option maxRecDepth 100000 in
theorem w_938 : Cond.selects "PlanRowsModel" y_Mod_count y_Mod_count ∈ BW := BW_tb 938 (by rfl) (by rfl)
set_option maxRecDepth 100000 in
theorem w_939 : Cond.code y_Mod_count prog_11_method_35_code 4 (some FieldType.int) ∈ BW := BW_tb 939 (by rfl) (by rfl)
set_option maxRecDepth 100000 in
theorem w_940 : Cond.arrayClass FieldType.long ∈ BW := BW_tb 940 (by rfl) (by rfl)
theorem ws_Plan_wantRoom : Cond.selects "PlanRows" y_Plan_wantRoom y_Plan_wantRoom ∈ BW := BW_sel 1 (by rfl) (by rfl)
theorem ws_Search_spread : Cond.selects "PlanRows$Search" y_Search_spread y_Search_spread ∈ BW := BW_sel 2 (by rfl) (by rfl)
theorem ws_Search_spreadOverAllDoors : Cond.selects "PlanRows$Search" y_Search_spreadOverAllDoors y_Search_spreadOverAllDoors ∈ BW := BW_sel 3 (by rfl) (by rfl)
theorem ws_Search_isPassed : Cond.selects "PlanRows$Search" y_Search_isPassed y_Search_isPassed ∈ BW := BW_sel 4 (by rfl) (by rfl)
theorem ws_Search_lowerCost : Cond.selects "PlanRows$Search" y_Search_lowerCost y_Search_lowerCost ∈ BW := BW_sel 5 (by rfl) (by rfl)
theorem ws_Search_isReached : Cond.selects "PlanRows$Search" y_Search_isReached y_Search_isReached ∈ BW := BW_sel 6 (by rfl) (by rfl)
theorem ws_Search_stairsTo : Cond.selects "PlanRows$Search" y_Search_stairsTo y_Search_stairsTo ∈ BW := BW_sel 7 (by rfl) (by rfl)
theorem ws_Search_lowestDoorInto : Cond.selects "PlanRows$Search" y_Search_lowestDoorInto y_Search_lowestDoorInto ∈ BW := BW_sel 8 (by rfl) (by rfl)
theorem ws_Plan_wantWindow : Cond.selects "PlanRows" y_Plan_wantWindow y_Plan_wantWindow ∈ BW := BW_sel 9 (by rfl) (by rfl)
theorem ws_Mod_throwing : Cond.selects "PlanRowsModel" y_Mod_throwing y_Mod_throwing ∈ BW := BW_sel 10 (by rfl) (by rfl)
theorem ws_Mod_isRoom : Cond.selects "PlanRowsModel" y_Mod_isRoom y_Mod_isRoom ∈ BW := BW_sel 11 (by rfl) (by rfl)
theorem ws_Mod_reckon : Cond.selects "PlanRowsModel" y_Mod_reckon y_Mod_reckon ∈ BW := BW_sel 12 (by rfl) (by rfl)
theorem ws_Mod_isPassed : Cond.selects "PlanRowsModel" y_Mod_isPassed y_Mod_isPassed ∈ BW := BW_sel 13 (by rfl) (by rfl)
theorem ws_Mod_costOf : Cond.selects "PlanRowsModel" y_Mod_costOf y_Mod_costOf ∈ BW := BW_sel 14 (by rfl) (by rfl)
theorem ws_Mod_nearest : Cond.selects "PlanRowsModel" y_Mod_nearest y_Mod_nearest ∈ BW := BW_sel 15 (by rfl) (by rfl)
theorem ws_Mod_into : Cond.selects "PlanRowsModel" y_Mod_into y_Mod_into ∈ BW := BW_sel 16 (by rfl) (by rfl)
theorem ws_Mod_detectorOf : Cond.selects "PlanRowsModel" y_Mod_detectorOf y_Mod_detectorOf ∈ BW := BW_sel 17 (by rfl) (by rfl)
theorem ws_Mod_squareTo : Cond.selects "PlanRowsModel" y_Mod_squareTo y_Mod_squareTo ∈ BW := BW_sel 18 (by rfl) (by rfl)
theorem in_Crowd : ∀ w ∈ u_ws R_Crowd F_Crowd 5, w ∈ BW := by
  intro w hw
  obtain ⟨k, hk, rfl⟩ := List.mem_map.mp hw
  have hk := List.mem_range.mp hk
  match k, hk with
  | 0, _ => exact w_161
  | 1, _ => exact w_163
  | 2, _ => exact w_165
  | 3, _ => exact w_167
  | 4, _ => exact w_169
  | k + 5, hk => exact absurd hk (by omega)
theorem in_Det : ∀ w ∈ u_ws R_Det F_Det 4, w ∈ BW := by
  intro w hw
  obtain ⟨k, hk, rfl⟩ := List.mem_map.mp hw
  have hk := List.mem_range.mp hk
  match k, hk with
  | 0, _ => exact w_141
  | 1, _ => exact w_143
  | 2, _ => exact w_145
  | 3, _ => exact w_147
  | k + 4, hk => exact absurd hk (by omega)
theorem in_Doors : ∀ w ∈ u_ws R_Doors F_Doors 5, w ∈ BW := by
  intro w hw
  obtain ⟨k, hk, rfl⟩ := List.mem_map.mp hw
  have hk := List.mem_range.mp hk
  match k, hk with
  | 0, _ => exact w_63
  | 1, _ => exact w_65
  | 2, _ => exact w_67
  | 3, _ => exact w_69
  | 4, _ => exact w_71
  | k + 5, hk => exact absurd hk (by omega)
theorem in_Keys : ∀ w ∈ u_ws R_Keys F_Keys 2, w ∈ BW := by
  intro w hw
  obtain ⟨k, hk, rfl⟩ := List.mem_map.mp hw
  have hk := List.mem_range.mp hk
  match k, hk with
  | 0, _ => exact w_83
  | 1, _ => exact w_85
  | k + 2, hk => exact absurd hk (by omega)
theorem in_Rooms : ∀ w ∈ u_ws R_Rooms F_Rooms 4, w ∈ BW := by
  intro w hw
  obtain ⟨k, hk, rfl⟩ := List.mem_map.mp hw
  have hk := List.mem_range.mp hk
  match k, hk with
  | 0, _ => exact w_40
  | 1, _ => exact w_42
  | 2, _ => exact w_44
  | 3, _ => exact w_46
  | k + 4, hk => exact absurd hk (by omega)
theorem in_Route : ∀ w ∈ u_ws R_Route F_Route 4, w ∈ BW := by
  intro w hw
  obtain ⟨k, hk, rfl⟩ := List.mem_map.mp hw
  have hk := List.mem_range.mp hk
  match k, hk with
  | 0, _ => exact w_121
  | 1, _ => exact w_123
  | 2, _ => exact w_125
  | 3, _ => exact w_127
  | k + 4, hk => exact absurd hk (by omega)
theorem in_Search : ∀ w ∈ u_ws R_Search F_Search 4, w ∈ BW := by
  intro w hw
  obtain ⟨k, hk, rfl⟩ := List.mem_map.mp hw
  have hk := List.mem_range.mp hk
  match k, hk with
  | 0, _ => exact w_99
  | 1, _ => exact w_101
  | 2, _ => exact w_103
  | 3, _ => exact w_105
  | k + 4, hk => exact absurd hk (by omega)
theorem in_Win : ∀ w ∈ u_ws R_Win F_Win 4, w ∈ BW := by
  intro w hw
  obtain ⟨k, hk, rfl⟩ := List.mem_map.mp hw
  have hk := List.mem_range.mp hk
  match k, hk with
  | 0, _ => exact w_183
  | 1, _ => exact w_185
  | 2, _ => exact w_187
  | 3, _ => exact w_189
  | k + 4, hk => exact absurd hk (by omega)
theorem in_Plan : ∀ w ∈ u_ws R_Plan F_Plan 10, w ∈ BW := by
  intro w hw
  obtain ⟨k, hk, rfl⟩ := List.mem_map.mp hw
  have hk := List.mem_range.mp hk
  match k, hk with
  | 0, _ => exact w_202
  | 1, _ => exact w_204
  | 2, _ => exact w_206
  | 3, _ => exact w_208
  | 4, _ => exact w_210
  | 5, _ => exact w_212
  | 6, _ => exact w_214
  | 7, _ => exact w_216
  | 8, _ => exact w_218
  | 9, _ => exact w_220
  | k + 10, hk => exact absurd hk (by omega)
theorem in_Mod : ∀ w ∈ u_ws R_Mod F_Mod 31, w ∈ BW := by
  intro w hw
  obtain ⟨k, hk, rfl⟩ := List.mem_map.mp hw
  have hk := List.mem_range.mp hk
  match k, hk with
  | 0, _ => exact w_740
  | 1, _ => exact w_742
  | 2, _ => exact w_744
  | 3, _ => exact w_746
  | 4, _ => exact w_748
  | 5, _ => exact w_750
  | 6, _ => exact w_752
  | 7, _ => exact w_754
  | 8, _ => exact w_756
  | 9, _ => exact w_758
  | 10, _ => exact w_760
  | 11, _ => exact w_762
  | 12, _ => exact w_764
  | 13, _ => exact w_766
  | 14, _ => exact w_768
  | 15, _ => exact w_770
  | 16, _ => exact w_772
  | 17, _ => exact w_774
  | 18, _ => exact w_776
  | 19, _ => exact w_778
  | 20, _ => exact w_780
  | 21, _ => exact w_782
  | 22, _ => exact w_784
  | 23, _ => exact w_786
  | 24, _ => exact w_788
  | 25, _ => exact w_790
  | 26, _ => exact w_792
  | 27, _ => exact w_794
  | 28, _ => exact w_796
  | 29, _ => exact w_798
  | 30, _ => exact w_800
  | k + 31, hk => exact absurd hk (by omega)
