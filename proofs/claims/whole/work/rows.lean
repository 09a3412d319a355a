section
-- ===== PART A: goes FIRST, ahead of the names: the tables' words, and 'selects' of the private methods out of them =====
/-- a private method of a class that the tables say can be made, by its rows of tables_1 -/
def lw_okq (q : MethodName × Nat) : Prop := (q.1.cls ≠ "java/lang/invoke/MethodHandle" ∧ q.1.cls ≠ "java/lang/invoke/VarHandle") ∧ Cond.instantiable q.1.cls q.2 ∈ tables_1 ∧ Cond.privateMethod q.1 ∈ tables_1 ∧ Cond.instanceMethod q.1 ∈ tables_1
theorem lw_p0 : lw_okq (⟨"java/lang/Throwable", "fillInStackTrace", "(I)Ljava/lang/Throwable;"⟩, 6) := ⟨⟨by decide +kernel, by decide +kernel⟩, List.mem_of_getElem? (i := 276) (by decide +kernel), List.mem_of_getElem? (i := 274) (by decide +kernel), List.mem_of_getElem? (i := 275) (by decide +kernel)⟩
theorem lw_p1 : lw_okq (⟨"PlanRows", "wantRoom", "(I)V"⟩, 10) := ⟨⟨by decide +kernel, by decide +kernel⟩, List.mem_of_getElem? (i := 21) (by decide +kernel), List.mem_of_getElem? (i := 356) (by decide +kernel), List.mem_of_getElem? (i := 357) (by decide +kernel)⟩
theorem lw_p2 : lw_okq (⟨"PlanRows$Search", "spread", "(I)V"⟩, 4) := ⟨⟨by decide +kernel, by decide +kernel⟩, List.mem_of_getElem? (i := 90) (by decide +kernel), List.mem_of_getElem? (i := 442) (by decide +kernel), List.mem_of_getElem? (i := 443) (by decide +kernel)⟩
theorem lw_p3 : lw_okq (⟨"PlanRows$Search", "spreadOverAllDoors", "(I)Z"⟩, 4) := ⟨⟨by decide +kernel, by decide +kernel⟩, List.mem_of_getElem? (i := 90) (by decide +kernel), List.mem_of_getElem? (i := 446) (by decide +kernel), List.mem_of_getElem? (i := 447) (by decide +kernel)⟩
theorem lw_p4 : lw_okq (⟨"PlanRows$Search", "isPassed", "(I)Z"⟩, 4) := ⟨⟨by decide +kernel, by decide +kernel⟩, List.mem_of_getElem? (i := 90) (by decide +kernel), List.mem_of_getElem? (i := 450) (by decide +kernel), List.mem_of_getElem? (i := 451) (by decide +kernel)⟩
theorem lw_p5 : lw_okq (⟨"PlanRows$Search", "lowerCost", "(IIII)Z"⟩, 4) := ⟨⟨by decide +kernel, by decide +kernel⟩, List.mem_of_getElem? (i := 90) (by decide +kernel), List.mem_of_getElem? (i := 475) (by decide +kernel), List.mem_of_getElem? (i := 476) (by decide +kernel)⟩
theorem lw_p6 : lw_okq (⟨"PlanRows$Search", "isReached", "(I)Z"⟩, 4) := ⟨⟨by decide +kernel, by decide +kernel⟩, List.mem_of_getElem? (i := 90) (by decide +kernel), List.mem_of_getElem? (i := 479) (by decide +kernel), List.mem_of_getElem? (i := 480) (by decide +kernel)⟩
theorem lw_p7 : lw_okq (⟨"PlanRows$Search", "stairsTo", "(I)I"⟩, 4) := ⟨⟨by decide +kernel, by decide +kernel⟩, List.mem_of_getElem? (i := 90) (by decide +kernel), List.mem_of_getElem? (i := 499) (by decide +kernel), List.mem_of_getElem? (i := 500) (by decide +kernel)⟩
theorem lw_p8 : lw_okq (⟨"PlanRows$Search", "lowestDoorInto", "(I)I"⟩, 4) := ⟨⟨by decide +kernel, by decide +kernel⟩, List.mem_of_getElem? (i := 90) (by decide +kernel), List.mem_of_getElem? (i := 507) (by decide +kernel), List.mem_of_getElem? (i := 508) (by decide +kernel)⟩
theorem lw_p9 : lw_okq (⟨"PlanRows", "wantWindow", "(I)V"⟩, 10) := ⟨⟨by decide +kernel, by decide +kernel⟩, List.mem_of_getElem? (i := 21) (by decide +kernel), List.mem_of_getElem? (i := 653) (by decide +kernel), List.mem_of_getElem? (i := 654) (by decide +kernel)⟩
theorem lw_p10 : lw_okq (⟨"PlanRowsModel", "throwing", "(ZZZZ)Z"⟩, 31) := ⟨⟨by decide +kernel, by decide +kernel⟩, List.mem_of_getElem? (i := 704) (by decide +kernel), List.mem_of_getElem? (i := 815) (by decide +kernel), List.mem_of_getElem? (i := 816) (by decide +kernel)⟩
theorem lw_p11 : lw_okq (⟨"PlanRowsModel", "isRoom", "(I)Z"⟩, 31) := ⟨⟨by decide +kernel, by decide +kernel⟩, List.mem_of_getElem? (i := 704) (by decide +kernel), List.mem_of_getElem? (i := 823) (by decide +kernel), List.mem_of_getElem? (i := 824) (by decide +kernel)⟩
theorem lw_p12 : lw_okq (⟨"PlanRowsModel", "reckon", "(II)V"⟩, 31) := ⟨⟨by decide +kernel, by decide +kernel⟩, List.mem_of_getElem? (i := 704) (by decide +kernel), List.mem_of_getElem? (i := 839) (by decide +kernel), List.mem_of_getElem? (i := 840) (by decide +kernel)⟩
theorem lw_p13 : lw_okq (⟨"PlanRowsModel", "isPassed", "(I)Z"⟩, 31) := ⟨⟨by decide +kernel, by decide +kernel⟩, List.mem_of_getElem? (i := 704) (by decide +kernel), List.mem_of_getElem? (i := 844) (by decide +kernel), List.mem_of_getElem? (i := 845) (by decide +kernel)⟩
theorem lw_p14 : lw_okq (⟨"PlanRowsModel", "costOf", "(I)I"⟩, 31) := ⟨⟨by decide +kernel, by decide +kernel⟩, List.mem_of_getElem? (i := 704) (by decide +kernel), List.mem_of_getElem? (i := 848) (by decide +kernel), List.mem_of_getElem? (i := 849) (by decide +kernel)⟩
theorem lw_p15 : lw_okq (⟨"PlanRowsModel", "nearest", "(I)I"⟩, 31) := ⟨⟨by decide +kernel, by decide +kernel⟩, List.mem_of_getElem? (i := 704) (by decide +kernel), List.mem_of_getElem? (i := 852) (by decide +kernel), List.mem_of_getElem? (i := 853) (by decide +kernel)⟩
def lw_privs_1 : List (MethodName × Nat) := [(⟨"java/lang/Throwable", "fillInStackTrace", "(I)Ljava/lang/Throwable;"⟩, 6), (⟨"PlanRows", "wantRoom", "(I)V"⟩, 10), (⟨"PlanRows$Search", "spread", "(I)V"⟩, 4), (⟨"PlanRows$Search", "spreadOverAllDoors", "(I)Z"⟩, 4), (⟨"PlanRows$Search", "isPassed", "(I)Z"⟩, 4), (⟨"PlanRows$Search", "lowerCost", "(IIII)Z"⟩, 4), (⟨"PlanRows$Search", "isReached", "(I)Z"⟩, 4), (⟨"PlanRows$Search", "stairsTo", "(I)I"⟩, 4), (⟨"PlanRows$Search", "lowestDoorInto", "(I)I"⟩, 4), (⟨"PlanRows", "wantWindow", "(I)V"⟩, 10), (⟨"PlanRowsModel", "throwing", "(ZZZZ)Z"⟩, 31), (⟨"PlanRowsModel", "isRoom", "(I)Z"⟩, 31), (⟨"PlanRowsModel", "reckon", "(II)V"⟩, 31), (⟨"PlanRowsModel", "isPassed", "(I)Z"⟩, 31), (⟨"PlanRowsModel", "costOf", "(I)I"⟩, 31), (⟨"PlanRowsModel", "nearest", "(I)I"⟩, 31)]
theorem lw_r1 : ∀ q ∈ lw_privs_1, lw_okq q := List.forall_mem_cons.mpr ⟨lw_p0, List.forall_mem_cons.mpr ⟨lw_p1, List.forall_mem_cons.mpr ⟨lw_p2, List.forall_mem_cons.mpr ⟨lw_p3, List.forall_mem_cons.mpr ⟨lw_p4, List.forall_mem_cons.mpr ⟨lw_p5, List.forall_mem_cons.mpr ⟨lw_p6, List.forall_mem_cons.mpr ⟨lw_p7, List.forall_mem_cons.mpr ⟨lw_p8, List.forall_mem_cons.mpr ⟨lw_p9, List.forall_mem_cons.mpr ⟨lw_p10, List.forall_mem_cons.mpr ⟨lw_p11, List.forall_mem_cons.mpr ⟨lw_p12, List.forall_mem_cons.mpr ⟨lw_p13, List.forall_mem_cons.mpr ⟨lw_p14, List.forall_mem_cons.mpr ⟨lw_p15, fun _ h => absurd h List.not_mem_nil⟩⟩⟩⟩⟩⟩⟩⟩⟩⟩⟩⟩⟩⟩⟩⟩
theorem lw_p16 : lw_okq (⟨"PlanRowsModel", "into", "(I)I"⟩, 31) := ⟨⟨by decide +kernel, by decide +kernel⟩, List.mem_of_getElem? (i := 704) (by decide +kernel), List.mem_of_getElem? (i := 856) (by decide +kernel), List.mem_of_getElem? (i := 857) (by decide +kernel)⟩
theorem lw_p17 : lw_okq (⟨"PlanRowsModel", "detectorOf", "(II)I"⟩, 31) := ⟨⟨by decide +kernel, by decide +kernel⟩, List.mem_of_getElem? (i := 704) (by decide +kernel), List.mem_of_getElem? (i := 887) (by decide +kernel), List.mem_of_getElem? (i := 888) (by decide +kernel)⟩
theorem lw_p18 : lw_okq (⟨"PlanRowsModel", "squareTo", "(IIII)J"⟩, 31) := ⟨⟨by decide +kernel, by decide +kernel⟩, List.mem_of_getElem? (i := 704) (by decide +kernel), List.mem_of_getElem? (i := 919) (by decide +kernel), List.mem_of_getElem? (i := 920) (by decide +kernel)⟩
def lw_privs_2 : List (MethodName × Nat) := [(⟨"PlanRowsModel", "into", "(I)I"⟩, 31), (⟨"PlanRowsModel", "detectorOf", "(II)I"⟩, 31), (⟨"PlanRowsModel", "squareTo", "(IIII)J"⟩, 31)]
theorem lw_r2 : ∀ q ∈ lw_privs_2, lw_okq q := List.forall_mem_cons.mpr ⟨lw_p16, List.forall_mem_cons.mpr ⟨lw_p17, List.forall_mem_cons.mpr ⟨lw_p18, fun _ h => absurd h List.not_mem_nil⟩⟩⟩
def lw_privs : List (MethodName × Nat) := lw_privs_1 ++ (lw_privs_2)
def lw_tbl : List Cond := k2_sels lw_privs ++ tables_1
theorem lw_privs_ok : ∀ q ∈ lw_privs, lw_okq q := by
  show ∀ q ∈ lw_privs_1 ++ (lw_privs_2), lw_okq q
  exact List.forall_mem_append.mpr ⟨lw_r1, lw_r2⟩
end
section
/-! Names by program (wip/whole/names.py): classes, fields, methods; the words of the tables by their places. -/
def R_Crowd : String := "PlanRows$Crowd"
def F_Crowd : u_T := fun k => match k with
  | 0 => ("PlanRows$Crowd", "floors", "[I", true)
  | 1 => ("PlanRows$Crowd", "froms", "[I", true)
  | 2 => ("PlanRows$Crowd", "tos", "[I", true)
  | 3 => ("PlanRows$Crowd", "amounts", "[I", true)
  | _ => ("PlanRows$Crowd", "size", "I", false)
def t_Crowd : Nat → FieldType := fun k => match k with
  | 0 => .array .int
  | 1 => .array .int
  | 2 => .array .int
  | 3 => .array .int
  | _ => .int
theorem n_Crowd : ∀ a, a < 5 → ∀ b, b < 5 → a ≠ b → (F_Crowd a).2.1 ≠ (F_Crowd b).2.1 := by decide +kernel
theorem t_Crowd_ok : ∀ k, k < 5 → parseFieldDescriptor (F_Crowd k).2.2.1 = some (t_Crowd k) := by decide +kernel
def R_Det : String := "PlanRows$Detectors"
def F_Det : u_T := fun k => match k with
  | 0 => ("PlanRows$Detectors", "loops", "[I", true)
  | 1 => ("PlanRows$Detectors", "numbers", "[I", true)
  | 2 => ("PlanRows$Detectors", "roomsOf", "[I", true)
  | _ => ("PlanRows$Detectors", "size", "I", false)
def t_Det : Nat → FieldType := fun k => match k with
  | 0 => .array .int
  | 1 => .array .int
  | 2 => .array .int
  | _ => .int
theorem n_Det : ∀ a, a < 4 → ∀ b, b < 4 → a ≠ b → (F_Det a).2.1 ≠ (F_Det b).2.1 := by decide +kernel
theorem t_Det_ok : ∀ k, k < 4 → parseFieldDescriptor (F_Det k).2.2.1 = some (t_Det k) := by decide +kernel
def R_Doors : String := "PlanRows$Doors"
def F_Doors : u_T := fun k => match k with
  | 0 => ("PlanRows$Doors", "firstRooms", "[I", true)
  | 1 => ("PlanRows$Doors", "secondRooms", "[I", true)
  | 2 => ("PlanRows$Doors", "costs", "[I", true)
  | 3 => ("PlanRows$Doors", "keys", "[I", true)
  | _ => ("PlanRows$Doors", "size", "I", false)
def t_Doors : Nat → FieldType := fun k => match k with
  | 0 => .array .int
  | 1 => .array .int
  | 2 => .array .int
  | 3 => .array .int
  | _ => .int
theorem n_Doors : ∀ a, a < 5 → ∀ b, b < 5 → a ≠ b → (F_Doors a).2.1 ≠ (F_Doors b).2.1 := by decide +kernel
theorem t_Doors_ok : ∀ k, k < 5 → parseFieldDescriptor (F_Doors k).2.2.1 = some (t_Doors k) := by decide +kernel
def R_Keys : String := "PlanRows$KeyRing"
def F_Keys : u_T := fun k => match k with
  | 0 => ("PlanRows$KeyRing", "atHand", "[Z", true)
  | _ => ("PlanRows$KeyRing", "size", "I", false)
def t_Keys : Nat → FieldType := fun k => match k with
  | 0 => .array .boolean
  | _ => .int
theorem n_Keys : ∀ a, a < 2 → ∀ b, b < 2 → a ≠ b → (F_Keys a).2.1 ≠ (F_Keys b).2.1 := by decide +kernel
theorem t_Keys_ok : ∀ k, k < 2 → parseFieldDescriptor (F_Keys k).2.2.1 = some (t_Keys k) := by decide +kernel
def R_Rooms : String := "PlanRows$Rooms"
def F_Rooms : u_T := fun k => match k with
  | 0 => ("PlanRows$Rooms", "floors", "[I", true)
  | 1 => ("PlanRows$Rooms", "kinds", "[I", true)
  | 2 => ("PlanRows$Rooms", "hazards", "[I", true)
  | _ => ("PlanRows$Rooms", "size", "I", false)
def t_Rooms : Nat → FieldType := fun k => match k with
  | 0 => .array .int
  | 1 => .array .int
  | 2 => .array .int
  | _ => .int
theorem n_Rooms : ∀ a, a < 4 → ∀ b, b < 4 → a ≠ b → (F_Rooms a).2.1 ≠ (F_Rooms b).2.1 := by decide +kernel
theorem t_Rooms_ok : ∀ k, k < 4 → parseFieldDescriptor (F_Rooms k).2.2.1 = some (t_Rooms k) := by decide +kernel
def R_Route : String := "PlanRows$Route"
def F_Route : u_T := fun k => match k with
  | 0 => ("PlanRows$Route", "doorsFromEnd", "[I", true)
  | 1 => ("PlanRows$Route", "length", "I", false)
  | 2 => ("PlanRows$Route", "stairs", "I", false)
  | _ => ("PlanRows$Route", "end", "I", false)
def t_Route : Nat → FieldType := fun k => match k with
  | 0 => .array .int
  | 1 => .int
  | 2 => .int
  | _ => .int
theorem n_Route : ∀ a, a < 4 → ∀ b, b < 4 → a ≠ b → (F_Route a).2.1 ≠ (F_Route b).2.1 := by decide +kernel
theorem t_Route_ok : ∀ k, k < 4 → parseFieldDescriptor (F_Route k).2.2.1 = some (t_Route k) := by decide +kernel
def R_Search : String := "PlanRows$Search"
def F_Search : u_T := fun k => match k with
  | 0 => ("PlanRows$Search", "rooms", "LPlanRows$Rooms;", true)
  | 1 => ("PlanRows$Search", "doors", "LPlanRows$Doors;", true)
  | 2 => ("PlanRows$Search", "keyRing", "LPlanRows$KeyRing;", true)
  | _ => ("PlanRows$Search", "costs", "[I", true)
def t_Search : Nat → FieldType := fun k => match k with
  | 0 => .object "PlanRows$Rooms"
  | 1 => .object "PlanRows$Doors"
  | 2 => .object "PlanRows$KeyRing"
  | _ => .array .int
theorem n_Search : ∀ a, a < 4 → ∀ b, b < 4 → a ≠ b → (F_Search a).2.1 ≠ (F_Search b).2.1 := by decide +kernel
theorem t_Search_ok : ∀ k, k < 4 → parseFieldDescriptor (F_Search k).2.2.1 = some (t_Search k) := by decide +kernel
def R_Win : String := "PlanRows$Windows"
def F_Win : u_T := fun k => match k with
  | 0 => ("PlanRows$Windows", "xs", "[I", true)
  | 1 => ("PlanRows$Windows", "ys", "[I", true)
  | 2 => ("PlanRows$Windows", "zs", "[I", true)
  | _ => ("PlanRows$Windows", "size", "I", false)
def t_Win : Nat → FieldType := fun k => match k with
  | 0 => .array .int
  | 1 => .array .int
  | 2 => .array .int
  | _ => .int
theorem n_Win : ∀ a, a < 4 → ∀ b, b < 4 → a ≠ b → (F_Win a).2.1 ≠ (F_Win b).2.1 := by decide +kernel
theorem t_Win_ok : ∀ k, k < 4 → parseFieldDescriptor (F_Win k).2.2.1 = some (t_Win k) := by decide +kernel
def R_Plan : String := "PlanRows"
def F_Plan : u_T := fun k => match k with
  | 0 => ("PlanRows", "rooms", "LPlanRows$Rooms;", true)
  | 1 => ("PlanRows", "doors", "LPlanRows$Doors;", true)
  | 2 => ("PlanRows", "keyRing", "LPlanRows$KeyRing;", true)
  | 3 => ("PlanRows", "search", "LPlanRows$Search;", true)
  | 4 => ("PlanRows", "latestWay", "LPlanRows$Route;", true)
  | 5 => ("PlanRows", "detectors", "LPlanRows$Detectors;", true)
  | 6 => ("PlanRows", "crowd", "LPlanRows$Crowd;", true)
  | 7 => ("PlanRows", "windows", "LPlanRows$Windows;", true)
  | 8 => ("PlanRows", "lookDay", "I", false)
  | _ => ("PlanRows", "lookTerm", "I", false)
def t_Plan : Nat → FieldType := fun k => match k with
  | 0 => .object "PlanRows$Rooms"
  | 1 => .object "PlanRows$Doors"
  | 2 => .object "PlanRows$KeyRing"
  | 3 => .object "PlanRows$Search"
  | 4 => .object "PlanRows$Route"
  | 5 => .object "PlanRows$Detectors"
  | 6 => .object "PlanRows$Crowd"
  | 7 => .object "PlanRows$Windows"
  | 8 => .int
  | _ => .int
theorem n_Plan : ∀ a, a < 10 → ∀ b, b < 10 → a ≠ b → (F_Plan a).2.1 ≠ (F_Plan b).2.1 := by decide +kernel
theorem t_Plan_ok : ∀ k, k < 10 → parseFieldDescriptor (F_Plan k).2.2.1 = some (t_Plan k) := by decide +kernel
def R_Mod : String := "PlanRowsModel"
def F_Mod : u_T := fun k => match k with
  | 0 => ("PlanRowsModel", "thrown", "I", false)
  | 1 => ("PlanRowsModel", "rooms", "I", false)
  | 2 => ("PlanRowsModel", "floor", "[I", true)
  | 3 => ("PlanRowsModel", "kind", "[I", true)
  | 4 => ("PlanRowsModel", "hazard", "[I", true)
  | 5 => ("PlanRowsModel", "doors", "I", false)
  | 6 => ("PlanRowsModel", "from", "[I", true)
  | 7 => ("PlanRowsModel", "to", "[I", true)
  | 8 => ("PlanRowsModel", "metres", "[I", true)
  | 9 => ("PlanRowsModel", "lock", "[I", true)
  | 10 => ("PlanRowsModel", "hand", "[Z", true)
  | 11 => ("PlanRowsModel", "least", "[I", true)
  | 12 => ("PlanRowsModel", "way", "[I", true)
  | 13 => ("PlanRowsModel", "steps", "I", false)
  | 14 => ("PlanRowsModel", "stairs", "I", false)
  | 15 => ("PlanRowsModel", "end", "I", false)
  | 16 => ("PlanRowsModel", "detectors", "I", false)
  | 17 => ("PlanRowsModel", "loop", "[I", true)
  | 18 => ("PlanRowsModel", "number", "[I", true)
  | 19 => ("PlanRowsModel", "watched", "[I", true)
  | 20 => ("PlanRowsModel", "rows", "I", false)
  | 21 => ("PlanRowsModel", "rowRoom", "[I", true)
  | 22 => ("PlanRowsModel", "rowFrom", "[I", true)
  | 23 => ("PlanRowsModel", "rowTo", "[I", true)
  | 24 => ("PlanRowsModel", "rowMany", "[I", true)
  | 25 => ("PlanRowsModel", "windows", "I", false)
  | 26 => ("PlanRowsModel", "windowX", "[I", true)
  | 27 => ("PlanRowsModel", "windowY", "[I", true)
  | 28 => ("PlanRowsModel", "windowZ", "[I", true)
  | 29 => ("PlanRowsModel", "looked", "I", false)
  | _ => ("PlanRowsModel", "term", "I", false)
def t_Mod : Nat → FieldType := fun k => match k with
  | 0 => .int
  | 1 => .int
  | 2 => .array .int
  | 3 => .array .int
  | 4 => .array .int
  | 5 => .int
  | 6 => .array .int
  | 7 => .array .int
  | 8 => .array .int
  | 9 => .array .int
  | 10 => .array .boolean
  | 11 => .array .int
  | 12 => .array .int
  | 13 => .int
  | 14 => .int
  | 15 => .int
  | 16 => .int
  | 17 => .array .int
  | 18 => .array .int
  | 19 => .array .int
  | 20 => .int
  | 21 => .array .int
  | 22 => .array .int
  | 23 => .array .int
  | 24 => .array .int
  | 25 => .int
  | 26 => .array .int
  | 27 => .array .int
  | 28 => .array .int
  | 29 => .int
  | _ => .int
theorem n_Mod : ∀ a, a < 31 → ∀ b, b < 31 → a ≠ b → (F_Mod a).2.1 ≠ (F_Mod b).2.1 := by decide +kernel
theorem t_Mod_ok : ∀ k, k < 31 → parseFieldDescriptor (F_Mod k).2.2.1 = some (t_Mod k) := by decide +kernel
def R_Law : String := "PlanRowsLaw"
def R_Arr : String := "java/util/Arrays"
abbrev clsA : List vw_C := [(R_Crowd, F_Crowd, 5), (R_Det, F_Det, 4), (R_Doors, F_Doors, 5), (R_Keys, F_Keys, 2), (R_Rooms, F_Rooms, 4), (R_Route, F_Route, 4), (R_Search, F_Search, 4), (R_Win, F_Win, 4), (R_Plan, F_Plan, 10), (R_Mod, F_Mod, 31)]
abbrev b_Plan_init : ByteArray := prog_1_method_1_code
def y_Plan_init : MethodName := ⟨"PlanRows", "<init>", "()V"⟩
abbrev b_Rooms_init : ByteArray := prog_6_method_1_code
def y_Rooms_init : MethodName := ⟨"PlanRows$Rooms", "<init>", "()V"⟩
abbrev b_Doors_init : ByteArray := prog_4_method_1_code
def y_Doors_init : MethodName := ⟨"PlanRows$Doors", "<init>", "()V"⟩
abbrev b_Keys_init : ByteArray := prog_5_method_1_code
def y_Keys_init : MethodName := ⟨"PlanRows$KeyRing", "<init>", "()V"⟩
abbrev b_Search_init : ByteArray := prog_8_method_1_code
def y_Search_init : MethodName := ⟨"PlanRows$Search", "<init>", "(LPlanRows$Rooms;LPlanRows$Doors;LPlanRows$KeyRing;)V"⟩
abbrev b_Route_init : ByteArray := prog_7_method_1_code
def y_Route_init : MethodName := ⟨"PlanRows$Route", "<init>", "()V"⟩
abbrev b_Det_init : ByteArray := prog_3_method_1_code
def y_Det_init : MethodName := ⟨"PlanRows$Detectors", "<init>", "()V"⟩
abbrev b_Crowd_init : ByteArray := prog_2_method_1_code
def y_Crowd_init : MethodName := ⟨"PlanRows$Crowd", "<init>", "()V"⟩
abbrev b_Win_init : ByteArray := prog_9_method_1_code
def y_Win_init : MethodName := ⟨"PlanRows$Windows", "<init>", "()V"⟩
abbrev b_Law_room : ByteArray := method_3_code
def y_Law_room : MethodName := ⟨"PlanRowsLaw", "room", "(LPlanRows;II[J)I"⟩
abbrev b_Plan_room : ByteArray := prog_1_method_2_code
def y_Plan_room : MethodName := ⟨"PlanRows", "room", "(II)I"⟩
abbrev b_Plan_wantKind : ByteArray := prog_1_method_24_code
def y_Plan_wantKind : MethodName := ⟨"PlanRows", "wantKind", "(I)V"⟩
abbrev b_Plan_wantWithin : ByteArray := prog_1_method_26_code
def y_Plan_wantWithin : MethodName := ⟨"PlanRows", "wantWithin", "(III)V"⟩
abbrev b_Rooms_add : ByteArray := prog_6_method_2_code
def y_Rooms_add : MethodName := ⟨"PlanRows$Rooms", "add", "(II)I"⟩
abbrev b_Plan_wantAdded : ByteArray := prog_1_method_28_code
def y_Plan_wantAdded : MethodName := ⟨"PlanRows", "wantAdded", "(I)I"⟩
abbrev b_Law_door : ByteArray := method_4_code
def y_Law_door : MethodName := ⟨"PlanRowsLaw", "door", "(LPlanRows;IIII[J)I"⟩
abbrev b_Plan_door : ByteArray := prog_1_method_3_code
def y_Plan_door : MethodName := ⟨"PlanRows", "door", "(IIII)I"⟩
abbrev b_Plan_wantRoom : ByteArray := prog_1_method_22_code
def y_Plan_wantRoom : MethodName := ⟨"PlanRows", "wantRoom", "(I)V"⟩
abbrev b_Rooms_has : ByteArray := prog_6_method_3_code
def y_Rooms_has : MethodName := ⟨"PlanRows$Rooms", "has", "(I)Z"⟩
abbrev b_Rooms_floorOf : ByteArray := prog_6_method_4_code
def y_Rooms_floorOf : MethodName := ⟨"PlanRows$Rooms", "floorOf", "(I)I"⟩
abbrev b_Doors_add : ByteArray := prog_4_method_2_code
def y_Doors_add : MethodName := ⟨"PlanRows$Doors", "add", "(IIII)I"⟩
abbrev b_Law_key : ByteArray := method_5_code
def y_Law_key : MethodName := ⟨"PlanRowsLaw", "key", "(LPlanRows;IZ)I"⟩
abbrev b_Plan_key : ByteArray := prog_1_method_4_code
def y_Plan_key : MethodName := ⟨"PlanRows", "key", "(IZ)V"⟩
abbrev b_Keys_has : ByteArray := prog_5_method_2_code
def y_Keys_has : MethodName := ⟨"PlanRows$KeyRing", "has", "(I)Z"⟩
abbrev b_Keys_isAtHand : ByteArray := prog_5_method_3_code
def y_Keys_isAtHand : MethodName := ⟨"PlanRows$KeyRing", "isAtHand", "(I)Z"⟩
abbrev b_Keys_put : ByteArray := prog_5_method_4_code
def y_Keys_put : MethodName := ⟨"PlanRows$KeyRing", "put", "(IZ)V"⟩
abbrev b_Law_hazard : ByteArray := method_6_code
def y_Law_hazard : MethodName := ⟨"PlanRowsLaw", "hazard", "(LPlanRows;II)I"⟩
abbrev b_Plan_hazard : ByteArray := prog_1_method_5_code
def y_Plan_hazard : MethodName := ⟨"PlanRows", "hazard", "(II)V"⟩
abbrev b_Rooms_setHazards : ByteArray := prog_6_method_7_code
def y_Rooms_setHazards : MethodName := ⟨"PlanRows$Rooms", "setHazards", "(II)V"⟩
abbrev b_Law_way : ByteArray := method_7_code
def y_Law_way : MethodName := ⟨"PlanRowsLaw", "way", "(LPlanRows;III[J)I"⟩
abbrev b_Plan_way : ByteArray := prog_1_method_6_code
def y_Plan_way : MethodName := ⟨"PlanRows", "way", "(III)I"⟩
abbrev b_Search_spreadFromRoom : ByteArray := prog_8_method_2_code
def y_Search_spreadFromRoom : MethodName := ⟨"PlanRows$Search", "spreadFromRoom", "(II)V"⟩
abbrev b_Arr_fill : ByteArray := prog_21_method_103_code
def y_Arr_fill : MethodName := ⟨"java/util/Arrays", "fill", "([II)V"⟩
abbrev b_Search_spread : ByteArray := prog_8_method_4_code
def y_Search_spread : MethodName := ⟨"PlanRows$Search", "spread", "(I)V"⟩
abbrev b_Search_spreadOverAllDoors : ByteArray := prog_8_method_5_code
def y_Search_spreadOverAllDoors : MethodName := ⟨"PlanRows$Search", "spreadOverAllDoors", "(I)Z"⟩
abbrev b_Search_isPassed : ByteArray := prog_8_method_7_code
def y_Search_isPassed : MethodName := ⟨"PlanRows$Search", "isPassed", "(I)Z"⟩
abbrev b_Doors_keyOf : ByteArray := prog_4_method_7_code
def y_Doors_keyOf : MethodName := ⟨"PlanRows$Doors", "keyOf", "(I)I"⟩
abbrev b_Doors_has : ByteArray := prog_4_method_3_code
def y_Doors_has : MethodName := ⟨"PlanRows$Doors", "has", "(I)Z"⟩
abbrev b_Doors_firstRoomOf : ByteArray := prog_4_method_4_code
def y_Doors_firstRoomOf : MethodName := ⟨"PlanRows$Doors", "firstRoomOf", "(I)I"⟩
abbrev b_Doors_secondRoomOf : ByteArray := prog_4_method_5_code
def y_Doors_secondRoomOf : MethodName := ⟨"PlanRows$Doors", "secondRoomOf", "(I)I"⟩
abbrev b_Doors_costOf : ByteArray := prog_4_method_6_code
def y_Doors_costOf : MethodName := ⟨"PlanRows$Doors", "costOf", "(I)I"⟩
abbrev b_Search_lowerCost : ByteArray := prog_8_method_6_code
def y_Search_lowerCost : MethodName := ⟨"PlanRows$Search", "lowerCost", "(IIII)Z"⟩
abbrev b_Search_isReached : ByteArray := prog_8_method_8_code
def y_Search_isReached : MethodName := ⟨"PlanRows$Search", "isReached", "(I)Z"⟩
abbrev b_Rooms_hasHazardOf : ByteArray := prog_6_method_6_code
def y_Rooms_hasHazardOf : MethodName := ⟨"PlanRows$Rooms", "hasHazardOf", "(II)Z"⟩
abbrev b_Search_nearestOf : ByteArray := prog_8_method_9_code
def y_Search_nearestOf : MethodName := ⟨"PlanRows$Search", "nearestOf", "(I)I"⟩
abbrev b_Rooms_isOfKind : ByteArray := prog_6_method_5_code
def y_Rooms_isOfKind : MethodName := ⟨"PlanRows$Rooms", "isOfKind", "(II)Z"⟩
abbrev b_Search_tellWayTo : ByteArray := prog_8_method_12_code
def y_Search_tellWayTo : MethodName := ⟨"PlanRows$Search", "tellWayTo", "(ILPlanRows$Route;)V"⟩
abbrev b_Search_stairsTo : ByteArray := prog_8_method_11_code
def y_Search_stairsTo : MethodName := ⟨"PlanRows$Search", "stairsTo", "(I)I"⟩
abbrev b_Route_restart : ByteArray := prog_7_method_2_code
def y_Route_restart : MethodName := ⟨"PlanRows$Route", "restart", "(II)V"⟩
abbrev b_Search_lowestDoorInto : ByteArray := prog_8_method_13_code
def y_Search_lowestDoorInto : MethodName := ⟨"PlanRows$Search", "lowestDoorInto", "(I)I"⟩
abbrev b_Doors_roomBehind : ByteArray := prog_4_method_8_code
def y_Doors_roomBehind : MethodName := ⟨"PlanRows$Doors", "roomBehind", "(II)I"⟩
abbrev b_Route_addBefore : ByteArray := prog_7_method_3_code
def y_Route_addBefore : MethodName := ⟨"PlanRows$Route", "addBefore", "(I)V"⟩
abbrev b_Search_metresTo : ByteArray := prog_8_method_10_code
def y_Search_metresTo : MethodName := ⟨"PlanRows$Search", "metresTo", "(I)I"⟩
abbrev b_Law_step : ByteArray := method_8_code
def y_Law_step : MethodName := ⟨"PlanRowsLaw", "step", "(LPlanRows;I[J)I"⟩
abbrev b_Plan_step : ByteArray := prog_1_method_7_code
def y_Plan_step : MethodName := ⟨"PlanRows", "step", "(I)I"⟩
abbrev b_Plan_wantNotBelowZero : ByteArray := prog_1_method_27_code
def y_Plan_wantNotBelowZero : MethodName := ⟨"PlanRows", "wantNotBelowZero", "(I)V"⟩
abbrev b_Route_doorAt : ByteArray := prog_7_method_4_code
def y_Route_doorAt : MethodName := ⟨"PlanRows$Route", "doorAt", "(I)I"⟩
abbrev b_Law_told : ByteArray := method_9_code
def y_Law_told : MethodName := ⟨"PlanRowsLaw", "told", "(LPlanRows;I[J)I"⟩
abbrev b_Plan_told : ByteArray := prog_1_method_8_code
def y_Plan_told : MethodName := ⟨"PlanRows", "told", "(I)I"⟩
abbrev b_Law_hoses : ByteArray := method_10_code
def y_Law_hoses : MethodName := ⟨"PlanRowsLaw", "hoses", "(LPlanRows;II[J)I"⟩
abbrev b_Plan_hoses : ByteArray := prog_1_method_9_code
def y_Plan_hoses : MethodName := ⟨"PlanRows", "hoses", "(II)I"⟩
abbrev b_Law_trapped : ByteArray := method_11_code
def y_Law_trapped : MethodName := ⟨"PlanRowsLaw", "trapped", "(LPlanRows;I[J)I"⟩
abbrev b_Plan_trapped : ByteArray := prog_1_method_10_code
def y_Plan_trapped : MethodName := ⟨"PlanRows", "trapped", "(I)I"⟩
abbrev b_Search_spreadFromKind : ByteArray := prog_8_method_3_code
def y_Search_spreadFromKind : MethodName := ⟨"PlanRows$Search", "spreadFromKind", "(I)V"⟩
abbrev b_Search_unreachedAt : ByteArray := prog_8_method_14_code
def y_Search_unreachedAt : MethodName := ⟨"PlanRows$Search", "unreachedAt", "(I)I"⟩
abbrev b_Law_missing : ByteArray := method_12_code
def y_Law_missing : MethodName := ⟨"PlanRowsLaw", "missing", "(LPlanRows;I[J)I"⟩
abbrev b_Plan_missing : ByteArray := prog_1_method_11_code
def y_Plan_missing : MethodName := ⟨"PlanRows", "missing", "(I)I"⟩
abbrev b_Doors_anyHasKey : ByteArray := prog_4_method_9_code
def y_Doors_anyHasKey : MethodName := ⟨"PlanRows$Doors", "anyHasKey", "(I)Z"⟩
abbrev b_Law_detector : ByteArray := method_13_code
def y_Law_detector : MethodName := ⟨"PlanRowsLaw", "detector", "(LPlanRows;III)I"⟩
abbrev b_Plan_detector : ByteArray := prog_1_method_12_code
def y_Plan_detector : MethodName := ⟨"PlanRows", "detector", "(III)V"⟩
abbrev b_Det_roomOf : ByteArray := prog_3_method_3_code
def y_Det_roomOf : MethodName := ⟨"PlanRows$Detectors", "roomOf", "(II)I"⟩
abbrev b_Det_add : ByteArray := prog_3_method_2_code
def y_Det_add : MethodName := ⟨"PlanRows$Detectors", "add", "(III)I"⟩
abbrev b_Law_alarm : ByteArray := method_14_code
def y_Law_alarm : MethodName := ⟨"PlanRowsLaw", "alarm", "(LPlanRows;II[J)I"⟩
abbrev b_Plan_alarm : ByteArray := prog_1_method_13_code
def y_Plan_alarm : MethodName := ⟨"PlanRows", "alarm", "(II)I"⟩
abbrev b_Law_people : ByteArray := method_15_code
def y_Law_people : MethodName := ⟨"PlanRowsLaw", "people", "(LPlanRows;IIII[J)I"⟩
abbrev b_Plan_people : ByteArray := prog_1_method_14_code
def y_Plan_people : MethodName := ⟨"PlanRows", "people", "(IIII)I"⟩
abbrev b_Crowd_add : ByteArray := prog_2_method_2_code
def y_Crowd_add : MethodName := ⟨"PlanRows$Crowd", "add", "(IIII)I"⟩
abbrev b_Law_inside : ByteArray := method_16_code
def y_Law_inside : MethodName := ⟨"PlanRowsLaw", "inside", "(LPlanRows;II[J)I"⟩
abbrev b_Plan_inside : ByteArray := prog_1_method_15_code
def y_Plan_inside : MethodName := ⟨"PlanRows", "inside", "(II)I"⟩
abbrev b_Crowd_sum : ByteArray := prog_2_method_3_code
def y_Crowd_sum : MethodName := ⟨"PlanRows$Crowd", "sum", "(II)I"⟩
abbrev b_Crowd_isBetween : ByteArray := prog_2_method_4_code
def y_Crowd_isBetween : MethodName := ⟨"PlanRows$Crowd", "isBetween", "(III)Z"⟩
abbrev b_Law_window : ByteArray := method_17_code
def y_Law_window : MethodName := ⟨"PlanRowsLaw", "window", "(LPlanRows;IIII[J)I"⟩
abbrev b_Plan_window : ByteArray := prog_1_method_16_code
def y_Plan_window : MethodName := ⟨"PlanRows", "window", "(IIII)I"⟩
abbrev b_Plan_wantPoint : ByteArray := prog_1_method_25_code
def y_Plan_wantPoint : MethodName := ⟨"PlanRows", "wantPoint", "(III)V"⟩
abbrev b_Win_add : ByteArray := prog_9_method_2_code
def y_Win_add : MethodName := ⟨"PlanRows$Windows", "add", "(III)I"⟩
abbrev b_Law_reaches : ByteArray := method_18_code
def y_Law_reaches : MethodName := ⟨"PlanRowsLaw", "reaches", "(LPlanRows;IIIII[J)I"⟩
abbrev b_Plan_reaches : ByteArray := prog_1_method_17_code
def y_Plan_reaches : MethodName := ⟨"PlanRows", "reaches", "(IIIII)Z"⟩
abbrev b_Plan_wantWindow : ByteArray := prog_1_method_23_code
def y_Plan_wantWindow : MethodName := ⟨"PlanRows", "wantWindow", "(I)V"⟩
abbrev b_Win_has : ByteArray := prog_9_method_3_code
def y_Win_has : MethodName := ⟨"PlanRows$Windows", "has", "(I)Z"⟩
abbrev b_Win_isReached : ByteArray := prog_9_method_4_code
def y_Win_isReached : MethodName := ⟨"PlanRows$Windows", "isReached", "(IIIII)Z"⟩
abbrev b_Law_ladder : ByteArray := method_19_code
def y_Law_ladder : MethodName := ⟨"PlanRowsLaw", "ladder", "(LPlanRows;IIII[J)I"⟩
abbrev b_Plan_ladder : ByteArray := prog_1_method_18_code
def y_Plan_ladder : MethodName := ⟨"PlanRows", "ladder", "(IIII)I"⟩
abbrev b_Win_leastLength : ByteArray := prog_9_method_5_code
def y_Win_leastLength : MethodName := ⟨"PlanRows$Windows", "leastLength", "(IIII)I"⟩
abbrev b_Law_look : ByteArray := method_20_code
def y_Law_look : MethodName := ⟨"PlanRowsLaw", "look", "(LPlanRows;II)I"⟩
abbrev b_Plan_look : ByteArray := prog_1_method_19_code
def y_Plan_look : MethodName := ⟨"PlanRows", "look", "(II)V"⟩
abbrev b_Law_old : ByteArray := method_21_code
def y_Law_old : MethodName := ⟨"PlanRowsLaw", "old", "(LPlanRows;I[J)I"⟩
abbrev b_Plan_old : ByteArray := prog_1_method_20_code
def y_Plan_old : MethodName := ⟨"PlanRows", "old", "(I)Z"⟩
abbrev b_Law_count : ByteArray := method_22_code
def y_Law_count : MethodName := ⟨"PlanRowsLaw", "count", "(LPlanRows;I[J)I"⟩
abbrev b_Plan_count : ByteArray := prog_1_method_21_code
def y_Plan_count : MethodName := ⟨"PlanRows", "count", "(I)I"⟩
abbrev b_Mod_init : ByteArray := prog_11_method_1_code
def y_Mod_init : MethodName := ⟨"PlanRowsModel", "<init>", "()V"⟩
abbrev b_Mod_thrown : ByteArray := prog_11_method_2_code
def y_Mod_thrown : MethodName := ⟨"PlanRowsModel", "thrown", "()I"⟩
abbrev b_Mod_room : ByteArray := prog_11_method_6_code
def y_Mod_room : MethodName := ⟨"PlanRowsModel", "room", "(II)I"⟩
abbrev b_Mod_in : ByteArray := prog_11_method_4_code
def y_Mod_in : MethodName := ⟨"PlanRowsModel", "in", "(III)Z"⟩
abbrev b_Mod_throwing : ByteArray := prog_11_method_3_code
def y_Mod_throwing : MethodName := ⟨"PlanRowsModel", "throwing", "(ZZZZ)Z"⟩
abbrev b_Mod_door : ByteArray := prog_11_method_7_code
def y_Mod_door : MethodName := ⟨"PlanRowsModel", "door", "(IIII)I"⟩
abbrev b_Mod_isRoom : ByteArray := prog_11_method_5_code
def y_Mod_isRoom : MethodName := ⟨"PlanRowsModel", "isRoom", "(I)Z"⟩
abbrev b_Mod_key : ByteArray := prog_11_method_8_code
def y_Mod_key : MethodName := ⟨"PlanRowsModel", "key", "(IZ)V"⟩
abbrev b_Mod_hazard : ByteArray := prog_11_method_9_code
def y_Mod_hazard : MethodName := ⟨"PlanRowsModel", "hazard", "(II)V"⟩
abbrev b_Mod_way : ByteArray := prog_11_method_15_code
def y_Mod_way : MethodName := ⟨"PlanRowsModel", "way", "(III)I"⟩
abbrev b_Mod_reckon : ByteArray := prog_11_method_12_code
def y_Mod_reckon : MethodName := ⟨"PlanRowsModel", "reckon", "(II)V"⟩
abbrev b_Mod_isPassed : ByteArray := prog_11_method_10_code
def y_Mod_isPassed : MethodName := ⟨"PlanRowsModel", "isPassed", "(I)Z"⟩
abbrev b_Mod_costOf : ByteArray := prog_11_method_11_code
def y_Mod_costOf : MethodName := ⟨"PlanRowsModel", "costOf", "(I)I"⟩
abbrev b_Mod_nearest : ByteArray := prog_11_method_13_code
def y_Mod_nearest : MethodName := ⟨"PlanRowsModel", "nearest", "(I)I"⟩
abbrev b_Mod_into : ByteArray := prog_11_method_14_code
def y_Mod_into : MethodName := ⟨"PlanRowsModel", "into", "(I)I"⟩
abbrev b_Mod_step : ByteArray := prog_11_method_16_code
def y_Mod_step : MethodName := ⟨"PlanRowsModel", "step", "(I)I"⟩
abbrev b_Mod_told : ByteArray := prog_11_method_17_code
def y_Mod_told : MethodName := ⟨"PlanRowsModel", "told", "(I)I"⟩
abbrev b_Mod_hoses : ByteArray := prog_11_method_18_code
def y_Mod_hoses : MethodName := ⟨"PlanRowsModel", "hoses", "(II)I"⟩
abbrev b_Mod_trapped : ByteArray := prog_11_method_19_code
def y_Mod_trapped : MethodName := ⟨"PlanRowsModel", "trapped", "(I)I"⟩
abbrev b_Mod_missing : ByteArray := prog_11_method_20_code
def y_Mod_missing : MethodName := ⟨"PlanRowsModel", "missing", "(I)I"⟩
abbrev b_Mod_detector : ByteArray := prog_11_method_23_code
def y_Mod_detector : MethodName := ⟨"PlanRowsModel", "detector", "(III)V"⟩
abbrev b_Mod_isDetector : ByteArray := prog_11_method_22_code
def y_Mod_isDetector : MethodName := ⟨"PlanRowsModel", "isDetector", "(II)Z"⟩
abbrev b_Mod_detectorOf : ByteArray := prog_11_method_21_code
def y_Mod_detectorOf : MethodName := ⟨"PlanRowsModel", "detectorOf", "(II)I"⟩
abbrev b_Mod_alarm : ByteArray := prog_11_method_24_code
def y_Mod_alarm : MethodName := ⟨"PlanRowsModel", "alarm", "(II)I"⟩
abbrev b_Mod_people : ByteArray := prog_11_method_26_code
def y_Mod_people : MethodName := ⟨"PlanRowsModel", "people", "(IIII)I"⟩
abbrev b_Mod_isHour : ByteArray := prog_11_method_25_code
def y_Mod_isHour : MethodName := ⟨"PlanRowsModel", "isHour", "(I)Z"⟩
abbrev b_Mod_inside : ByteArray := prog_11_method_27_code
def y_Mod_inside : MethodName := ⟨"PlanRowsModel", "inside", "(II)I"⟩
abbrev b_Mod_window : ByteArray := prog_11_method_29_code
def y_Mod_window : MethodName := ⟨"PlanRowsModel", "window", "(IIII)I"⟩
abbrev b_Mod_isPoint : ByteArray := prog_11_method_28_code
def y_Mod_isPoint : MethodName := ⟨"PlanRowsModel", "isPoint", "(III)Z"⟩
abbrev b_Mod_reaches : ByteArray := prog_11_method_31_code
def y_Mod_reaches : MethodName := ⟨"PlanRowsModel", "reaches", "(IIIII)Z"⟩
abbrev b_Mod_squareTo : ByteArray := prog_11_method_30_code
def y_Mod_squareTo : MethodName := ⟨"PlanRowsModel", "squareTo", "(IIII)J"⟩
abbrev b_Mod_ladder : ByteArray := prog_11_method_32_code
def y_Mod_ladder : MethodName := ⟨"PlanRowsModel", "ladder", "(IIII)I"⟩
abbrev b_Mod_look : ByteArray := prog_11_method_33_code
def y_Mod_look : MethodName := ⟨"PlanRowsModel", "look", "(II)V"⟩
abbrev b_Mod_old : ByteArray := prog_11_method_34_code
def y_Mod_old : MethodName := ⟨"PlanRowsModel", "old", "(I)Z"⟩
abbrev b_Mod_count : ByteArray := prog_11_method_35_code
def y_Mod_count : MethodName := ⟨"PlanRowsModel", "count", "(I)I"⟩
/-- the words that every method is given: the good ones of the tables -/
def BW : List Cond := lw_tbl.filter goodWord
theorem BW_sub {w : Cond} (h : w ∈ BW) : w ∈ lw_tbl := (List.mem_filter.mp h).1
theorem BW_good {w : Cond} (h : w ∈ BW) : (w.onTables && w.keeps) = true ∨ ∃ ty, w = .arrayClass ty := good_of_word (List.mem_filter.mp h).2
theorem BW_tb {w : Cond} (i : Nat) (h : tables_1[i]? = some w) (g : goodWord w = true) : w ∈ BW := List.mem_filter.mpr ⟨List.mem_append_right _ (List.mem_of_getElem? h), g⟩
theorem BW_sel {w : Cond} (i : Nat) (h : (k2_sels lw_privs)[i]? = some w) (g : goodWord w = true) : w ∈ BW := List.mem_filter.mpr ⟨List.mem_append_left _ (List.mem_of_getElem? h), g⟩
theorem gBW {c0 c1 : Cond} (h : c1 ∈ BW) : GoodIn (c0 :: BW) (c1 :: BW) := fun w hw => by
  rcases List.mem_cons.mp hw with rfl | hw
  · exact ⟨List.mem_cons_of_mem _ h, BW_good h⟩
  · exact ⟨List.mem_cons_of_mem _ hw, BW_good hw⟩
theorem w_0 : Cond.initialized "PlanRowsLaw" ∈ BW := BW_tb 0 (by rfl) (by rfl)
theorem w_1 : Cond.initialized "PlanRows" ∈ BW := BW_tb 1 (by rfl) (by rfl)
theorem w_2 : Cond.initialized "PlanRows$Rooms" ∈ BW := BW_tb 2 (by rfl) (by rfl)
theorem w_3 : Cond.initialized "PlanRows$Doors" ∈ BW := BW_tb 3 (by rfl) (by rfl)
theorem w_4 : Cond.initialized "PlanRows$KeyRing" ∈ BW := BW_tb 4 (by rfl) (by rfl)
theorem w_5 : Cond.initialized "PlanRows$Search" ∈ BW := BW_tb 5 (by rfl) (by rfl)
theorem w_6 : Cond.initialized "PlanRows$Route" ∈ BW := BW_tb 6 (by rfl) (by rfl)
theorem w_7 : Cond.initialized "PlanRows$Detectors" ∈ BW := BW_tb 7 (by rfl) (by rfl)
theorem w_8 : Cond.initialized "PlanRows$Crowd" ∈ BW := BW_tb 8 (by rfl) (by rfl)
theorem w_9 : Cond.initialized "PlanRows$Windows" ∈ BW := BW_tb 9 (by rfl) (by rfl)
theorem w_10 : Cond.initialized "PlanRowsModel" ∈ BW := BW_tb 10 (by rfl) (by rfl)
theorem w_11 : Cond.initialized "java/lang/Throwable" ∈ BW := BW_tb 11 (by rfl) (by rfl)
theorem w_12 : Cond.initialized "java/lang/Exception" ∈ BW := BW_tb 12 (by rfl) (by rfl)
theorem w_13 : Cond.initialized "java/lang/RuntimeException" ∈ BW := BW_tb 13 (by rfl) (by rfl)
theorem w_14 : Cond.initialized "java/lang/IllegalArgumentException" ∈ BW := BW_tb 14 (by rfl) (by rfl)
theorem w_15 : Cond.initialized "java/lang/IndexOutOfBoundsException" ∈ BW := BW_tb 15 (by rfl) (by rfl)
theorem w_16 : Cond.initialized "java/lang/UnsupportedOperationException" ∈ BW := BW_tb 16 (by rfl) (by rfl)
theorem w_17 : Cond.initialized "java/lang/Math" ∈ BW := BW_tb 17 (by rfl) (by rfl)
theorem w_18 : Cond.initialized "java/lang/IllegalStateException" ∈ BW := BW_tb 18 (by rfl) (by rfl)
theorem w_19 : Cond.initialized "java/util/Arrays" ∈ BW := BW_tb 19 (by rfl) (by rfl)
theorem w_20 : Cond.classLink "PlanRowsLaw" 8 "PlanRows" ∈ BW := BW_tb 20 (by rfl) (by rfl)
theorem w_21 : Cond.instantiable "PlanRows" 10 ∈ BW := BW_tb 21 (by rfl) (by rfl)
theorem w_22 : Cond.methodLink "PlanRowsLaw" 86 y_Plan_init ∈ BW := BW_tb 22 (by rfl) (by rfl)
theorem w_23 : Cond.instanceMethod y_Plan_init ∈ BW := BW_tb 23 (by rfl) (by rfl)
theorem w_24 : Cond.code y_Plan_init prog_1_method_1_code 1 none ∈ BW := BW_tb 24 (by rfl) (by rfl)
theorem w_25 : Cond.methodLink "PlanRows" 1 ⟨"java/lang/Object", "<init>", "()V"⟩ ∈ BW := BW_tb 25 (by rfl) (by rfl)
theorem w_26 : Cond.instanceMethod ⟨"java/lang/Object", "<init>", "()V"⟩ ∈ BW := BW_tb 26 (by rfl) (by rfl)
theorem w_27 : Cond.code ⟨"java/lang/Object", "<init>", "()V"⟩ object_method_1_code 1 none ∈ BW := BW_tb 27 (by rfl) (by rfl)
theorem w_28 : Cond.classLink "PlanRows" 7 "PlanRows$Rooms" ∈ BW := BW_tb 28 (by rfl) (by rfl)
theorem w_29 : Cond.instantiable "PlanRows$Rooms" 4 ∈ BW := BW_tb 29 (by rfl) (by rfl)
theorem w_31 : Cond.instanceMethod y_Rooms_init ∈ BW := BW_tb 31 (by rfl) (by rfl)
theorem w_32 : Cond.code y_Rooms_init prog_6_method_1_code 1 none ∈ BW := BW_tb 32 (by rfl) (by rfl)
theorem w_33 : Cond.methodLink "PlanRows$Rooms" 3 ⟨"java/lang/Object", "<init>", "()V"⟩ ∈ BW := BW_tb 33 (by rfl) (by rfl)
theorem w_34 : Cond.fieldLink "PlanRows$Rooms" 9 "PlanRows$Rooms" "floors" "[I" ∈ BW := BW_tb 34 (by rfl) (by rfl)
theorem w_35 : Cond.fieldLink "PlanRows$Rooms" 15 "PlanRows$Rooms" "kinds" "[I" ∈ BW := BW_tb 35 (by rfl) (by rfl)
theorem w_36 : Cond.fieldLink "PlanRows$Rooms" 18 "PlanRows$Rooms" "hazards" "[I" ∈ BW := BW_tb 36 (by rfl) (by rfl)
theorem w_37 : Cond.fieldLink "PlanRows$Rooms" 21 "PlanRows$Rooms" "size" "I" ∈ BW := BW_tb 37 (by rfl) (by rfl)
theorem w_40 : Cond.laysFinal "PlanRows$Rooms" "PlanRows$Rooms" "floors" "[I" ∈ BW := BW_tb 40 (by rfl) (by rfl)
theorem w_42 : Cond.laysFinal "PlanRows$Rooms" "PlanRows$Rooms" "kinds" "[I" ∈ BW := BW_tb 42 (by rfl) (by rfl)
theorem w_44 : Cond.laysFinal "PlanRows$Rooms" "PlanRows$Rooms" "hazards" "[I" ∈ BW := BW_tb 44 (by rfl) (by rfl)
theorem w_46 : Cond.lays "PlanRows$Rooms" "PlanRows$Rooms" "size" "I" ∈ BW := BW_tb 46 (by rfl) (by rfl)
theorem w_48 : Cond.superclass "PlanRows$Rooms" "java/lang/Object" ∈ BW := BW_tb 48 (by rfl) (by rfl)
theorem w_49 : Cond.arrayClass FieldType.int ∈ BW := BW_tb 49 (by rfl) (by rfl)
theorem w_50 : Cond.classLink "PlanRows" 16 "PlanRows$Doors" ∈ BW := BW_tb 50 (by rfl) (by rfl)
theorem w_51 : Cond.instantiable "PlanRows$Doors" 5 ∈ BW := BW_tb 51 (by rfl) (by rfl)
theorem w_53 : Cond.instanceMethod y_Doors_init ∈ BW := BW_tb 53 (by rfl) (by rfl)
theorem w_54 : Cond.code y_Doors_init prog_4_method_1_code 1 none ∈ BW := BW_tb 54 (by rfl) (by rfl)
theorem w_55 : Cond.methodLink "PlanRows$Doors" 3 ⟨"java/lang/Object", "<init>", "()V"⟩ ∈ BW := BW_tb 55 (by rfl) (by rfl)
theorem w_56 : Cond.fieldLink "PlanRows$Doors" 9 "PlanRows$Doors" "firstRooms" "[I" ∈ BW := BW_tb 56 (by rfl) (by rfl)
theorem w_57 : Cond.fieldLink "PlanRows$Doors" 15 "PlanRows$Doors" "secondRooms" "[I" ∈ BW := BW_tb 57 (by rfl) (by rfl)
theorem w_58 : Cond.fieldLink "PlanRows$Doors" 18 "PlanRows$Doors" "costs" "[I" ∈ BW := BW_tb 58 (by rfl) (by rfl)
theorem w_59 : Cond.fieldLink "PlanRows$Doors" 21 "PlanRows$Doors" "keys" "[I" ∈ BW := BW_tb 59 (by rfl) (by rfl)
theorem w_60 : Cond.fieldLink "PlanRows$Doors" 24 "PlanRows$Doors" "size" "I" ∈ BW := BW_tb 60 (by rfl) (by rfl)
theorem w_63 : Cond.laysFinal "PlanRows$Doors" "PlanRows$Doors" "firstRooms" "[I" ∈ BW := BW_tb 63 (by rfl) (by rfl)
theorem w_65 : Cond.laysFinal "PlanRows$Doors" "PlanRows$Doors" "secondRooms" "[I" ∈ BW := BW_tb 65 (by rfl) (by rfl)
theorem w_67 : Cond.laysFinal "PlanRows$Doors" "PlanRows$Doors" "costs" "[I" ∈ BW := BW_tb 67 (by rfl) (by rfl)
theorem w_69 : Cond.laysFinal "PlanRows$Doors" "PlanRows$Doors" "keys" "[I" ∈ BW := BW_tb 69 (by rfl) (by rfl)
theorem w_71 : Cond.lays "PlanRows$Doors" "PlanRows$Doors" "size" "I" ∈ BW := BW_tb 71 (by rfl) (by rfl)
theorem w_73 : Cond.superclass "PlanRows$Doors" "java/lang/Object" ∈ BW := BW_tb 73 (by rfl) (by rfl)
theorem w_74 : Cond.classLink "PlanRows" 23 "PlanRows$KeyRing" ∈ BW := BW_tb 74 (by rfl) (by rfl)
theorem w_75 : Cond.instantiable "PlanRows$KeyRing" 2 ∈ BW := BW_tb 75 (by rfl) (by rfl)
theorem w_77 : Cond.instanceMethod y_Keys_init ∈ BW := BW_tb 77 (by rfl) (by rfl)
theorem w_78 : Cond.code y_Keys_init prog_5_method_1_code 1 none ∈ BW := BW_tb 78 (by rfl) (by rfl)
theorem w_79 : Cond.methodLink "PlanRows$KeyRing" 3 ⟨"java/lang/Object", "<init>", "()V"⟩ ∈ BW := BW_tb 79 (by rfl) (by rfl)
theorem w_80 : Cond.fieldLink "PlanRows$KeyRing" 9 "PlanRows$KeyRing" "atHand" "[Z" ∈ BW := BW_tb 80 (by rfl) (by rfl)
theorem w_81 : Cond.fieldLink "PlanRows$KeyRing" 19 "PlanRows$KeyRing" "size" "I" ∈ BW := BW_tb 81 (by rfl) (by rfl)
theorem w_83 : Cond.laysFinal "PlanRows$KeyRing" "PlanRows$KeyRing" "atHand" "[Z" ∈ BW := BW_tb 83 (by rfl) (by rfl)
theorem w_85 : Cond.lays "PlanRows$KeyRing" "PlanRows$KeyRing" "size" "I" ∈ BW := BW_tb 85 (by rfl) (by rfl)
theorem w_87 : Cond.superclass "PlanRows$KeyRing" "java/lang/Object" ∈ BW := BW_tb 87 (by rfl) (by rfl)
theorem w_88 : Cond.arrayClass FieldType.boolean ∈ BW := BW_tb 88 (by rfl) (by rfl)
theorem w_89 : Cond.classLink "PlanRows" 30 "PlanRows$Search" ∈ BW := BW_tb 89 (by rfl) (by rfl)
theorem w_90 : Cond.instantiable "PlanRows$Search" 4 ∈ BW := BW_tb 90 (by rfl) (by rfl)
theorem w_91 : Cond.methodLink "PlanRows" 32 y_Search_init ∈ BW := BW_tb 91 (by rfl) (by rfl)
theorem w_92 : Cond.instanceMethod y_Search_init ∈ BW := BW_tb 92 (by rfl) (by rfl)
theorem w_93 : Cond.code y_Search_init prog_8_method_1_code 4 none ∈ BW := BW_tb 93 (by rfl) (by rfl)
theorem w_94 : Cond.methodLink "PlanRows$Search" 3 ⟨"java/lang/Object", "<init>", "()V"⟩ ∈ BW := BW_tb 94 (by rfl) (by rfl)
theorem w_95 : Cond.fieldLink "PlanRows$Search" 15 "PlanRows$Search" "rooms" "LPlanRows$Rooms;" ∈ BW := BW_tb 95 (by rfl) (by rfl)
theorem w_96 : Cond.fieldLink "PlanRows$Search" 19 "PlanRows$Search" "doors" "LPlanRows$Doors;" ∈ BW := BW_tb 96 (by rfl) (by rfl)
theorem w_97 : Cond.fieldLink "PlanRows$Search" 23 "PlanRows$Search" "keyRing" "LPlanRows$KeyRing;" ∈ BW := BW_tb 97 (by rfl) (by rfl)
theorem w_98 : Cond.fieldLink "PlanRows$Search" 9 "PlanRows$Search" "costs" "[I" ∈ BW := BW_tb 98 (by rfl) (by rfl)
theorem w_99 : Cond.laysFinal "PlanRows$Search" "PlanRows$Search" "rooms" "LPlanRows$Rooms;" ∈ BW := BW_tb 99 (by rfl) (by rfl)
theorem w_101 : Cond.laysFinal "PlanRows$Search" "PlanRows$Search" "doors" "LPlanRows$Doors;" ∈ BW := BW_tb 101 (by rfl) (by rfl)
theorem w_103 : Cond.laysFinal "PlanRows$Search" "PlanRows$Search" "keyRing" "LPlanRows$KeyRing;" ∈ BW := BW_tb 103 (by rfl) (by rfl)
theorem w_105 : Cond.laysFinal "PlanRows$Search" "PlanRows$Search" "costs" "[I" ∈ BW := BW_tb 105 (by rfl) (by rfl)
theorem w_107 : Cond.superclass "PlanRows$Search" "java/lang/Object" ∈ BW := BW_tb 107 (by rfl) (by rfl)
theorem w_108 : Cond.classLink "PlanRows" 39 "PlanRows$Route" ∈ BW := BW_tb 108 (by rfl) (by rfl)
theorem w_109 : Cond.instantiable "PlanRows$Route" 4 ∈ BW := BW_tb 109 (by rfl) (by rfl)
theorem w_111 : Cond.instanceMethod y_Route_init ∈ BW := BW_tb 111 (by rfl) (by rfl)
theorem w_112 : Cond.code y_Route_init prog_7_method_1_code 1 none ∈ BW := BW_tb 112 (by rfl) (by rfl)
theorem w_113 : Cond.methodLink "PlanRows$Route" 3 ⟨"java/lang/Object", "<init>", "()V"⟩ ∈ BW := BW_tb 113 (by rfl) (by rfl)
theorem w_114 : Cond.fieldLink "PlanRows$Route" 9 "PlanRows$Route" "doorsFromEnd" "[I" ∈ BW := BW_tb 114 (by rfl) (by rfl)
theorem w_115 : Cond.fieldLink "PlanRows$Route" 19 "PlanRows$Route" "length" "I" ∈ BW := BW_tb 115 (by rfl) (by rfl)
theorem w_117 : Cond.fieldLink "PlanRows$Route" 22 "PlanRows$Route" "stairs" "I" ∈ BW := BW_tb 117 (by rfl) (by rfl)
theorem w_119 : Cond.fieldLink "PlanRows$Route" 15 "PlanRows$Route" "end" "I" ∈ BW := BW_tb 119 (by rfl) (by rfl)
theorem w_121 : Cond.laysFinal "PlanRows$Route" "PlanRows$Route" "doorsFromEnd" "[I" ∈ BW := BW_tb 121 (by rfl) (by rfl)
theorem w_123 : Cond.lays "PlanRows$Route" "PlanRows$Route" "length" "I" ∈ BW := BW_tb 123 (by rfl) (by rfl)
theorem w_125 : Cond.lays "PlanRows$Route" "PlanRows$Route" "stairs" "I" ∈ BW := BW_tb 125 (by rfl) (by rfl)
theorem w_127 : Cond.lays "PlanRows$Route" "PlanRows$Route" "end" "I" ∈ BW := BW_tb 127 (by rfl) (by rfl)
theorem w_129 : Cond.superclass "PlanRows$Route" "java/lang/Object" ∈ BW := BW_tb 129 (by rfl) (by rfl)
theorem w_130 : Cond.classLink "PlanRows" 46 "PlanRows$Detectors" ∈ BW := BW_tb 130 (by rfl) (by rfl)
theorem w_131 : Cond.instantiable "PlanRows$Detectors" 4 ∈ BW := BW_tb 131 (by rfl) (by rfl)
theorem w_133 : Cond.instanceMethod y_Det_init ∈ BW := BW_tb 133 (by rfl) (by rfl)
theorem w_134 : Cond.code y_Det_init prog_3_method_1_code 1 none ∈ BW := BW_tb 134 (by rfl) (by rfl)
theorem w_135 : Cond.methodLink "PlanRows$Detectors" 3 ⟨"java/lang/Object", "<init>", "()V"⟩ ∈ BW := BW_tb 135 (by rfl) (by rfl)
theorem w_136 : Cond.fieldLink "PlanRows$Detectors" 9 "PlanRows$Detectors" "loops" "[I" ∈ BW := BW_tb 136 (by rfl) (by rfl)
theorem w_137 : Cond.fieldLink "PlanRows$Detectors" 15 "PlanRows$Detectors" "numbers" "[I" ∈ BW := BW_tb 137 (by rfl) (by rfl)
theorem w_138 : Cond.fieldLink "PlanRows$Detectors" 18 "PlanRows$Detectors" "roomsOf" "[I" ∈ BW := BW_tb 138 (by rfl) (by rfl)
theorem w_139 : Cond.fieldLink "PlanRows$Detectors" 21 "PlanRows$Detectors" "size" "I" ∈ BW := BW_tb 139 (by rfl) (by rfl)
theorem w_141 : Cond.laysFinal "PlanRows$Detectors" "PlanRows$Detectors" "loops" "[I" ∈ BW := BW_tb 141 (by rfl) (by rfl)
theorem w_143 : Cond.laysFinal "PlanRows$Detectors" "PlanRows$Detectors" "numbers" "[I" ∈ BW := BW_tb 143 (by rfl) (by rfl)
theorem w_145 : Cond.laysFinal "PlanRows$Detectors" "PlanRows$Detectors" "roomsOf" "[I" ∈ BW := BW_tb 145 (by rfl) (by rfl)
theorem w_147 : Cond.lays "PlanRows$Detectors" "PlanRows$Detectors" "size" "I" ∈ BW := BW_tb 147 (by rfl) (by rfl)
theorem w_149 : Cond.superclass "PlanRows$Detectors" "java/lang/Object" ∈ BW := BW_tb 149 (by rfl) (by rfl)
theorem w_150 : Cond.classLink "PlanRows" 53 "PlanRows$Crowd" ∈ BW := BW_tb 150 (by rfl) (by rfl)
theorem w_151 : Cond.instantiable "PlanRows$Crowd" 5 ∈ BW := BW_tb 151 (by rfl) (by rfl)
theorem w_153 : Cond.instanceMethod y_Crowd_init ∈ BW := BW_tb 153 (by rfl) (by rfl)
theorem w_154 : Cond.code y_Crowd_init prog_2_method_1_code 1 none ∈ BW := BW_tb 154 (by rfl) (by rfl)
theorem w_155 : Cond.methodLink "PlanRows$Crowd" 3 ⟨"java/lang/Object", "<init>", "()V"⟩ ∈ BW := BW_tb 155 (by rfl) (by rfl)
theorem w_156 : Cond.fieldLink "PlanRows$Crowd" 9 "PlanRows$Crowd" "floors" "[I" ∈ BW := BW_tb 156 (by rfl) (by rfl)
theorem w_157 : Cond.fieldLink "PlanRows$Crowd" 15 "PlanRows$Crowd" "froms" "[I" ∈ BW := BW_tb 157 (by rfl) (by rfl)
theorem w_158 : Cond.fieldLink "PlanRows$Crowd" 18 "PlanRows$Crowd" "tos" "[I" ∈ BW := BW_tb 158 (by rfl) (by rfl)
theorem w_159 : Cond.fieldLink "PlanRows$Crowd" 21 "PlanRows$Crowd" "amounts" "[I" ∈ BW := BW_tb 159 (by rfl) (by rfl)
theorem w_160 : Cond.fieldLink "PlanRows$Crowd" 24 "PlanRows$Crowd" "size" "I" ∈ BW := BW_tb 160 (by rfl) (by rfl)
theorem w_161 : Cond.laysFinal "PlanRows$Crowd" "PlanRows$Crowd" "floors" "[I" ∈ BW := BW_tb 161 (by rfl) (by rfl)
theorem w_163 : Cond.laysFinal "PlanRows$Crowd" "PlanRows$Crowd" "froms" "[I" ∈ BW := BW_tb 163 (by rfl) (by rfl)
theorem w_165 : Cond.laysFinal "PlanRows$Crowd" "PlanRows$Crowd" "tos" "[I" ∈ BW := BW_tb 165 (by rfl) (by rfl)
theorem w_167 : Cond.laysFinal "PlanRows$Crowd" "PlanRows$Crowd" "amounts" "[I" ∈ BW := BW_tb 167 (by rfl) (by rfl)
theorem w_169 : Cond.lays "PlanRows$Crowd" "PlanRows$Crowd" "size" "I" ∈ BW := BW_tb 169 (by rfl) (by rfl)
theorem w_171 : Cond.superclass "PlanRows$Crowd" "java/lang/Object" ∈ BW := BW_tb 171 (by rfl) (by rfl)
theorem w_172 : Cond.classLink "PlanRows" 60 "PlanRows$Windows" ∈ BW := BW_tb 172 (by rfl) (by rfl)
theorem w_173 : Cond.instantiable "PlanRows$Windows" 4 ∈ BW := BW_tb 173 (by rfl) (by rfl)
theorem w_175 : Cond.instanceMethod y_Win_init ∈ BW := BW_tb 175 (by rfl) (by rfl)
theorem w_176 : Cond.code y_Win_init prog_9_method_1_code 1 none ∈ BW := BW_tb 176 (by rfl) (by rfl)
theorem w_177 : Cond.methodLink "PlanRows$Windows" 3 ⟨"java/lang/Object", "<init>", "()V"⟩ ∈ BW := BW_tb 177 (by rfl) (by rfl)
theorem w_178 : Cond.fieldLink "PlanRows$Windows" 9 "PlanRows$Windows" "xs" "[I" ∈ BW := BW_tb 178 (by rfl) (by rfl)
theorem w_179 : Cond.fieldLink "PlanRows$Windows" 15 "PlanRows$Windows" "ys" "[I" ∈ BW := BW_tb 179 (by rfl) (by rfl)
theorem w_180 : Cond.fieldLink "PlanRows$Windows" 18 "PlanRows$Windows" "zs" "[I" ∈ BW := BW_tb 180 (by rfl) (by rfl)
theorem w_181 : Cond.fieldLink "PlanRows$Windows" 21 "PlanRows$Windows" "size" "I" ∈ BW := BW_tb 181 (by rfl) (by rfl)
theorem w_183 : Cond.laysFinal "PlanRows$Windows" "PlanRows$Windows" "xs" "[I" ∈ BW := BW_tb 183 (by rfl) (by rfl)
theorem w_185 : Cond.laysFinal "PlanRows$Windows" "PlanRows$Windows" "ys" "[I" ∈ BW := BW_tb 185 (by rfl) (by rfl)
theorem w_187 : Cond.laysFinal "PlanRows$Windows" "PlanRows$Windows" "zs" "[I" ∈ BW := BW_tb 187 (by rfl) (by rfl)
theorem w_189 : Cond.lays "PlanRows$Windows" "PlanRows$Windows" "size" "I" ∈ BW := BW_tb 189 (by rfl) (by rfl)
theorem w_191 : Cond.superclass "PlanRows$Windows" "java/lang/Object" ∈ BW := BW_tb 191 (by rfl) (by rfl)
theorem w_192 : Cond.fieldLink "PlanRows" 10 "PlanRows" "rooms" "LPlanRows$Rooms;" ∈ BW := BW_tb 192 (by rfl) (by rfl)
theorem w_193 : Cond.fieldLink "PlanRows" 19 "PlanRows" "doors" "LPlanRows$Doors;" ∈ BW := BW_tb 193 (by rfl) (by rfl)
theorem w_194 : Cond.fieldLink "PlanRows" 26 "PlanRows" "keyRing" "LPlanRows$KeyRing;" ∈ BW := BW_tb 194 (by rfl) (by rfl)
theorem w_195 : Cond.fieldLink "PlanRows" 35 "PlanRows" "search" "LPlanRows$Search;" ∈ BW := BW_tb 195 (by rfl) (by rfl)
theorem w_196 : Cond.fieldLink "PlanRows" 42 "PlanRows" "latestWay" "LPlanRows$Route;" ∈ BW := BW_tb 196 (by rfl) (by rfl)
theorem w_197 : Cond.fieldLink "PlanRows" 49 "PlanRows" "detectors" "LPlanRows$Detectors;" ∈ BW := BW_tb 197 (by rfl) (by rfl)
theorem w_198 : Cond.fieldLink "PlanRows" 56 "PlanRows" "crowd" "LPlanRows$Crowd;" ∈ BW := BW_tb 198 (by rfl) (by rfl)
theorem w_199 : Cond.fieldLink "PlanRows" 63 "PlanRows" "windows" "LPlanRows$Windows;" ∈ BW := BW_tb 199 (by rfl) (by rfl)
theorem w_200 : Cond.fieldLink "PlanRows" 67 "PlanRows" "lookDay" "I" ∈ BW := BW_tb 200 (by rfl) (by rfl)
theorem w_201 : Cond.fieldLink "PlanRows" 71 "PlanRows" "lookTerm" "I" ∈ BW := BW_tb 201 (by rfl) (by rfl)
theorem w_202 : Cond.laysFinal "PlanRows" "PlanRows" "rooms" "LPlanRows$Rooms;" ∈ BW := BW_tb 202 (by rfl) (by rfl)
theorem w_204 : Cond.laysFinal "PlanRows" "PlanRows" "doors" "LPlanRows$Doors;" ∈ BW := BW_tb 204 (by rfl) (by rfl)
theorem w_206 : Cond.laysFinal "PlanRows" "PlanRows" "keyRing" "LPlanRows$KeyRing;" ∈ BW := BW_tb 206 (by rfl) (by rfl)
theorem w_208 : Cond.laysFinal "PlanRows" "PlanRows" "search" "LPlanRows$Search;" ∈ BW := BW_tb 208 (by rfl) (by rfl)
theorem w_210 : Cond.laysFinal "PlanRows" "PlanRows" "latestWay" "LPlanRows$Route;" ∈ BW := BW_tb 210 (by rfl) (by rfl)
theorem w_212 : Cond.laysFinal "PlanRows" "PlanRows" "detectors" "LPlanRows$Detectors;" ∈ BW := BW_tb 212 (by rfl) (by rfl)
theorem w_214 : Cond.laysFinal "PlanRows" "PlanRows" "crowd" "LPlanRows$Crowd;" ∈ BW := BW_tb 214 (by rfl) (by rfl)
theorem w_216 : Cond.laysFinal "PlanRows" "PlanRows" "windows" "LPlanRows$Windows;" ∈ BW := BW_tb 216 (by rfl) (by rfl)
theorem w_218 : Cond.lays "PlanRows" "PlanRows" "lookDay" "I" ∈ BW := BW_tb 218 (by rfl) (by rfl)
theorem w_220 : Cond.lays "PlanRows" "PlanRows" "lookTerm" "I" ∈ BW := BW_tb 220 (by rfl) (by rfl)
theorem w_222 : Cond.superclass "PlanRows" "java/lang/Object" ∈ BW := BW_tb 222 (by rfl) (by rfl)
theorem w_223 : Cond.methodLink "PlanRowsLaw" 90 y_Law_room ∈ BW := BW_tb 223 (by rfl) (by rfl)
theorem w_224 : Cond.static y_Law_room ∈ BW := BW_tb 224 (by rfl) (by rfl)
theorem w_225 : Cond.codeWith y_Law_room method_3_code 5 (some FieldType.int) [(0, 10, 13, 13), (0, 10, 17, 15), (0, 10, 21, 17)] ∈ BW := BW_tb 225 (by rfl) (by rfl)
theorem w_226 : Cond.classLink "PlanRowsLaw" 13 "java/lang/IllegalArgumentException" ∈ BW := BW_tb 226 (by rfl) (by rfl)
theorem w_227 : Cond.classLink "PlanRowsLaw" 15 "java/lang/IndexOutOfBoundsException" ∈ BW := BW_tb 227 (by rfl) (by rfl)
theorem w_228 : Cond.classLink "PlanRowsLaw" 17 "java/lang/UnsupportedOperationException" ∈ BW := BW_tb 228 (by rfl) (by rfl)
theorem w_229 : Cond.methodLink "PlanRowsLaw" 7 y_Plan_room ∈ BW := BW_tb 229 (by rfl) (by rfl)
theorem w_230 : Cond.instanceMethod y_Plan_room ∈ BW := BW_tb 230 (by rfl) (by rfl)
theorem w_231 : Cond.selects "PlanRows" y_Plan_room y_Plan_room ∈ BW := BW_tb 231 (by rfl) (by rfl)
theorem w_232 : Cond.code y_Plan_room prog_1_method_2_code 3 (some FieldType.int) ∈ BW := BW_tb 232 (by rfl) (by rfl)
theorem w_233 : Cond.methodLink "PlanRows" 74 y_Plan_wantKind ∈ BW := BW_tb 233 (by rfl) (by rfl)
theorem w_234 : Cond.static y_Plan_wantKind ∈ BW := BW_tb 234 (by rfl) (by rfl)
theorem w_235 : Cond.code y_Plan_wantKind prog_1_method_24_code 1 none ∈ BW := BW_tb 235 (by rfl) (by rfl)
theorem w_236 : Cond.classLink "PlanRows" 115 "java/lang/IllegalArgumentException" ∈ BW := BW_tb 236 (by rfl) (by rfl)
theorem w_237 : Cond.instantiable "java/lang/IllegalArgumentException" 6 ∈ BW := BW_tb 237 (by rfl) (by rfl)
theorem w_245 : Cond.selects "java/lang/IllegalArgumentException" ⟨"java/lang/Throwable", "fillInStackTrace", "(I)Ljava/lang/Throwable;"⟩ ⟨"java/lang/Throwable", "fillInStackTrace", "(I)Ljava/lang/Throwable;"⟩ ∈ BW := BW_tb 245 (by rfl) (by rfl)
theorem w_246 : Cond.selects "java/lang/IllegalArgumentException" ⟨"java/lang/Throwable", "fillInStackTrace", "()Ljava/lang/Throwable;"⟩ ⟨"java/lang/Throwable", "fillInStackTrace", "()Ljava/lang/Throwable;"⟩ ∈ BW := BW_tb 246 (by rfl) (by rfl)
theorem w_247 : Cond.lays "java/lang/IllegalArgumentException" "java/lang/Throwable" "cause" "Ljava/lang/Throwable;" ∈ BW := BW_tb 247 (by rfl) (by rfl)
theorem w_248 : Cond.lays "java/lang/Throwable" "java/lang/Throwable" "cause" "Ljava/lang/Throwable;" ∈ BW := BW_tb 248 (by rfl) (by rfl)
theorem w_249 : Cond.lays "java/lang/IllegalArgumentException" "java/lang/Throwable" "stackTrace" "[Ljava/lang/StackTraceElement;" ∈ BW := BW_tb 249 (by rfl) (by rfl)
theorem w_250 : Cond.lays "java/lang/Throwable" "java/lang/Throwable" "stackTrace" "[Ljava/lang/StackTraceElement;" ∈ BW := BW_tb 250 (by rfl) (by rfl)
theorem w_251 : Cond.lays "java/lang/IllegalArgumentException" "java/lang/Throwable" "suppressedExceptions" "Ljava/util/List;" ∈ BW := BW_tb 251 (by rfl) (by rfl)
theorem w_252 : Cond.lays "java/lang/Throwable" "java/lang/Throwable" "suppressedExceptions" "Ljava/util/List;" ∈ BW := BW_tb 252 (by rfl) (by rfl)
theorem w_253 : Cond.lays "java/lang/IllegalArgumentException" "java/lang/Throwable" "detailMessage" "Ljava/lang/String;" ∈ BW := BW_tb 253 (by rfl) (by rfl)
theorem w_254 : Cond.lays "java/lang/Throwable" "java/lang/Throwable" "detailMessage" "Ljava/lang/String;" ∈ BW := BW_tb 254 (by rfl) (by rfl)
theorem w_255 : Cond.lays "java/lang/IllegalArgumentException" "java/lang/Throwable" "backtrace" "Ljava/lang/Object;" ∈ BW := BW_tb 255 (by rfl) (by rfl)
theorem w_256 : Cond.lays "java/lang/Throwable" "java/lang/Throwable" "backtrace" "Ljava/lang/Object;" ∈ BW := BW_tb 256 (by rfl) (by rfl)
theorem w_257 : Cond.fieldLink "java/lang/Throwable" 198 "java/lang/Throwable" "backtrace" "Ljava/lang/Object;" ∈ BW := BW_tb 257 (by rfl) (by rfl)
theorem w_258 : Cond.superclass "java/lang/Throwable" "java/lang/Object" ∈ BW := BW_tb 258 (by rfl) (by rfl)
theorem w_259 : Cond.instanceMethod ⟨"java/lang/Throwable", "<init>", "()V"⟩ ∈ BW := BW_tb 259 (by rfl) (by rfl)
theorem w_260 : Cond.code ⟨"java/lang/Throwable", "<init>", "()V"⟩ prog_19_method_1_code 1 none ∈ BW := BW_tb 260 (by rfl) (by rfl)
theorem w_261 : Cond.methodLink "java/lang/Throwable" 1 ⟨"java/lang/Object", "<init>", "()V"⟩ ∈ BW := BW_tb 261 (by rfl) (by rfl)
theorem w_262 : Cond.fieldLink "java/lang/Throwable" 13 "java/lang/Throwable" "UNASSIGNED_STACK" "[Ljava/lang/StackTraceElement;" ∈ BW := BW_tb 262 (by rfl) (by rfl)
theorem w_264 : Cond.fieldLink "java/lang/Throwable" 20 "java/lang/Throwable" "SUPPRESSED_SENTINEL" "Ljava/util/List;" ∈ BW := BW_tb 264 (by rfl) (by rfl)
theorem w_266 : Cond.methodLink "java/lang/Throwable" 27 ⟨"java/lang/Throwable", "fillInStackTrace", "()Ljava/lang/Throwable;"⟩ ∈ BW := BW_tb 266 (by rfl) (by rfl)
theorem w_267 : Cond.instanceMethod ⟨"java/lang/Throwable", "fillInStackTrace", "()Ljava/lang/Throwable;"⟩ ∈ BW := BW_tb 267 (by rfl) (by rfl)
theorem w_269 : Cond.selects "java/lang/IllegalStateException" ⟨"java/lang/Throwable", "fillInStackTrace", "()Ljava/lang/Throwable;"⟩ ⟨"java/lang/Throwable", "fillInStackTrace", "()Ljava/lang/Throwable;"⟩ ∈ BW := BW_tb 269 (by rfl) (by rfl)
theorem w_270 : Cond.selects "java/lang/IndexOutOfBoundsException" ⟨"java/lang/Throwable", "fillInStackTrace", "()Ljava/lang/Throwable;"⟩ ⟨"java/lang/Throwable", "fillInStackTrace", "()Ljava/lang/Throwable;"⟩ ∈ BW := BW_tb 270 (by rfl) (by rfl)
theorem w_271 : Cond.selects "java/lang/UnsupportedOperationException" ⟨"java/lang/Throwable", "fillInStackTrace", "()Ljava/lang/Throwable;"⟩ ⟨"java/lang/Throwable", "fillInStackTrace", "()Ljava/lang/Throwable;"⟩ ∈ BW := BW_tb 271 (by rfl) (by rfl)
theorem w_272 : Cond.codeSync ⟨"java/lang/Throwable", "fillInStackTrace", "()Ljava/lang/Throwable;"⟩ prog_19_method_18_code 1 (some (FieldType.object "java/lang/Throwable")) ∈ BW := BW_tb 272 (by rfl) (by rfl)
theorem w_273 : Cond.methodLink "java/lang/Throwable" 202 ⟨"java/lang/Throwable", "fillInStackTrace", "(I)Ljava/lang/Throwable;"⟩ ∈ BW := BW_tb 273 (by rfl) (by rfl)
theorem w_275 : Cond.instanceMethod ⟨"java/lang/Throwable", "fillInStackTrace", "(I)Ljava/lang/Throwable;"⟩ ∈ BW := BW_tb 275 (by rfl) (by rfl)
theorem w_276 : Cond.instantiable "java/lang/Throwable" 6 ∈ BW := BW_tb 276 (by rfl) (by rfl)
theorem w_277 : Cond.native ⟨"java/lang/Throwable", "fillInStackTrace", "(I)Ljava/lang/Throwable;"⟩ ∈ BW := BW_tb 277 (by rfl) (by rfl)
theorem w_279 : Cond.methodLink "PlanRows" 119 ⟨"java/lang/IllegalArgumentException", "<init>", "(Ljava/lang/String;)V"⟩ ∈ BW := BW_tb 279 (by rfl) (by rfl)
theorem w_280 : Cond.instanceMethod ⟨"java/lang/IllegalArgumentException", "<init>", "(Ljava/lang/String;)V"⟩ ∈ BW := BW_tb 280 (by rfl) (by rfl)
theorem w_281 : Cond.code ⟨"java/lang/IllegalArgumentException", "<init>", "(Ljava/lang/String;)V"⟩ prog_13_method_2_code 2 none ∈ BW := BW_tb 281 (by rfl) (by rfl)
theorem w_282 : Cond.methodLink "java/lang/IllegalArgumentException" 7 ⟨"java/lang/RuntimeException", "<init>", "(Ljava/lang/String;)V"⟩ ∈ BW := BW_tb 282 (by rfl) (by rfl)
theorem w_283 : Cond.instanceMethod ⟨"java/lang/RuntimeException", "<init>", "(Ljava/lang/String;)V"⟩ ∈ BW := BW_tb 283 (by rfl) (by rfl)
theorem w_284 : Cond.code ⟨"java/lang/RuntimeException", "<init>", "(Ljava/lang/String;)V"⟩ prog_17_method_2_code 2 none ∈ BW := BW_tb 284 (by rfl) (by rfl)
theorem w_285 : Cond.methodLink "java/lang/RuntimeException" 7 ⟨"java/lang/Exception", "<init>", "(Ljava/lang/String;)V"⟩ ∈ BW := BW_tb 285 (by rfl) (by rfl)
theorem w_286 : Cond.instanceMethod ⟨"java/lang/Exception", "<init>", "(Ljava/lang/String;)V"⟩ ∈ BW := BW_tb 286 (by rfl) (by rfl)
theorem w_287 : Cond.code ⟨"java/lang/Exception", "<init>", "(Ljava/lang/String;)V"⟩ prog_12_method_2_code 2 none ∈ BW := BW_tb 287 (by rfl) (by rfl)
theorem w_288 : Cond.methodLink "java/lang/Exception" 7 ⟨"java/lang/Throwable", "<init>", "(Ljava/lang/String;)V"⟩ ∈ BW := BW_tb 288 (by rfl) (by rfl)
theorem w_289 : Cond.instanceMethod ⟨"java/lang/Throwable", "<init>", "(Ljava/lang/String;)V"⟩ ∈ BW := BW_tb 289 (by rfl) (by rfl)
theorem w_290 : Cond.code ⟨"java/lang/Throwable", "<init>", "(Ljava/lang/String;)V"⟩ prog_19_method_2_code 2 none ∈ BW := BW_tb 290 (by rfl) (by rfl)
theorem w_292 : Cond.fieldLink "java/lang/Throwable" 31 "java/lang/Throwable" "detailMessage" "Ljava/lang/String;" ∈ BW := BW_tb 292 (by rfl) (by rfl)
theorem w_293 : Cond.fieldLink "java/lang/Throwable" 7 "java/lang/Throwable" "cause" "Ljava/lang/Throwable;" ∈ BW := BW_tb 293 (by rfl) (by rfl)
theorem w_294 : Cond.fieldLink "java/lang/Throwable" 17 "java/lang/Throwable" "stackTrace" "[Ljava/lang/StackTraceElement;" ∈ BW := BW_tb 294 (by rfl) (by rfl)
theorem w_295 : Cond.fieldLink "java/lang/Throwable" 24 "java/lang/Throwable" "suppressedExceptions" "Ljava/util/List;" ∈ BW := BW_tb 295 (by rfl) (by rfl)
set_option maxRecDepth 100000 in
theorem w_300 : Cond.lays "java/lang/IllegalArgumentException" "java/lang/Throwable" "depth" "I" ∈ BW := BW_tb 300 (by rfl) (by rfl)
set_option maxRecDepth 100000 in
theorem w_303 : Cond.superclass "java/lang/IllegalArgumentException" "java/lang/RuntimeException" ∈ BW := BW_tb 303 (by rfl) (by rfl)
set_option maxRecDepth 100000 in
theorem w_304 : Cond.arrayClass FieldType.byte ∈ BW := BW_tb 304 (by rfl) (by rfl)
set_option maxRecDepth 100000 in
theorem w_305 : Cond.methodLink "PlanRows" 78 y_Plan_wantWithin ∈ BW := BW_tb 305 (by rfl) (by rfl)
set_option maxRecDepth 100000 in
theorem w_306 : Cond.static y_Plan_wantWithin ∈ BW := BW_tb 306 (by rfl) (by rfl)
set_option maxRecDepth 100000 in
theorem w_307 : Cond.code y_Plan_wantWithin prog_1_method_26_code 3 none ∈ BW := BW_tb 307 (by rfl) (by rfl)
set_option maxRecDepth 100000 in
theorem w_308 : Cond.classLink "PlanRows" 220 "java/lang/IndexOutOfBoundsException" ∈ BW := BW_tb 308 (by rfl) (by rfl)
set_option maxRecDepth 100000 in
theorem w_309 : Cond.instantiable "java/lang/IndexOutOfBoundsException" 6 ∈ BW := BW_tb 309 (by rfl) (by rfl)
set_option maxRecDepth 100000 in
theorem w_311 : Cond.selects "java/lang/IndexOutOfBoundsException" ⟨"java/lang/Throwable", "fillInStackTrace", "(I)Ljava/lang/Throwable;"⟩ ⟨"java/lang/Throwable", "fillInStackTrace", "(I)Ljava/lang/Throwable;"⟩ ∈ BW := BW_tb 311 (by rfl) (by rfl)
set_option maxRecDepth 100000 in
theorem w_312 : Cond.lays "java/lang/IndexOutOfBoundsException" "java/lang/Throwable" "cause" "Ljava/lang/Throwable;" ∈ BW := BW_tb 312 (by rfl) (by rfl)
set_option maxRecDepth 100000 in
theorem w_313 : Cond.lays "java/lang/IndexOutOfBoundsException" "java/lang/Throwable" "stackTrace" "[Ljava/lang/StackTraceElement;" ∈ BW := BW_tb 313 (by rfl) (by rfl)
set_option maxRecDepth 100000 in
theorem w_314 : Cond.lays "java/lang/IndexOutOfBoundsException" "java/lang/Throwable" "suppressedExceptions" "Ljava/util/List;" ∈ BW := BW_tb 314 (by rfl) (by rfl)
set_option maxRecDepth 100000 in
theorem w_315 : Cond.lays "java/lang/IndexOutOfBoundsException" "java/lang/Throwable" "detailMessage" "Ljava/lang/String;" ∈ BW := BW_tb 315 (by rfl) (by rfl)
set_option maxRecDepth 100000 in
theorem w_316 : Cond.lays "java/lang/IndexOutOfBoundsException" "java/lang/Throwable" "backtrace" "Ljava/lang/Object;" ∈ BW := BW_tb 316 (by rfl) (by rfl)
set_option maxRecDepth 100000 in
theorem w_318 : Cond.methodLink "PlanRows" 224 ⟨"java/lang/IndexOutOfBoundsException", "<init>", "(Ljava/lang/String;)V"⟩ ∈ BW := BW_tb 318 (by rfl) (by rfl)
set_option maxRecDepth 100000 in
theorem w_319 : Cond.instanceMethod ⟨"java/lang/IndexOutOfBoundsException", "<init>", "(Ljava/lang/String;)V"⟩ ∈ BW := BW_tb 319 (by rfl) (by rfl)
set_option maxRecDepth 100000 in
theorem w_320 : Cond.code ⟨"java/lang/IndexOutOfBoundsException", "<init>", "(Ljava/lang/String;)V"⟩ prog_15_method_2_code 2 none ∈ BW := BW_tb 320 (by rfl) (by rfl)
set_option maxRecDepth 100000 in
theorem w_321 : Cond.methodLink "java/lang/IndexOutOfBoundsException" 7 ⟨"java/lang/RuntimeException", "<init>", "(Ljava/lang/String;)V"⟩ ∈ BW := BW_tb 321 (by rfl) (by rfl)
set_option maxRecDepth 100000 in
theorem w_322 : Cond.lays "java/lang/IndexOutOfBoundsException" "java/lang/Throwable" "depth" "I" ∈ BW := BW_tb 322 (by rfl) (by rfl)
set_option maxRecDepth 100000 in
theorem w_323 : Cond.superclass "java/lang/IndexOutOfBoundsException" "java/lang/RuntimeException" ∈ BW := BW_tb 323 (by rfl) (by rfl)
set_option maxRecDepth 100000 in
theorem w_324 : Cond.methodLink "PlanRows" 82 y_Rooms_add ∈ BW := BW_tb 324 (by rfl) (by rfl)
set_option maxRecDepth 100000 in
theorem w_325 : Cond.instanceMethod y_Rooms_add ∈ BW := BW_tb 325 (by rfl) (by rfl)
set_option maxRecDepth 100000 in
theorem w_326 : Cond.selects "PlanRows$Rooms" y_Rooms_add y_Rooms_add ∈ BW := BW_tb 326 (by rfl) (by rfl)
set_option maxRecDepth 100000 in
theorem w_327 : Cond.code y_Rooms_add prog_6_method_2_code 3 (some FieldType.int) ∈ BW := BW_tb 327 (by rfl) (by rfl)
set_option maxRecDepth 100000 in
theorem w_328 : Cond.methodLink "PlanRows" 86 y_Plan_wantAdded ∈ BW := BW_tb 328 (by rfl) (by rfl)
set_option maxRecDepth 100000 in
theorem w_329 : Cond.static y_Plan_wantAdded ∈ BW := BW_tb 329 (by rfl) (by rfl)
set_option maxRecDepth 100000 in
theorem w_330 : Cond.code y_Plan_wantAdded prog_1_method_28_code 1 (some FieldType.int) ∈ BW := BW_tb 330 (by rfl) (by rfl)
set_option maxRecDepth 100000 in
theorem w_331 : Cond.classLink "PlanRows" 227 "java/lang/UnsupportedOperationException" ∈ BW := BW_tb 331 (by rfl) (by rfl)
set_option maxRecDepth 100000 in
theorem w_332 : Cond.instantiable "java/lang/UnsupportedOperationException" 6 ∈ BW := BW_tb 332 (by rfl) (by rfl)
set_option maxRecDepth 100000 in
theorem w_334 : Cond.selects "java/lang/UnsupportedOperationException" ⟨"java/lang/Throwable", "fillInStackTrace", "(I)Ljava/lang/Throwable;"⟩ ⟨"java/lang/Throwable", "fillInStackTrace", "(I)Ljava/lang/Throwable;"⟩ ∈ BW := BW_tb 334 (by rfl) (by rfl)
set_option maxRecDepth 100000 in
theorem w_335 : Cond.lays "java/lang/UnsupportedOperationException" "java/lang/Throwable" "cause" "Ljava/lang/Throwable;" ∈ BW := BW_tb 335 (by rfl) (by rfl)
set_option maxRecDepth 100000 in
theorem w_336 : Cond.lays "java/lang/UnsupportedOperationException" "java/lang/Throwable" "stackTrace" "[Ljava/lang/StackTraceElement;" ∈ BW := BW_tb 336 (by rfl) (by rfl)
set_option maxRecDepth 100000 in
theorem w_337 : Cond.lays "java/lang/UnsupportedOperationException" "java/lang/Throwable" "suppressedExceptions" "Ljava/util/List;" ∈ BW := BW_tb 337 (by rfl) (by rfl)
set_option maxRecDepth 100000 in
theorem w_338 : Cond.lays "java/lang/UnsupportedOperationException" "java/lang/Throwable" "detailMessage" "Ljava/lang/String;" ∈ BW := BW_tb 338 (by rfl) (by rfl)
set_option maxRecDepth 100000 in
theorem w_339 : Cond.lays "java/lang/UnsupportedOperationException" "java/lang/Throwable" "backtrace" "Ljava/lang/Object;" ∈ BW := BW_tb 339 (by rfl) (by rfl)
set_option maxRecDepth 100000 in
theorem w_341 : Cond.methodLink "PlanRows" 231 ⟨"java/lang/UnsupportedOperationException", "<init>", "(Ljava/lang/String;)V"⟩ ∈ BW := BW_tb 341 (by rfl) (by rfl)
set_option maxRecDepth 100000 in
theorem w_342 : Cond.instanceMethod ⟨"java/lang/UnsupportedOperationException", "<init>", "(Ljava/lang/String;)V"⟩ ∈ BW := BW_tb 342 (by rfl) (by rfl)
set_option maxRecDepth 100000 in
theorem w_343 : Cond.code ⟨"java/lang/UnsupportedOperationException", "<init>", "(Ljava/lang/String;)V"⟩ prog_20_method_2_code 2 none ∈ BW := BW_tb 343 (by rfl) (by rfl)
set_option maxRecDepth 100000 in
theorem w_344 : Cond.methodLink "java/lang/UnsupportedOperationException" 7 ⟨"java/lang/RuntimeException", "<init>", "(Ljava/lang/String;)V"⟩ ∈ BW := BW_tb 344 (by rfl) (by rfl)
set_option maxRecDepth 100000 in
theorem w_345 : Cond.lays "java/lang/UnsupportedOperationException" "java/lang/Throwable" "depth" "I" ∈ BW := BW_tb 345 (by rfl) (by rfl)
set_option maxRecDepth 100000 in
theorem w_346 : Cond.superclass "java/lang/UnsupportedOperationException" "java/lang/RuntimeException" ∈ BW := BW_tb 346 (by rfl) (by rfl)
set_option maxRecDepth 100000 in
theorem w_347 : Cond.methodLink "PlanRowsLaw" 100 y_Law_door ∈ BW := BW_tb 347 (by rfl) (by rfl)
set_option maxRecDepth 100000 in
theorem w_348 : Cond.static y_Law_door ∈ BW := BW_tb 348 (by rfl) (by rfl)
set_option maxRecDepth 100000 in
theorem w_349 : Cond.codeWith y_Law_door method_4_code 7 (some FieldType.int) [(0, 14, 17, 13), (0, 14, 21, 15), (0, 14, 25, 23), (0, 14, 29, 17)] ∈ BW := BW_tb 349 (by rfl) (by rfl)
set_option maxRecDepth 100000 in
theorem w_350 : Cond.classLink "PlanRowsLaw" 23 "java/lang/IllegalStateException" ∈ BW := BW_tb 350 (by rfl) (by rfl)
set_option maxRecDepth 100000 in
theorem w_351 : Cond.methodLink "PlanRowsLaw" 19 y_Plan_door ∈ BW := BW_tb 351 (by rfl) (by rfl)
set_option maxRecDepth 100000 in
theorem w_352 : Cond.instanceMethod y_Plan_door ∈ BW := BW_tb 352 (by rfl) (by rfl)
set_option maxRecDepth 100000 in
theorem w_353 : Cond.selects "PlanRows" y_Plan_door y_Plan_door ∈ BW := BW_tb 353 (by rfl) (by rfl)
set_option maxRecDepth 100000 in
theorem w_354 : Cond.code y_Plan_door prog_1_method_3_code 7 (some FieldType.int) ∈ BW := BW_tb 354 (by rfl) (by rfl)
set_option maxRecDepth 100000 in
theorem w_355 : Cond.methodLink "PlanRows" 90 y_Plan_wantRoom ∈ BW := BW_tb 355 (by rfl) (by rfl)
set_option maxRecDepth 100000 in
theorem w_357 : Cond.instanceMethod y_Plan_wantRoom ∈ BW := BW_tb 357 (by rfl) (by rfl)
set_option maxRecDepth 100000 in
theorem w_358 : Cond.code y_Plan_wantRoom prog_1_method_22_code 2 none ∈ BW := BW_tb 358 (by rfl) (by rfl)
set_option maxRecDepth 100000 in
theorem w_359 : Cond.methodLink "PlanRows" 211 y_Rooms_has ∈ BW := BW_tb 359 (by rfl) (by rfl)
set_option maxRecDepth 100000 in
theorem w_360 : Cond.instanceMethod y_Rooms_has ∈ BW := BW_tb 360 (by rfl) (by rfl)
set_option maxRecDepth 100000 in
theorem w_361 : Cond.selects "PlanRows$Rooms" y_Rooms_has y_Rooms_has ∈ BW := BW_tb 361 (by rfl) (by rfl)
set_option maxRecDepth 100000 in
theorem w_362 : Cond.code y_Rooms_has prog_6_method_3_code 2 (some FieldType.boolean) ∈ BW := BW_tb 362 (by rfl) (by rfl)
set_option maxRecDepth 100000 in
theorem w_364 : Cond.methodLink "PlanRows" 93 y_Rooms_floorOf ∈ BW := BW_tb 364 (by rfl) (by rfl)
set_option maxRecDepth 100000 in
theorem w_365 : Cond.instanceMethod y_Rooms_floorOf ∈ BW := BW_tb 365 (by rfl) (by rfl)
set_option maxRecDepth 100000 in
theorem w_366 : Cond.selects "PlanRows$Rooms" y_Rooms_floorOf y_Rooms_floorOf ∈ BW := BW_tb 366 (by rfl) (by rfl)
set_option maxRecDepth 100000 in
theorem w_367 : Cond.code y_Rooms_floorOf prog_6_method_4_code 2 (some FieldType.int) ∈ BW := BW_tb 367 (by rfl) (by rfl)
set_option maxRecDepth 100000 in
theorem w_368 : Cond.methodLink "PlanRows$Rooms" 25 y_Rooms_has ∈ BW := BW_tb 368 (by rfl) (by rfl)
set_option maxRecDepth 100000 in
theorem w_369 : Cond.methodLink "PlanRows" 96 ⟨"java/lang/Math", "abs", "(I)I"⟩ ∈ BW := BW_tb 369 (by rfl) (by rfl)
set_option maxRecDepth 100000 in
theorem w_370 : Cond.static ⟨"java/lang/Math", "abs", "(I)I"⟩ ∈ BW := BW_tb 370 (by rfl) (by rfl)
set_option maxRecDepth 100000 in
theorem w_371 : Cond.code ⟨"java/lang/Math", "abs", "(I)I"⟩ prog_16_method_59_code 1 (some FieldType.int) ∈ BW := BW_tb 371 (by rfl) (by rfl)
set_option maxRecDepth 100000 in
theorem w_372 : Cond.classLink "PlanRows" 101 "java/lang/IllegalStateException" ∈ BW := BW_tb 372 (by rfl) (by rfl)
set_option maxRecDepth 100000 in
theorem w_373 : Cond.instantiable "java/lang/IllegalStateException" 6 ∈ BW := BW_tb 373 (by rfl) (by rfl)
set_option maxRecDepth 100000 in
theorem w_375 : Cond.selects "java/lang/IllegalStateException" ⟨"java/lang/Throwable", "fillInStackTrace", "(I)Ljava/lang/Throwable;"⟩ ⟨"java/lang/Throwable", "fillInStackTrace", "(I)Ljava/lang/Throwable;"⟩ ∈ BW := BW_tb 375 (by rfl) (by rfl)
set_option maxRecDepth 100000 in
theorem w_376 : Cond.lays "java/lang/IllegalStateException" "java/lang/Throwable" "cause" "Ljava/lang/Throwable;" ∈ BW := BW_tb 376 (by rfl) (by rfl)
set_option maxRecDepth 100000 in
theorem w_377 : Cond.lays "java/lang/IllegalStateException" "java/lang/Throwable" "stackTrace" "[Ljava/lang/StackTraceElement;" ∈ BW := BW_tb 377 (by rfl) (by rfl)
set_option maxRecDepth 100000 in
theorem w_378 : Cond.lays "java/lang/IllegalStateException" "java/lang/Throwable" "suppressedExceptions" "Ljava/util/List;" ∈ BW := BW_tb 378 (by rfl) (by rfl)
set_option maxRecDepth 100000 in
theorem w_379 : Cond.lays "java/lang/IllegalStateException" "java/lang/Throwable" "detailMessage" "Ljava/lang/String;" ∈ BW := BW_tb 379 (by rfl) (by rfl)
set_option maxRecDepth 100000 in
theorem w_380 : Cond.lays "java/lang/IllegalStateException" "java/lang/Throwable" "backtrace" "Ljava/lang/Object;" ∈ BW := BW_tb 380 (by rfl) (by rfl)
set_option maxRecDepth 100000 in
theorem w_382 : Cond.methodLink "PlanRows" 105 ⟨"java/lang/IllegalStateException", "<init>", "(Ljava/lang/String;)V"⟩ ∈ BW := BW_tb 382 (by rfl) (by rfl)
set_option maxRecDepth 100000 in
theorem w_383 : Cond.instanceMethod ⟨"java/lang/IllegalStateException", "<init>", "(Ljava/lang/String;)V"⟩ ∈ BW := BW_tb 383 (by rfl) (by rfl)
set_option maxRecDepth 100000 in
theorem w_384 : Cond.code ⟨"java/lang/IllegalStateException", "<init>", "(Ljava/lang/String;)V"⟩ prog_14_method_2_code 2 none ∈ BW := BW_tb 384 (by rfl) (by rfl)
set_option maxRecDepth 100000 in
theorem w_385 : Cond.methodLink "java/lang/IllegalStateException" 7 ⟨"java/lang/RuntimeException", "<init>", "(Ljava/lang/String;)V"⟩ ∈ BW := BW_tb 385 (by rfl) (by rfl)
set_option maxRecDepth 100000 in
theorem w_386 : Cond.lays "java/lang/IllegalStateException" "java/lang/Throwable" "depth" "I" ∈ BW := BW_tb 386 (by rfl) (by rfl)
set_option maxRecDepth 100000 in
theorem w_387 : Cond.superclass "java/lang/IllegalStateException" "java/lang/RuntimeException" ∈ BW := BW_tb 387 (by rfl) (by rfl)
set_option maxRecDepth 100000 in
theorem w_388 : Cond.methodLink "PlanRows" 108 y_Doors_add ∈ BW := BW_tb 388 (by rfl) (by rfl)
set_option maxRecDepth 100000 in
theorem w_389 : Cond.instanceMethod y_Doors_add ∈ BW := BW_tb 389 (by rfl) (by rfl)
set_option maxRecDepth 100000 in
theorem w_390 : Cond.selects "PlanRows$Doors" y_Doors_add y_Doors_add ∈ BW := BW_tb 390 (by rfl) (by rfl)
set_option maxRecDepth 100000 in
theorem w_391 : Cond.code y_Doors_add prog_4_method_2_code 5 (some FieldType.int) ∈ BW := BW_tb 391 (by rfl) (by rfl)
set_option maxRecDepth 100000 in
theorem w_392 : Cond.methodLink "PlanRowsLaw" 104 y_Law_key ∈ BW := BW_tb 392 (by rfl) (by rfl)
set_option maxRecDepth 100000 in
theorem w_393 : Cond.static y_Law_key ∈ BW := BW_tb 393 (by rfl) (by rfl)
set_option maxRecDepth 100000 in
theorem w_394 : Cond.codeWith y_Law_key method_5_code 4 (some FieldType.int) [(0, 6, 9, 13), (0, 6, 12, 23)] ∈ BW := BW_tb 394 (by rfl) (by rfl)
set_option maxRecDepth 100000 in
theorem w_395 : Cond.methodLink "PlanRowsLaw" 25 y_Plan_key ∈ BW := BW_tb 395 (by rfl) (by rfl)
set_option maxRecDepth 100000 in
theorem w_396 : Cond.instanceMethod y_Plan_key ∈ BW := BW_tb 396 (by rfl) (by rfl)
set_option maxRecDepth 100000 in
theorem w_397 : Cond.selects "PlanRows" y_Plan_key y_Plan_key ∈ BW := BW_tb 397 (by rfl) (by rfl)
set_option maxRecDepth 100000 in
theorem w_398 : Cond.code y_Plan_key prog_1_method_4_code 3 none ∈ BW := BW_tb 398 (by rfl) (by rfl)
set_option maxRecDepth 100000 in
theorem w_399 : Cond.methodLink "PlanRows" 111 y_Keys_has ∈ BW := BW_tb 399 (by rfl) (by rfl)
set_option maxRecDepth 100000 in
theorem w_400 : Cond.instanceMethod y_Keys_has ∈ BW := BW_tb 400 (by rfl) (by rfl)
set_option maxRecDepth 100000 in
theorem w_401 : Cond.selects "PlanRows$KeyRing" y_Keys_has y_Keys_has ∈ BW := BW_tb 401 (by rfl) (by rfl)
set_option maxRecDepth 100000 in
theorem w_402 : Cond.code y_Keys_has prog_5_method_2_code 2 (some FieldType.boolean) ∈ BW := BW_tb 402 (by rfl) (by rfl)
set_option maxRecDepth 100000 in
theorem w_404 : Cond.methodLink "PlanRows" 120 y_Keys_isAtHand ∈ BW := BW_tb 404 (by rfl) (by rfl)
set_option maxRecDepth 100000 in
theorem w_405 : Cond.instanceMethod y_Keys_isAtHand ∈ BW := BW_tb 405 (by rfl) (by rfl)
set_option maxRecDepth 100000 in
theorem w_406 : Cond.selects "PlanRows$KeyRing" y_Keys_isAtHand y_Keys_isAtHand ∈ BW := BW_tb 406 (by rfl) (by rfl)
set_option maxRecDepth 100000 in
theorem w_407 : Cond.code y_Keys_isAtHand prog_5_method_3_code 2 (some FieldType.boolean) ∈ BW := BW_tb 407 (by rfl) (by rfl)
set_option maxRecDepth 100000 in
theorem w_408 : Cond.methodLink "PlanRows$KeyRing" 15 y_Keys_has ∈ BW := BW_tb 408 (by rfl) (by rfl)
set_option maxRecDepth 100000 in
theorem w_410 : Cond.methodLink "PlanRows" 125 y_Keys_put ∈ BW := BW_tb 410 (by rfl) (by rfl)
set_option maxRecDepth 100000 in
theorem w_411 : Cond.instanceMethod y_Keys_put ∈ BW := BW_tb 411 (by rfl) (by rfl)
set_option maxRecDepth 100000 in
theorem w_412 : Cond.selects "PlanRows$KeyRing" y_Keys_put y_Keys_put ∈ BW := BW_tb 412 (by rfl) (by rfl)
set_option maxRecDepth 100000 in
theorem w_413 : Cond.code y_Keys_put prog_5_method_4_code 3 none ∈ BW := BW_tb 413 (by rfl) (by rfl)
set_option maxRecDepth 100000 in
theorem w_414 : Cond.methodLink "PlanRowsLaw" 108 y_Law_hazard ∈ BW := BW_tb 414 (by rfl) (by rfl)
set_option maxRecDepth 100000 in
theorem w_415 : Cond.static y_Law_hazard ∈ BW := BW_tb 415 (by rfl) (by rfl)
set_option maxRecDepth 100000 in
theorem w_416 : Cond.codeWith y_Law_hazard method_6_code 4 (some FieldType.int) [(0, 6, 9, 13), (0, 6, 12, 15)] ∈ BW := BW_tb 416 (by rfl) (by rfl)
set_option maxRecDepth 100000 in
theorem w_417 : Cond.methodLink "PlanRowsLaw" 29 y_Plan_hazard ∈ BW := BW_tb 417 (by rfl) (by rfl)
set_option maxRecDepth 100000 in
theorem w_418 : Cond.instanceMethod y_Plan_hazard ∈ BW := BW_tb 418 (by rfl) (by rfl)
set_option maxRecDepth 100000 in
theorem w_419 : Cond.selects "PlanRows" y_Plan_hazard y_Plan_hazard ∈ BW := BW_tb 419 (by rfl) (by rfl)
set_option maxRecDepth 100000 in
theorem w_420 : Cond.code y_Plan_hazard prog_1_method_5_code 3 none ∈ BW := BW_tb 420 (by rfl) (by rfl)
set_option maxRecDepth 100000 in
theorem w_421 : Cond.methodLink "PlanRows" 129 y_Rooms_setHazards ∈ BW := BW_tb 421 (by rfl) (by rfl)
set_option maxRecDepth 100000 in
theorem w_422 : Cond.instanceMethod y_Rooms_setHazards ∈ BW := BW_tb 422 (by rfl) (by rfl)
set_option maxRecDepth 100000 in
theorem w_423 : Cond.selects "PlanRows$Rooms" y_Rooms_setHazards y_Rooms_setHazards ∈ BW := BW_tb 423 (by rfl) (by rfl)
set_option maxRecDepth 100000 in
theorem w_424 : Cond.code y_Rooms_setHazards prog_6_method_7_code 3 none ∈ BW := BW_tb 424 (by rfl) (by rfl)
set_option maxRecDepth 100000 in
theorem w_425 : Cond.methodLink "PlanRowsLaw" 112 y_Law_way ∈ BW := BW_tb 425 (by rfl) (by rfl)
set_option maxRecDepth 100000 in
theorem w_426 : Cond.static y_Law_way ∈ BW := BW_tb 426 (by rfl) (by rfl)
set_option maxRecDepth 100000 in
theorem w_427 : Cond.codeWith y_Law_way method_7_code 6 (some FieldType.int) [(0, 12, 15, 13), (0, 12, 19, 15)] ∈ BW := BW_tb 427 (by rfl) (by rfl)
set_option maxRecDepth 100000 in
theorem w_428 : Cond.methodLink "PlanRowsLaw" 33 y_Plan_way ∈ BW := BW_tb 428 (by rfl) (by rfl)
set_option maxRecDepth 100000 in
theorem w_429 : Cond.instanceMethod y_Plan_way ∈ BW := BW_tb 429 (by rfl) (by rfl)
set_option maxRecDepth 100000 in
theorem w_430 : Cond.selects "PlanRows" y_Plan_way y_Plan_way ∈ BW := BW_tb 430 (by rfl) (by rfl)
set_option maxRecDepth 100000 in
theorem w_431 : Cond.code y_Plan_way prog_1_method_6_code 5 (some FieldType.int) ∈ BW := BW_tb 431 (by rfl) (by rfl)
set_option maxRecDepth 100000 in
theorem w_432 : Cond.methodLink "PlanRows" 133 y_Search_spreadFromRoom ∈ BW := BW_tb 432 (by rfl) (by rfl)
set_option maxRecDepth 100000 in
theorem w_433 : Cond.instanceMethod y_Search_spreadFromRoom ∈ BW := BW_tb 433 (by rfl) (by rfl)
set_option maxRecDepth 100000 in
theorem w_434 : Cond.selects "PlanRows$Search" y_Search_spreadFromRoom y_Search_spreadFromRoom ∈ BW := BW_tb 434 (by rfl) (by rfl)
set_option maxRecDepth 100000 in
theorem w_435 : Cond.code y_Search_spreadFromRoom prog_8_method_2_code 3 none ∈ BW := BW_tb 435 (by rfl) (by rfl)
set_option maxRecDepth 100000 in
theorem w_436 : Cond.constant "PlanRows$Search" 27 1000000000 ∈ BW := BW_tb 436 (by rfl) (by rfl)
set_option maxRecDepth 100000 in
theorem w_437 : Cond.methodLink "PlanRows$Search" 28 y_Arr_fill ∈ BW := BW_tb 437 (by rfl) (by rfl)
set_option maxRecDepth 100000 in
theorem w_438 : Cond.static y_Arr_fill ∈ BW := BW_tb 438 (by rfl) (by rfl)
set_option maxRecDepth 100000 in
theorem w_439 : Cond.code y_Arr_fill prog_21_method_103_code 4 none ∈ BW := BW_tb 439 (by rfl) (by rfl)
set_option maxRecDepth 100000 in
theorem w_440 : Cond.methodLink "PlanRows$Search" 34 y_Rooms_has ∈ BW := BW_tb 440 (by rfl) (by rfl)
set_option maxRecDepth 100000 in
theorem w_441 : Cond.methodLink "PlanRows$Search" 40 y_Search_spread ∈ BW := BW_tb 441 (by rfl) (by rfl)
set_option maxRecDepth 100000 in
theorem w_443 : Cond.instanceMethod y_Search_spread ∈ BW := BW_tb 443 (by rfl) (by rfl)
set_option maxRecDepth 100000 in
theorem w_444 : Cond.code y_Search_spread prog_8_method_4_code 4 none ∈ BW := BW_tb 444 (by rfl) (by rfl)
set_option maxRecDepth 100000 in
theorem w_445 : Cond.methodLink "PlanRows$Search" 48 y_Search_spreadOverAllDoors ∈ BW := BW_tb 445 (by rfl) (by rfl)
set_option maxRecDepth 100000 in
theorem w_447 : Cond.instanceMethod y_Search_spreadOverAllDoors ∈ BW := BW_tb 447 (by rfl) (by rfl)
set_option maxRecDepth 100000 in
theorem w_448 : Cond.code y_Search_spreadOverAllDoors prog_8_method_5_code 9 (some FieldType.boolean) ∈ BW := BW_tb 448 (by rfl) (by rfl)
set_option maxRecDepth 100000 in
theorem w_449 : Cond.methodLink "PlanRows$Search" 57 y_Search_isPassed ∈ BW := BW_tb 449 (by rfl) (by rfl)
set_option maxRecDepth 100000 in
theorem w_451 : Cond.instanceMethod y_Search_isPassed ∈ BW := BW_tb 451 (by rfl) (by rfl)
set_option maxRecDepth 100000 in
theorem w_452 : Cond.code y_Search_isPassed prog_8_method_7_code 3 (some FieldType.boolean) ∈ BW := BW_tb 452 (by rfl) (by rfl)
set_option maxRecDepth 100000 in
theorem w_453 : Cond.methodLink "PlanRows$Search" 80 y_Doors_keyOf ∈ BW := BW_tb 453 (by rfl) (by rfl)
set_option maxRecDepth 100000 in
theorem w_454 : Cond.instanceMethod y_Doors_keyOf ∈ BW := BW_tb 454 (by rfl) (by rfl)
set_option maxRecDepth 100000 in
theorem w_455 : Cond.selects "PlanRows$Doors" y_Doors_keyOf y_Doors_keyOf ∈ BW := BW_tb 455 (by rfl) (by rfl)
set_option maxRecDepth 100000 in
theorem w_456 : Cond.code y_Doors_keyOf prog_4_method_7_code 2 (some FieldType.int) ∈ BW := BW_tb 456 (by rfl) (by rfl)
set_option maxRecDepth 100000 in
theorem w_457 : Cond.methodLink "PlanRows$Doors" 28 y_Doors_has ∈ BW := BW_tb 457 (by rfl) (by rfl)
set_option maxRecDepth 100000 in
theorem w_458 : Cond.instanceMethod y_Doors_has ∈ BW := BW_tb 458 (by rfl) (by rfl)
set_option maxRecDepth 100000 in
theorem w_459 : Cond.selects "PlanRows$Doors" y_Doors_has y_Doors_has ∈ BW := BW_tb 459 (by rfl) (by rfl)
set_option maxRecDepth 100000 in
theorem w_460 : Cond.code y_Doors_has prog_4_method_3_code 2 (some FieldType.boolean) ∈ BW := BW_tb 460 (by rfl) (by rfl)
set_option maxRecDepth 100000 in
theorem w_461 : Cond.methodLink "PlanRows$Search" 83 y_Keys_isAtHand ∈ BW := BW_tb 461 (by rfl) (by rfl)
set_option maxRecDepth 100000 in
theorem w_462 : Cond.methodLink "PlanRows$Search" 60 y_Doors_firstRoomOf ∈ BW := BW_tb 462 (by rfl) (by rfl)
set_option maxRecDepth 100000 in
theorem w_463 : Cond.instanceMethod y_Doors_firstRoomOf ∈ BW := BW_tb 463 (by rfl) (by rfl)
set_option maxRecDepth 100000 in
theorem w_464 : Cond.selects "PlanRows$Doors" y_Doors_firstRoomOf y_Doors_firstRoomOf ∈ BW := BW_tb 464 (by rfl) (by rfl)
set_option maxRecDepth 100000 in
theorem w_465 : Cond.code y_Doors_firstRoomOf prog_4_method_4_code 2 (some FieldType.int) ∈ BW := BW_tb 465 (by rfl) (by rfl)
set_option maxRecDepth 100000 in
theorem w_466 : Cond.methodLink "PlanRows$Search" 64 y_Doors_secondRoomOf ∈ BW := BW_tb 466 (by rfl) (by rfl)
set_option maxRecDepth 100000 in
theorem w_467 : Cond.instanceMethod y_Doors_secondRoomOf ∈ BW := BW_tb 467 (by rfl) (by rfl)
set_option maxRecDepth 100000 in
theorem w_468 : Cond.selects "PlanRows$Doors" y_Doors_secondRoomOf y_Doors_secondRoomOf ∈ BW := BW_tb 468 (by rfl) (by rfl)
set_option maxRecDepth 100000 in
theorem w_469 : Cond.code y_Doors_secondRoomOf prog_4_method_5_code 2 (some FieldType.int) ∈ BW := BW_tb 469 (by rfl) (by rfl)
set_option maxRecDepth 100000 in
theorem w_470 : Cond.methodLink "PlanRows$Search" 67 y_Doors_costOf ∈ BW := BW_tb 470 (by rfl) (by rfl)
set_option maxRecDepth 100000 in
theorem w_471 : Cond.instanceMethod y_Doors_costOf ∈ BW := BW_tb 471 (by rfl) (by rfl)
set_option maxRecDepth 100000 in
theorem w_472 : Cond.selects "PlanRows$Doors" y_Doors_costOf y_Doors_costOf ∈ BW := BW_tb 472 (by rfl) (by rfl)
set_option maxRecDepth 100000 in
theorem w_473 : Cond.code y_Doors_costOf prog_4_method_6_code 2 (some FieldType.int) ∈ BW := BW_tb 473 (by rfl) (by rfl)
set_option maxRecDepth 100000 in
theorem w_474 : Cond.methodLink "PlanRows$Search" 70 y_Search_lowerCost ∈ BW := BW_tb 474 (by rfl) (by rfl)
set_option maxRecDepth 100000 in
theorem w_476 : Cond.instanceMethod y_Search_lowerCost ∈ BW := BW_tb 476 (by rfl) (by rfl)
set_option maxRecDepth 100000 in
theorem w_477 : Cond.code y_Search_lowerCost prog_8_method_6_code 6 (some FieldType.boolean) ∈ BW := BW_tb 477 (by rfl) (by rfl)
set_option maxRecDepth 100000 in
theorem w_478 : Cond.methodLink "PlanRows$Search" 74 y_Search_isReached ∈ BW := BW_tb 478 (by rfl) (by rfl)
set_option maxRecDepth 100000 in
theorem w_480 : Cond.instanceMethod y_Search_isReached ∈ BW := BW_tb 480 (by rfl) (by rfl)
set_option maxRecDepth 100000 in
theorem w_481 : Cond.code y_Search_isReached prog_8_method_8_code 2 (some FieldType.boolean) ∈ BW := BW_tb 481 (by rfl) (by rfl)
set_option maxRecDepth 100000 in
theorem w_482 : Cond.methodLink "PlanRows$Search" 77 y_Rooms_hasHazardOf ∈ BW := BW_tb 482 (by rfl) (by rfl)
set_option maxRecDepth 100000 in
theorem w_483 : Cond.instanceMethod y_Rooms_hasHazardOf ∈ BW := BW_tb 483 (by rfl) (by rfl)
set_option maxRecDepth 100000 in
theorem w_484 : Cond.selects "PlanRows$Rooms" y_Rooms_hasHazardOf y_Rooms_hasHazardOf ∈ BW := BW_tb 484 (by rfl) (by rfl)
set_option maxRecDepth 100000 in
theorem w_485 : Cond.code y_Rooms_hasHazardOf prog_6_method_6_code 3 (some FieldType.boolean) ∈ BW := BW_tb 485 (by rfl) (by rfl)
set_option maxRecDepth 100000 in
theorem w_486 : Cond.methodLink "PlanRows" 136 y_Search_nearestOf ∈ BW := BW_tb 486 (by rfl) (by rfl)
set_option maxRecDepth 100000 in
theorem w_487 : Cond.instanceMethod y_Search_nearestOf ∈ BW := BW_tb 487 (by rfl) (by rfl)
set_option maxRecDepth 100000 in
theorem w_488 : Cond.selects "PlanRows$Search" y_Search_nearestOf y_Search_nearestOf ∈ BW := BW_tb 488 (by rfl) (by rfl)
set_option maxRecDepth 100000 in
theorem w_489 : Cond.code y_Search_nearestOf prog_8_method_9_code 5 (some FieldType.int) ∈ BW := BW_tb 489 (by rfl) (by rfl)
set_option maxRecDepth 100000 in
theorem w_490 : Cond.methodLink "PlanRows$Search" 44 y_Rooms_isOfKind ∈ BW := BW_tb 490 (by rfl) (by rfl)
set_option maxRecDepth 100000 in
theorem w_491 : Cond.instanceMethod y_Rooms_isOfKind ∈ BW := BW_tb 491 (by rfl) (by rfl)
set_option maxRecDepth 100000 in
theorem w_492 : Cond.selects "PlanRows$Rooms" y_Rooms_isOfKind y_Rooms_isOfKind ∈ BW := BW_tb 492 (by rfl) (by rfl)
set_option maxRecDepth 100000 in
theorem w_493 : Cond.code y_Rooms_isOfKind prog_6_method_5_code 3 (some FieldType.boolean) ∈ BW := BW_tb 493 (by rfl) (by rfl)
set_option maxRecDepth 100000 in
theorem w_494 : Cond.methodLink "PlanRows" 139 y_Search_tellWayTo ∈ BW := BW_tb 494 (by rfl) (by rfl)
set_option maxRecDepth 100000 in
theorem w_495 : Cond.instanceMethod y_Search_tellWayTo ∈ BW := BW_tb 495 (by rfl) (by rfl)
set_option maxRecDepth 100000 in
theorem w_496 : Cond.selects "PlanRows$Search" y_Search_tellWayTo y_Search_tellWayTo ∈ BW := BW_tb 496 (by rfl) (by rfl)
set_option maxRecDepth 100000 in
theorem w_497 : Cond.code y_Search_tellWayTo prog_8_method_12_code 6 none ∈ BW := BW_tb 497 (by rfl) (by rfl)
set_option maxRecDepth 100000 in
theorem w_498 : Cond.methodLink "PlanRows$Search" 89 y_Search_stairsTo ∈ BW := BW_tb 498 (by rfl) (by rfl)
set_option maxRecDepth 100000 in
theorem w_500 : Cond.instanceMethod y_Search_stairsTo ∈ BW := BW_tb 500 (by rfl) (by rfl)
set_option maxRecDepth 100000 in
theorem w_501 : Cond.code y_Search_stairsTo prog_8_method_11_code 2 (some FieldType.int) ∈ BW := BW_tb 501 (by rfl) (by rfl)
set_option maxRecDepth 100000 in
theorem w_502 : Cond.methodLink "PlanRows$Search" 92 y_Route_restart ∈ BW := BW_tb 502 (by rfl) (by rfl)
set_option maxRecDepth 100000 in
theorem w_503 : Cond.instanceMethod y_Route_restart ∈ BW := BW_tb 503 (by rfl) (by rfl)
set_option maxRecDepth 100000 in
theorem w_504 : Cond.selects "PlanRows$Route" y_Route_restart y_Route_restart ∈ BW := BW_tb 504 (by rfl) (by rfl)
set_option maxRecDepth 100000 in
theorem w_505 : Cond.code y_Route_restart prog_7_method_2_code 3 none ∈ BW := BW_tb 505 (by rfl) (by rfl)
set_option maxRecDepth 100000 in
theorem w_506 : Cond.methodLink "PlanRows$Search" 98 y_Search_lowestDoorInto ∈ BW := BW_tb 506 (by rfl) (by rfl)
set_option maxRecDepth 100000 in
theorem w_508 : Cond.instanceMethod y_Search_lowestDoorInto ∈ BW := BW_tb 508 (by rfl) (by rfl)
set_option maxRecDepth 100000 in
theorem w_509 : Cond.code y_Search_lowestDoorInto prog_8_method_13_code 4 (some FieldType.int) ∈ BW := BW_tb 509 (by rfl) (by rfl)
set_option maxRecDepth 100000 in
theorem w_510 : Cond.methodLink "PlanRows$Search" 104 y_Doors_roomBehind ∈ BW := BW_tb 510 (by rfl) (by rfl)
set_option maxRecDepth 100000 in
theorem w_511 : Cond.instanceMethod y_Doors_roomBehind ∈ BW := BW_tb 511 (by rfl) (by rfl)
set_option maxRecDepth 100000 in
theorem w_512 : Cond.selects "PlanRows$Doors" y_Doors_roomBehind y_Doors_roomBehind ∈ BW := BW_tb 512 (by rfl) (by rfl)
set_option maxRecDepth 100000 in
theorem w_513 : Cond.code y_Doors_roomBehind prog_4_method_8_code 3 (some FieldType.int) ∈ BW := BW_tb 513 (by rfl) (by rfl)
set_option maxRecDepth 100000 in
theorem w_514 : Cond.methodLink "PlanRows$Doors" 32 y_Doors_firstRoomOf ∈ BW := BW_tb 514 (by rfl) (by rfl)
set_option maxRecDepth 100000 in
theorem w_515 : Cond.methodLink "PlanRows$Doors" 36 y_Doors_secondRoomOf ∈ BW := BW_tb 515 (by rfl) (by rfl)
set_option maxRecDepth 100000 in
theorem w_516 : Cond.methodLink "PlanRows$Search" 101 y_Route_addBefore ∈ BW := BW_tb 516 (by rfl) (by rfl)
set_option maxRecDepth 100000 in
theorem w_517 : Cond.instanceMethod y_Route_addBefore ∈ BW := BW_tb 517 (by rfl) (by rfl)
set_option maxRecDepth 100000 in
theorem w_518 : Cond.selects "PlanRows$Route" y_Route_addBefore y_Route_addBefore ∈ BW := BW_tb 518 (by rfl) (by rfl)
set_option maxRecDepth 100000 in
theorem w_519 : Cond.code y_Route_addBefore prog_7_method_3_code 2 none ∈ BW := BW_tb 519 (by rfl) (by rfl)
set_option maxRecDepth 100000 in
theorem w_520 : Cond.methodLink "PlanRows" 143 y_Search_metresTo ∈ BW := BW_tb 520 (by rfl) (by rfl)
set_option maxRecDepth 100000 in
theorem w_521 : Cond.instanceMethod y_Search_metresTo ∈ BW := BW_tb 521 (by rfl) (by rfl)
set_option maxRecDepth 100000 in
theorem w_522 : Cond.selects "PlanRows$Search" y_Search_metresTo y_Search_metresTo ∈ BW := BW_tb 522 (by rfl) (by rfl)
set_option maxRecDepth 100000 in
theorem w_523 : Cond.code y_Search_metresTo prog_8_method_10_code 2 (some FieldType.int) ∈ BW := BW_tb 523 (by rfl) (by rfl)
set_option maxRecDepth 100000 in
theorem w_524 : Cond.methodLink "PlanRowsLaw" 116 y_Law_step ∈ BW := BW_tb 524 (by rfl) (by rfl)
set_option maxRecDepth 100000 in
theorem w_525 : Cond.static y_Law_step ∈ BW := BW_tb 525 (by rfl) (by rfl)
set_option maxRecDepth 100000 in
theorem w_526 : Cond.codeWith y_Law_step method_8_code 4 (some FieldType.int) [(0, 9, 12, 15)] ∈ BW := BW_tb 526 (by rfl) (by rfl)
set_option maxRecDepth 100000 in
theorem w_527 : Cond.methodLink "PlanRowsLaw" 37 y_Plan_step ∈ BW := BW_tb 527 (by rfl) (by rfl)
set_option maxRecDepth 100000 in
theorem w_528 : Cond.instanceMethod y_Plan_step ∈ BW := BW_tb 528 (by rfl) (by rfl)
set_option maxRecDepth 100000 in
theorem w_529 : Cond.selects "PlanRows" y_Plan_step y_Plan_step ∈ BW := BW_tb 529 (by rfl) (by rfl)
set_option maxRecDepth 100000 in
theorem w_530 : Cond.code y_Plan_step prog_1_method_7_code 2 (some FieldType.int) ∈ BW := BW_tb 530 (by rfl) (by rfl)
set_option maxRecDepth 100000 in
theorem w_531 : Cond.methodLink "PlanRows" 146 y_Plan_wantNotBelowZero ∈ BW := BW_tb 531 (by rfl) (by rfl)
set_option maxRecDepth 100000 in
theorem w_532 : Cond.static y_Plan_wantNotBelowZero ∈ BW := BW_tb 532 (by rfl) (by rfl)
set_option maxRecDepth 100000 in
theorem w_533 : Cond.code y_Plan_wantNotBelowZero prog_1_method_27_code 1 none ∈ BW := BW_tb 533 (by rfl) (by rfl)
set_option maxRecDepth 100000 in
theorem w_535 : Cond.methodLink "PlanRows" 149 y_Route_doorAt ∈ BW := BW_tb 535 (by rfl) (by rfl)
set_option maxRecDepth 100000 in
theorem w_536 : Cond.instanceMethod y_Route_doorAt ∈ BW := BW_tb 536 (by rfl) (by rfl)
set_option maxRecDepth 100000 in
theorem w_537 : Cond.selects "PlanRows$Route" y_Route_doorAt y_Route_doorAt ∈ BW := BW_tb 537 (by rfl) (by rfl)
set_option maxRecDepth 100000 in
theorem w_538 : Cond.code y_Route_doorAt prog_7_method_4_code 2 (some FieldType.int) ∈ BW := BW_tb 538 (by rfl) (by rfl)
set_option maxRecDepth 100000 in
theorem w_539 : Cond.methodLink "PlanRowsLaw" 120 y_Law_told ∈ BW := BW_tb 539 (by rfl) (by rfl)
set_option maxRecDepth 100000 in
theorem w_540 : Cond.static y_Law_told ∈ BW := BW_tb 540 (by rfl) (by rfl)
set_option maxRecDepth 100000 in
theorem w_541 : Cond.codeWith y_Law_told method_9_code 4 (some FieldType.int) [(0, 9, 12, 13)] ∈ BW := BW_tb 541 (by rfl) (by rfl)
set_option maxRecDepth 100000 in
theorem w_542 : Cond.methodLink "PlanRowsLaw" 41 y_Plan_told ∈ BW := BW_tb 542 (by rfl) (by rfl)
set_option maxRecDepth 100000 in
theorem w_543 : Cond.instanceMethod y_Plan_told ∈ BW := BW_tb 543 (by rfl) (by rfl)
set_option maxRecDepth 100000 in
theorem w_544 : Cond.selects "PlanRows" y_Plan_told y_Plan_told ∈ BW := BW_tb 544 (by rfl) (by rfl)
set_option maxRecDepth 100000 in
theorem w_545 : Cond.code y_Plan_told prog_1_method_8_code 2 (some FieldType.int) ∈ BW := BW_tb 545 (by rfl) (by rfl)
set_option maxRecDepth 100000 in
theorem w_547 : Cond.methodLink "PlanRowsLaw" 123 y_Law_hoses ∈ BW := BW_tb 547 (by rfl) (by rfl)
set_option maxRecDepth 100000 in
theorem w_548 : Cond.static y_Law_hoses ∈ BW := BW_tb 548 (by rfl) (by rfl)
set_option maxRecDepth 100000 in
theorem w_549 : Cond.codeWith y_Law_hoses method_10_code 5 (some FieldType.int) [(0, 10, 13, 13), (0, 10, 17, 15)] ∈ BW := BW_tb 549 (by rfl) (by rfl)
set_option maxRecDepth 100000 in
theorem w_550 : Cond.methodLink "PlanRowsLaw" 44 y_Plan_hoses ∈ BW := BW_tb 550 (by rfl) (by rfl)
set_option maxRecDepth 100000 in
theorem w_551 : Cond.instanceMethod y_Plan_hoses ∈ BW := BW_tb 551 (by rfl) (by rfl)
set_option maxRecDepth 100000 in
theorem w_552 : Cond.selects "PlanRows" y_Plan_hoses y_Plan_hoses ∈ BW := BW_tb 552 (by rfl) (by rfl)
set_option maxRecDepth 100000 in
theorem w_553 : Cond.code y_Plan_hoses prog_1_method_9_code 4 (some FieldType.int) ∈ BW := BW_tb 553 (by rfl) (by rfl)
set_option maxRecDepth 100000 in
theorem w_554 : Cond.methodLink "PlanRowsLaw" 126 y_Law_trapped ∈ BW := BW_tb 554 (by rfl) (by rfl)
set_option maxRecDepth 100000 in
theorem w_555 : Cond.static y_Law_trapped ∈ BW := BW_tb 555 (by rfl) (by rfl)
set_option maxRecDepth 100000 in
theorem w_556 : Cond.codeWith y_Law_trapped method_11_code 4 (some FieldType.int) [(0, 9, 12, 15)] ∈ BW := BW_tb 556 (by rfl) (by rfl)
set_option maxRecDepth 100000 in
theorem w_557 : Cond.methodLink "PlanRowsLaw" 47 y_Plan_trapped ∈ BW := BW_tb 557 (by rfl) (by rfl)
set_option maxRecDepth 100000 in
theorem w_558 : Cond.instanceMethod y_Plan_trapped ∈ BW := BW_tb 558 (by rfl) (by rfl)
set_option maxRecDepth 100000 in
theorem w_559 : Cond.selects "PlanRows" y_Plan_trapped y_Plan_trapped ∈ BW := BW_tb 559 (by rfl) (by rfl)
set_option maxRecDepth 100000 in
theorem w_560 : Cond.code y_Plan_trapped prog_1_method_10_code 2 (some FieldType.int) ∈ BW := BW_tb 560 (by rfl) (by rfl)
set_option maxRecDepth 100000 in
theorem w_561 : Cond.methodLink "PlanRows" 163 y_Search_spreadFromKind ∈ BW := BW_tb 561 (by rfl) (by rfl)
set_option maxRecDepth 100000 in
theorem w_562 : Cond.instanceMethod y_Search_spreadFromKind ∈ BW := BW_tb 562 (by rfl) (by rfl)
set_option maxRecDepth 100000 in
theorem w_563 : Cond.selects "PlanRows$Search" y_Search_spreadFromKind y_Search_spreadFromKind ∈ BW := BW_tb 563 (by rfl) (by rfl)
set_option maxRecDepth 100000 in
theorem w_564 : Cond.code y_Search_spreadFromKind prog_8_method_3_code 3 none ∈ BW := BW_tb 564 (by rfl) (by rfl)
set_option maxRecDepth 100000 in
theorem w_565 : Cond.methodLink "PlanRows" 166 y_Search_unreachedAt ∈ BW := BW_tb 565 (by rfl) (by rfl)
set_option maxRecDepth 100000 in
theorem w_566 : Cond.instanceMethod y_Search_unreachedAt ∈ BW := BW_tb 566 (by rfl) (by rfl)
set_option maxRecDepth 100000 in
theorem w_567 : Cond.selects "PlanRows$Search" y_Search_unreachedAt y_Search_unreachedAt ∈ BW := BW_tb 567 (by rfl) (by rfl)
set_option maxRecDepth 100000 in
theorem w_568 : Cond.code y_Search_unreachedAt prog_8_method_14_code 4 (some FieldType.int) ∈ BW := BW_tb 568 (by rfl) (by rfl)
set_option maxRecDepth 100000 in
theorem w_569 : Cond.methodLink "PlanRowsLaw" 129 y_Law_missing ∈ BW := BW_tb 569 (by rfl) (by rfl)
set_option maxRecDepth 100000 in
theorem w_570 : Cond.static y_Law_missing ∈ BW := BW_tb 570 (by rfl) (by rfl)
set_option maxRecDepth 100000 in
theorem w_571 : Cond.codeWith y_Law_missing method_12_code 4 (some FieldType.int) [(0, 9, 12, 15)] ∈ BW := BW_tb 571 (by rfl) (by rfl)
set_option maxRecDepth 100000 in
theorem w_572 : Cond.methodLink "PlanRowsLaw" 50 y_Plan_missing ∈ BW := BW_tb 572 (by rfl) (by rfl)
set_option maxRecDepth 100000 in
theorem w_573 : Cond.instanceMethod y_Plan_missing ∈ BW := BW_tb 573 (by rfl) (by rfl)
set_option maxRecDepth 100000 in
theorem w_574 : Cond.selects "PlanRows" y_Plan_missing y_Plan_missing ∈ BW := BW_tb 574 (by rfl) (by rfl)
set_option maxRecDepth 100000 in
theorem w_575 : Cond.code y_Plan_missing prog_1_method_11_code 4 (some FieldType.int) ∈ BW := BW_tb 575 (by rfl) (by rfl)
set_option maxRecDepth 100000 in
theorem w_576 : Cond.methodLink "PlanRows" 169 y_Doors_anyHasKey ∈ BW := BW_tb 576 (by rfl) (by rfl)
set_option maxRecDepth 100000 in
theorem w_577 : Cond.instanceMethod y_Doors_anyHasKey ∈ BW := BW_tb 577 (by rfl) (by rfl)
set_option maxRecDepth 100000 in
theorem w_578 : Cond.selects "PlanRows$Doors" y_Doors_anyHasKey y_Doors_anyHasKey ∈ BW := BW_tb 578 (by rfl) (by rfl)
set_option maxRecDepth 100000 in
theorem w_579 : Cond.code y_Doors_anyHasKey prog_4_method_9_code 3 (some FieldType.boolean) ∈ BW := BW_tb 579 (by rfl) (by rfl)
set_option maxRecDepth 100000 in
theorem w_580 : Cond.methodLink "PlanRowsLaw" 132 y_Law_detector ∈ BW := BW_tb 580 (by rfl) (by rfl)
set_option maxRecDepth 100000 in
theorem w_581 : Cond.static y_Law_detector ∈ BW := BW_tb 581 (by rfl) (by rfl)
set_option maxRecDepth 100000 in
theorem w_582 : Cond.codeWith y_Law_detector method_13_code 5 (some FieldType.int) [(0, 7, 10, 13), (0, 7, 14, 15), (0, 7, 18, 23), (0, 7, 22, 17)] ∈ BW := BW_tb 582 (by rfl) (by rfl)
set_option maxRecDepth 100000 in
theorem w_583 : Cond.methodLink "PlanRowsLaw" 53 y_Plan_detector ∈ BW := BW_tb 583 (by rfl) (by rfl)
set_option maxRecDepth 100000 in
theorem w_584 : Cond.instanceMethod y_Plan_detector ∈ BW := BW_tb 584 (by rfl) (by rfl)
set_option maxRecDepth 100000 in
theorem w_585 : Cond.selects "PlanRows" y_Plan_detector y_Plan_detector ∈ BW := BW_tb 585 (by rfl) (by rfl)
set_option maxRecDepth 100000 in
theorem w_586 : Cond.code y_Plan_detector prog_1_method_12_code 4 none ∈ BW := BW_tb 586 (by rfl) (by rfl)
set_option maxRecDepth 100000 in
theorem w_587 : Cond.methodLink "PlanRows" 172 y_Det_roomOf ∈ BW := BW_tb 587 (by rfl) (by rfl)
set_option maxRecDepth 100000 in
theorem w_588 : Cond.instanceMethod y_Det_roomOf ∈ BW := BW_tb 588 (by rfl) (by rfl)
set_option maxRecDepth 100000 in
theorem w_589 : Cond.selects "PlanRows$Detectors" y_Det_roomOf y_Det_roomOf ∈ BW := BW_tb 589 (by rfl) (by rfl)
set_option maxRecDepth 100000 in
theorem w_590 : Cond.code y_Det_roomOf prog_3_method_3_code 4 (some FieldType.int) ∈ BW := BW_tb 590 (by rfl) (by rfl)
set_option maxRecDepth 100000 in
theorem w_592 : Cond.methodLink "PlanRows" 177 y_Det_add ∈ BW := BW_tb 592 (by rfl) (by rfl)
set_option maxRecDepth 100000 in
theorem w_593 : Cond.instanceMethod y_Det_add ∈ BW := BW_tb 593 (by rfl) (by rfl)
set_option maxRecDepth 100000 in
theorem w_594 : Cond.selects "PlanRows$Detectors" y_Det_add y_Det_add ∈ BW := BW_tb 594 (by rfl) (by rfl)
set_option maxRecDepth 100000 in
theorem w_595 : Cond.code y_Det_add prog_3_method_2_code 4 (some FieldType.int) ∈ BW := BW_tb 595 (by rfl) (by rfl)
set_option maxRecDepth 100000 in
theorem w_596 : Cond.methodLink "PlanRowsLaw" 136 y_Law_alarm ∈ BW := BW_tb 596 (by rfl) (by rfl)
set_option maxRecDepth 100000 in
theorem w_597 : Cond.static y_Law_alarm ∈ BW := BW_tb 597 (by rfl) (by rfl)
set_option maxRecDepth 100000 in
theorem w_598 : Cond.codeWith y_Law_alarm method_14_code 5 (some FieldType.int) [(0, 10, 13, 15)] ∈ BW := BW_tb 598 (by rfl) (by rfl)
set_option maxRecDepth 100000 in
theorem w_599 : Cond.methodLink "PlanRowsLaw" 57 y_Plan_alarm ∈ BW := BW_tb 599 (by rfl) (by rfl)
set_option maxRecDepth 100000 in
theorem w_600 : Cond.instanceMethod y_Plan_alarm ∈ BW := BW_tb 600 (by rfl) (by rfl)
set_option maxRecDepth 100000 in
theorem w_601 : Cond.selects "PlanRows" y_Plan_alarm y_Plan_alarm ∈ BW := BW_tb 601 (by rfl) (by rfl)
set_option maxRecDepth 100000 in
theorem w_602 : Cond.code y_Plan_alarm prog_1_method_13_code 4 (some FieldType.int) ∈ BW := BW_tb 602 (by rfl) (by rfl)
set_option maxRecDepth 100000 in
theorem w_603 : Cond.methodLink "PlanRowsLaw" 139 y_Law_people ∈ BW := BW_tb 603 (by rfl) (by rfl)
set_option maxRecDepth 100000 in
theorem w_604 : Cond.static y_Law_people ∈ BW := BW_tb 604 (by rfl) (by rfl)
set_option maxRecDepth 100000 in
theorem w_605 : Cond.codeWith y_Law_people method_15_code 7 (some FieldType.int) [(0, 14, 17, 13), (0, 14, 21, 15), (0, 14, 25, 17)] ∈ BW := BW_tb 605 (by rfl) (by rfl)
set_option maxRecDepth 100000 in
theorem w_606 : Cond.methodLink "PlanRowsLaw" 60 y_Plan_people ∈ BW := BW_tb 606 (by rfl) (by rfl)
set_option maxRecDepth 100000 in
theorem w_607 : Cond.instanceMethod y_Plan_people ∈ BW := BW_tb 607 (by rfl) (by rfl)
set_option maxRecDepth 100000 in
theorem w_608 : Cond.selects "PlanRows" y_Plan_people y_Plan_people ∈ BW := BW_tb 608 (by rfl) (by rfl)
set_option maxRecDepth 100000 in
theorem w_609 : Cond.code y_Plan_people prog_1_method_14_code 5 (some FieldType.int) ∈ BW := BW_tb 609 (by rfl) (by rfl)
set_option maxRecDepth 100000 in
theorem w_610 : Cond.methodLink "PlanRows" 180 y_Crowd_add ∈ BW := BW_tb 610 (by rfl) (by rfl)
set_option maxRecDepth 100000 in
theorem w_611 : Cond.instanceMethod y_Crowd_add ∈ BW := BW_tb 611 (by rfl) (by rfl)
set_option maxRecDepth 100000 in
theorem w_612 : Cond.selects "PlanRows$Crowd" y_Crowd_add y_Crowd_add ∈ BW := BW_tb 612 (by rfl) (by rfl)
set_option maxRecDepth 100000 in
theorem w_613 : Cond.code y_Crowd_add prog_2_method_2_code 5 (some FieldType.int) ∈ BW := BW_tb 613 (by rfl) (by rfl)
set_option maxRecDepth 100000 in
theorem w_614 : Cond.methodLink "PlanRowsLaw" 142 y_Law_inside ∈ BW := BW_tb 614 (by rfl) (by rfl)
set_option maxRecDepth 100000 in
theorem w_615 : Cond.static y_Law_inside ∈ BW := BW_tb 615 (by rfl) (by rfl)
set_option maxRecDepth 100000 in
theorem w_616 : Cond.codeWith y_Law_inside method_16_code 5 (some FieldType.int) [(0, 10, 13, 13), (0, 10, 17, 15)] ∈ BW := BW_tb 616 (by rfl) (by rfl)
set_option maxRecDepth 100000 in
theorem w_617 : Cond.methodLink "PlanRowsLaw" 63 y_Plan_inside ∈ BW := BW_tb 617 (by rfl) (by rfl)
set_option maxRecDepth 100000 in
theorem w_618 : Cond.instanceMethod y_Plan_inside ∈ BW := BW_tb 618 (by rfl) (by rfl)
set_option maxRecDepth 100000 in
theorem w_619 : Cond.selects "PlanRows" y_Plan_inside y_Plan_inside ∈ BW := BW_tb 619 (by rfl) (by rfl)
set_option maxRecDepth 100000 in
theorem w_620 : Cond.code y_Plan_inside prog_1_method_15_code 3 (some FieldType.int) ∈ BW := BW_tb 620 (by rfl) (by rfl)
set_option maxRecDepth 100000 in
theorem w_622 : Cond.methodLink "PlanRows" 183 y_Crowd_sum ∈ BW := BW_tb 622 (by rfl) (by rfl)
set_option maxRecDepth 100000 in
theorem w_623 : Cond.instanceMethod y_Crowd_sum ∈ BW := BW_tb 623 (by rfl) (by rfl)
set_option maxRecDepth 100000 in
theorem w_624 : Cond.selects "PlanRows$Crowd" y_Crowd_sum y_Crowd_sum ∈ BW := BW_tb 624 (by rfl) (by rfl)
set_option maxRecDepth 100000 in
theorem w_625 : Cond.code y_Crowd_sum prog_2_method_3_code 6 (some FieldType.int) ∈ BW := BW_tb 625 (by rfl) (by rfl)
set_option maxRecDepth 100000 in
theorem w_626 : Cond.methodLink "PlanRows$Crowd" 28 y_Crowd_isBetween ∈ BW := BW_tb 626 (by rfl) (by rfl)
set_option maxRecDepth 100000 in
theorem w_627 : Cond.static y_Crowd_isBetween ∈ BW := BW_tb 627 (by rfl) (by rfl)
set_option maxRecDepth 100000 in
theorem w_628 : Cond.code y_Crowd_isBetween prog_2_method_4_code 4 (some FieldType.boolean) ∈ BW := BW_tb 628 (by rfl) (by rfl)
set_option maxRecDepth 100000 in
theorem w_629 : Cond.methodLink "PlanRowsLaw" 145 y_Law_window ∈ BW := BW_tb 629 (by rfl) (by rfl)
set_option maxRecDepth 100000 in
theorem w_630 : Cond.static y_Law_window ∈ BW := BW_tb 630 (by rfl) (by rfl)
set_option maxRecDepth 100000 in
theorem w_631 : Cond.codeWith y_Law_window method_17_code 7 (some FieldType.int) [(0, 14, 17, 13), (0, 14, 21, 15), (0, 14, 25, 17)] ∈ BW := BW_tb 631 (by rfl) (by rfl)
set_option maxRecDepth 100000 in
theorem w_632 : Cond.methodLink "PlanRowsLaw" 66 y_Plan_window ∈ BW := BW_tb 632 (by rfl) (by rfl)
set_option maxRecDepth 100000 in
theorem w_633 : Cond.instanceMethod y_Plan_window ∈ BW := BW_tb 633 (by rfl) (by rfl)
set_option maxRecDepth 100000 in
theorem w_634 : Cond.selects "PlanRows" y_Plan_window y_Plan_window ∈ BW := BW_tb 634 (by rfl) (by rfl)
set_option maxRecDepth 100000 in
theorem w_635 : Cond.code y_Plan_window prog_1_method_16_code 5 (some FieldType.int) ∈ BW := BW_tb 635 (by rfl) (by rfl)
set_option maxRecDepth 100000 in
theorem w_636 : Cond.methodLink "PlanRows" 186 y_Plan_wantPoint ∈ BW := BW_tb 636 (by rfl) (by rfl)
set_option maxRecDepth 100000 in
theorem w_637 : Cond.static y_Plan_wantPoint ∈ BW := BW_tb 637 (by rfl) (by rfl)
set_option maxRecDepth 100000 in
theorem w_638 : Cond.code y_Plan_wantPoint prog_1_method_25_code 3 none ∈ BW := BW_tb 638 (by rfl) (by rfl)
set_option maxRecDepth 100000 in
theorem w_639 : Cond.constant "PlanRows" 219 (-200000) ∈ BW := BW_tb 639 (by rfl) (by rfl)
set_option maxRecDepth 100000 in
theorem w_640 : Cond.constant "PlanRows" 193 200000 ∈ BW := BW_tb 640 (by rfl) (by rfl)
set_option maxRecDepth 100000 in
theorem w_641 : Cond.methodLink "PlanRows" 189 y_Win_add ∈ BW := BW_tb 641 (by rfl) (by rfl)
set_option maxRecDepth 100000 in
theorem w_642 : Cond.instanceMethod y_Win_add ∈ BW := BW_tb 642 (by rfl) (by rfl)
set_option maxRecDepth 100000 in
theorem w_643 : Cond.selects "PlanRows$Windows" y_Win_add y_Win_add ∈ BW := BW_tb 643 (by rfl) (by rfl)
set_option maxRecDepth 100000 in
theorem w_644 : Cond.code y_Win_add prog_9_method_2_code 4 (some FieldType.int) ∈ BW := BW_tb 644 (by rfl) (by rfl)
set_option maxRecDepth 100000 in
theorem w_645 : Cond.methodLink "PlanRowsLaw" 148 y_Law_reaches ∈ BW := BW_tb 645 (by rfl) (by rfl)
set_option maxRecDepth 100000 in
theorem w_646 : Cond.static y_Law_reaches ∈ BW := BW_tb 646 (by rfl) (by rfl)
set_option maxRecDepth 100000 in
theorem w_647 : Cond.codeWith y_Law_reaches method_18_code 8 (some FieldType.int) [(0, 23, 26, 13), (0, 23, 30, 15)] ∈ BW := BW_tb 647 (by rfl) (by rfl)
set_option maxRecDepth 100000 in
theorem w_648 : Cond.methodLink "PlanRowsLaw" 69 y_Plan_reaches ∈ BW := BW_tb 648 (by rfl) (by rfl)
set_option maxRecDepth 100000 in
theorem w_649 : Cond.instanceMethod y_Plan_reaches ∈ BW := BW_tb 649 (by rfl) (by rfl)
set_option maxRecDepth 100000 in
theorem w_650 : Cond.selects "PlanRows" y_Plan_reaches y_Plan_reaches ∈ BW := BW_tb 650 (by rfl) (by rfl)
set_option maxRecDepth 100000 in
theorem w_651 : Cond.code y_Plan_reaches prog_1_method_17_code 6 (some FieldType.boolean) ∈ BW := BW_tb 651 (by rfl) (by rfl)
set_option maxRecDepth 100000 in
theorem w_652 : Cond.methodLink "PlanRows" 190 y_Plan_wantWindow ∈ BW := BW_tb 652 (by rfl) (by rfl)
set_option maxRecDepth 100000 in
theorem w_654 : Cond.instanceMethod y_Plan_wantWindow ∈ BW := BW_tb 654 (by rfl) (by rfl)
set_option maxRecDepth 100000 in
theorem w_655 : Cond.code y_Plan_wantWindow prog_1_method_23_code 2 none ∈ BW := BW_tb 655 (by rfl) (by rfl)
set_option maxRecDepth 100000 in
theorem w_656 : Cond.methodLink "PlanRows" 214 y_Win_has ∈ BW := BW_tb 656 (by rfl) (by rfl)
set_option maxRecDepth 100000 in
theorem w_657 : Cond.instanceMethod y_Win_has ∈ BW := BW_tb 657 (by rfl) (by rfl)
set_option maxRecDepth 100000 in
theorem w_658 : Cond.selects "PlanRows$Windows" y_Win_has y_Win_has ∈ BW := BW_tb 658 (by rfl) (by rfl)
set_option maxRecDepth 100000 in
theorem w_659 : Cond.code y_Win_has prog_9_method_3_code 2 (some FieldType.boolean) ∈ BW := BW_tb 659 (by rfl) (by rfl)
set_option maxRecDepth 100000 in
theorem w_661 : Cond.methodLink "PlanRows" 194 y_Win_isReached ∈ BW := BW_tb 661 (by rfl) (by rfl)
set_option maxRecDepth 100000 in
theorem w_662 : Cond.instanceMethod y_Win_isReached ∈ BW := BW_tb 662 (by rfl) (by rfl)
set_option maxRecDepth 100000 in
theorem w_663 : Cond.selects "PlanRows$Windows" y_Win_isReached y_Win_isReached ∈ BW := BW_tb 663 (by rfl) (by rfl)
set_option maxRecDepth 100000 in
theorem w_664 : Cond.code y_Win_isReached prog_9_method_4_code 12 (some FieldType.boolean) ∈ BW := BW_tb 664 (by rfl) (by rfl)
set_option maxRecDepth 100000 in
theorem w_665 : Cond.methodLink "PlanRows$Windows" 25 y_Win_has ∈ BW := BW_tb 665 (by rfl) (by rfl)
set_option maxRecDepth 100000 in
theorem w_666 : Cond.methodLink "PlanRowsLaw" 152 y_Law_ladder ∈ BW := BW_tb 666 (by rfl) (by rfl)
set_option maxRecDepth 100000 in
theorem w_667 : Cond.static y_Law_ladder ∈ BW := BW_tb 667 (by rfl) (by rfl)
set_option maxRecDepth 100000 in
theorem w_668 : Cond.codeWith y_Law_ladder method_19_code 7 (some FieldType.int) [(0, 14, 17, 13), (0, 14, 21, 15)] ∈ BW := BW_tb 668 (by rfl) (by rfl)
set_option maxRecDepth 100000 in
theorem w_669 : Cond.methodLink "PlanRowsLaw" 73 y_Plan_ladder ∈ BW := BW_tb 669 (by rfl) (by rfl)
set_option maxRecDepth 100000 in
theorem w_670 : Cond.instanceMethod y_Plan_ladder ∈ BW := BW_tb 670 (by rfl) (by rfl)
set_option maxRecDepth 100000 in
theorem w_671 : Cond.selects "PlanRows" y_Plan_ladder y_Plan_ladder ∈ BW := BW_tb 671 (by rfl) (by rfl)
set_option maxRecDepth 100000 in
theorem w_672 : Cond.code y_Plan_ladder prog_1_method_18_code 5 (some FieldType.int) ∈ BW := BW_tb 672 (by rfl) (by rfl)
set_option maxRecDepth 100000 in
theorem w_673 : Cond.methodLink "PlanRows" 198 y_Win_leastLength ∈ BW := BW_tb 673 (by rfl) (by rfl)
set_option maxRecDepth 100000 in
theorem w_674 : Cond.instanceMethod y_Win_leastLength ∈ BW := BW_tb 674 (by rfl) (by rfl)
set_option maxRecDepth 100000 in
theorem w_675 : Cond.selects "PlanRows$Windows" y_Win_leastLength y_Win_leastLength ∈ BW := BW_tb 675 (by rfl) (by rfl)
set_option maxRecDepth 100000 in
theorem w_676 : Cond.code y_Win_leastLength prog_9_method_5_code 7 (some FieldType.int) ∈ BW := BW_tb 676 (by rfl) (by rfl)
set_option maxRecDepth 100000 in
theorem w_677 : Cond.constant "PlanRows$Windows" 29 200000 ∈ BW := BW_tb 677 (by rfl) (by rfl)
set_option maxRecDepth 100000 in
theorem w_678 : Cond.methodLink "PlanRows$Windows" 30 y_Win_isReached ∈ BW := BW_tb 678 (by rfl) (by rfl)
set_option maxRecDepth 100000 in
theorem w_679 : Cond.constant "PlanRows$Windows" 34 131072 ∈ BW := BW_tb 679 (by rfl) (by rfl)
set_option maxRecDepth 100000 in
theorem w_680 : Cond.methodLink "PlanRowsLaw" 155 y_Law_look ∈ BW := BW_tb 680 (by rfl) (by rfl)
set_option maxRecDepth 100000 in
theorem w_681 : Cond.static y_Law_look ∈ BW := BW_tb 681 (by rfl) (by rfl)
set_option maxRecDepth 100000 in
theorem w_682 : Cond.codeWith y_Law_look method_20_code 4 (some FieldType.int) [(0, 6, 9, 15)] ∈ BW := BW_tb 682 (by rfl) (by rfl)
set_option maxRecDepth 100000 in
theorem w_683 : Cond.methodLink "PlanRowsLaw" 76 y_Plan_look ∈ BW := BW_tb 683 (by rfl) (by rfl)
set_option maxRecDepth 100000 in
theorem w_684 : Cond.instanceMethod y_Plan_look ∈ BW := BW_tb 684 (by rfl) (by rfl)
set_option maxRecDepth 100000 in
theorem w_685 : Cond.selects "PlanRows" y_Plan_look y_Plan_look ∈ BW := BW_tb 685 (by rfl) (by rfl)
set_option maxRecDepth 100000 in
theorem w_686 : Cond.code y_Plan_look prog_1_method_19_code 3 none ∈ BW := BW_tb 686 (by rfl) (by rfl)
set_option maxRecDepth 100000 in
theorem w_687 : Cond.constant "PlanRows" 201 99999 ∈ BW := BW_tb 687 (by rfl) (by rfl)
set_option maxRecDepth 100000 in
theorem w_688 : Cond.methodLink "PlanRowsLaw" 158 y_Law_old ∈ BW := BW_tb 688 (by rfl) (by rfl)
set_option maxRecDepth 100000 in
theorem w_689 : Cond.static y_Law_old ∈ BW := BW_tb 689 (by rfl) (by rfl)
set_option maxRecDepth 100000 in
theorem w_690 : Cond.codeWith y_Law_old method_21_code 4 (some FieldType.int) [(0, 16, 19, 15)] ∈ BW := BW_tb 690 (by rfl) (by rfl)
set_option maxRecDepth 100000 in
theorem w_691 : Cond.methodLink "PlanRowsLaw" 79 y_Plan_old ∈ BW := BW_tb 691 (by rfl) (by rfl)
set_option maxRecDepth 100000 in
theorem w_692 : Cond.instanceMethod y_Plan_old ∈ BW := BW_tb 692 (by rfl) (by rfl)
set_option maxRecDepth 100000 in
theorem w_693 : Cond.selects "PlanRows" y_Plan_old y_Plan_old ∈ BW := BW_tb 693 (by rfl) (by rfl)
set_option maxRecDepth 100000 in
theorem w_694 : Cond.code y_Plan_old prog_1_method_20_code 2 (some FieldType.boolean) ∈ BW := BW_tb 694 (by rfl) (by rfl)
set_option maxRecDepth 100000 in
theorem w_695 : Cond.methodLink "PlanRowsLaw" 161 y_Law_count ∈ BW := BW_tb 695 (by rfl) (by rfl)
set_option maxRecDepth 100000 in
theorem w_696 : Cond.static y_Law_count ∈ BW := BW_tb 696 (by rfl) (by rfl)
set_option maxRecDepth 100000 in
theorem w_697 : Cond.codeWith y_Law_count method_22_code 4 (some FieldType.int) [(0, 9, 12, 13)] ∈ BW := BW_tb 697 (by rfl) (by rfl)
set_option maxRecDepth 100000 in
theorem w_698 : Cond.methodLink "PlanRowsLaw" 83 y_Plan_count ∈ BW := BW_tb 698 (by rfl) (by rfl)
set_option maxRecDepth 100000 in
theorem w_699 : Cond.instanceMethod y_Plan_count ∈ BW := BW_tb 699 (by rfl) (by rfl)
set_option maxRecDepth 100000 in
theorem w_700 : Cond.selects "PlanRows" y_Plan_count y_Plan_count ∈ BW := BW_tb 700 (by rfl) (by rfl)
set_option maxRecDepth 100000 in
theorem w_701 : Cond.code y_Plan_count prog_1_method_21_code 2 (some FieldType.int) ∈ BW := BW_tb 701 (by rfl) (by rfl)
set_option maxRecDepth 100000 in
theorem w_703 : Cond.classLink "PlanRowsLaw" 87 "PlanRowsModel" ∈ BW := BW_tb 703 (by rfl) (by rfl)
set_option maxRecDepth 100000 in
theorem w_704 : Cond.instantiable "PlanRowsModel" 31 ∈ BW := BW_tb 704 (by rfl) (by rfl)
set_option maxRecDepth 100000 in
theorem w_705 : Cond.methodLink "PlanRowsLaw" 89 y_Mod_init ∈ BW := BW_tb 705 (by rfl) (by rfl)
set_option maxRecDepth 100000 in
theorem w_706 : Cond.instanceMethod y_Mod_init ∈ BW := BW_tb 706 (by rfl) (by rfl)
set_option maxRecDepth 100000 in
theorem w_707 : Cond.code y_Mod_init prog_11_method_1_code 1 none ∈ BW := BW_tb 707 (by rfl) (by rfl)
set_option maxRecDepth 100000 in
theorem w_708 : Cond.methodLink "PlanRowsModel" 1 ⟨"java/lang/Object", "<init>", "()V"⟩ ∈ BW := BW_tb 708 (by rfl) (by rfl)
set_option maxRecDepth 100000 in
theorem w_709 : Cond.fieldLink "PlanRowsModel" 78 "PlanRowsModel" "thrown" "I" ∈ BW := BW_tb 709 (by rfl) (by rfl)
set_option maxRecDepth 100000 in
theorem w_710 : Cond.fieldLink "PlanRowsModel" 81 "PlanRowsModel" "rooms" "I" ∈ BW := BW_tb 710 (by rfl) (by rfl)
set_option maxRecDepth 100000 in
theorem w_711 : Cond.fieldLink "PlanRowsModel" 7 "PlanRowsModel" "floor" "[I" ∈ BW := BW_tb 711 (by rfl) (by rfl)
set_option maxRecDepth 100000 in
theorem w_712 : Cond.fieldLink "PlanRowsModel" 13 "PlanRowsModel" "kind" "[I" ∈ BW := BW_tb 712 (by rfl) (by rfl)
set_option maxRecDepth 100000 in
theorem w_713 : Cond.fieldLink "PlanRowsModel" 16 "PlanRowsModel" "hazard" "[I" ∈ BW := BW_tb 713 (by rfl) (by rfl)
set_option maxRecDepth 100000 in
theorem w_714 : Cond.fieldLink "PlanRowsModel" 96 "PlanRowsModel" "doors" "I" ∈ BW := BW_tb 714 (by rfl) (by rfl)
set_option maxRecDepth 100000 in
theorem w_715 : Cond.fieldLink "PlanRowsModel" 19 "PlanRowsModel" "from" "[I" ∈ BW := BW_tb 715 (by rfl) (by rfl)
set_option maxRecDepth 100000 in
theorem w_716 : Cond.fieldLink "PlanRowsModel" 22 "PlanRowsModel" "to" "[I" ∈ BW := BW_tb 716 (by rfl) (by rfl)
set_option maxRecDepth 100000 in
theorem w_717 : Cond.fieldLink "PlanRowsModel" 25 "PlanRowsModel" "metres" "[I" ∈ BW := BW_tb 717 (by rfl) (by rfl)
set_option maxRecDepth 100000 in
theorem w_718 : Cond.fieldLink "PlanRowsModel" 28 "PlanRowsModel" "lock" "[I" ∈ BW := BW_tb 718 (by rfl) (by rfl)
set_option maxRecDepth 100000 in
theorem w_719 : Cond.fieldLink "PlanRowsModel" 31 "PlanRowsModel" "hand" "[Z" ∈ BW := BW_tb 719 (by rfl) (by rfl)
set_option maxRecDepth 100000 in
theorem w_720 : Cond.fieldLink "PlanRowsModel" 35 "PlanRowsModel" "least" "[I" ∈ BW := BW_tb 720 (by rfl) (by rfl)
set_option maxRecDepth 100000 in
theorem w_721 : Cond.fieldLink "PlanRowsModel" 38 "PlanRowsModel" "way" "[I" ∈ BW := BW_tb 721 (by rfl) (by rfl)
set_option maxRecDepth 100000 in
theorem w_722 : Cond.fieldLink "PlanRowsModel" 114 "PlanRowsModel" "steps" "I" ∈ BW := BW_tb 722 (by rfl) (by rfl)
set_option maxRecDepth 100000 in
theorem w_723 : Cond.fieldLink "PlanRowsModel" 117 "PlanRowsModel" "stairs" "I" ∈ BW := BW_tb 723 (by rfl) (by rfl)
set_option maxRecDepth 100000 in
theorem w_724 : Cond.fieldLink "PlanRowsModel" 41 "PlanRowsModel" "end" "I" ∈ BW := BW_tb 724 (by rfl) (by rfl)
set_option maxRecDepth 100000 in
theorem w_725 : Cond.fieldLink "PlanRowsModel" 123 "PlanRowsModel" "detectors" "I" ∈ BW := BW_tb 725 (by rfl) (by rfl)
set_option maxRecDepth 100000 in
theorem w_726 : Cond.fieldLink "PlanRowsModel" 45 "PlanRowsModel" "loop" "[I" ∈ BW := BW_tb 726 (by rfl) (by rfl)
set_option maxRecDepth 100000 in
theorem w_727 : Cond.fieldLink "PlanRowsModel" 48 "PlanRowsModel" "number" "[I" ∈ BW := BW_tb 727 (by rfl) (by rfl)
set_option maxRecDepth 100000 in
theorem w_728 : Cond.fieldLink "PlanRowsModel" 51 "PlanRowsModel" "watched" "[I" ∈ BW := BW_tb 728 (by rfl) (by rfl)
set_option maxRecDepth 100000 in
theorem w_729 : Cond.fieldLink "PlanRowsModel" 137 "PlanRowsModel" "rows" "I" ∈ BW := BW_tb 729 (by rfl) (by rfl)
set_option maxRecDepth 100000 in
theorem w_730 : Cond.fieldLink "PlanRowsModel" 54 "PlanRowsModel" "rowRoom" "[I" ∈ BW := BW_tb 730 (by rfl) (by rfl)
set_option maxRecDepth 100000 in
theorem w_731 : Cond.fieldLink "PlanRowsModel" 57 "PlanRowsModel" "rowFrom" "[I" ∈ BW := BW_tb 731 (by rfl) (by rfl)
set_option maxRecDepth 100000 in
theorem w_732 : Cond.fieldLink "PlanRowsModel" 60 "PlanRowsModel" "rowTo" "[I" ∈ BW := BW_tb 732 (by rfl) (by rfl)
set_option maxRecDepth 100000 in
theorem w_733 : Cond.fieldLink "PlanRowsModel" 63 "PlanRowsModel" "rowMany" "[I" ∈ BW := BW_tb 733 (by rfl) (by rfl)
set_option maxRecDepth 100000 in
theorem w_734 : Cond.fieldLink "PlanRowsModel" 145 "PlanRowsModel" "windows" "I" ∈ BW := BW_tb 734 (by rfl) (by rfl)
set_option maxRecDepth 100000 in
theorem w_735 : Cond.fieldLink "PlanRowsModel" 66 "PlanRowsModel" "windowX" "[I" ∈ BW := BW_tb 735 (by rfl) (by rfl)
set_option maxRecDepth 100000 in
theorem w_736 : Cond.fieldLink "PlanRowsModel" 69 "PlanRowsModel" "windowY" "[I" ∈ BW := BW_tb 736 (by rfl) (by rfl)
set_option maxRecDepth 100000 in
theorem w_737 : Cond.fieldLink "PlanRowsModel" 72 "PlanRowsModel" "windowZ" "[I" ∈ BW := BW_tb 737 (by rfl) (by rfl)
set_option maxRecDepth 100000 in
theorem w_738 : Cond.fieldLink "PlanRowsModel" 155 "PlanRowsModel" "looked" "I" ∈ BW := BW_tb 738 (by rfl) (by rfl)
set_option maxRecDepth 100000 in
theorem w_739 : Cond.fieldLink "PlanRowsModel" 75 "PlanRowsModel" "term" "I" ∈ BW := BW_tb 739 (by rfl) (by rfl)
set_option maxRecDepth 100000 in
theorem w_740 : Cond.lays "PlanRowsModel" "PlanRowsModel" "thrown" "I" ∈ BW := BW_tb 740 (by rfl) (by rfl)
set_option maxRecDepth 100000 in
theorem w_742 : Cond.lays "PlanRowsModel" "PlanRowsModel" "rooms" "I" ∈ BW := BW_tb 742 (by rfl) (by rfl)
set_option maxRecDepth 100000 in
theorem w_744 : Cond.laysFinal "PlanRowsModel" "PlanRowsModel" "floor" "[I" ∈ BW := BW_tb 744 (by rfl) (by rfl)
set_option maxRecDepth 100000 in
theorem w_746 : Cond.laysFinal "PlanRowsModel" "PlanRowsModel" "kind" "[I" ∈ BW := BW_tb 746 (by rfl) (by rfl)
set_option maxRecDepth 100000 in
theorem w_748 : Cond.laysFinal "PlanRowsModel" "PlanRowsModel" "hazard" "[I" ∈ BW := BW_tb 748 (by rfl) (by rfl)
set_option maxRecDepth 100000 in
theorem w_750 : Cond.lays "PlanRowsModel" "PlanRowsModel" "doors" "I" ∈ BW := BW_tb 750 (by rfl) (by rfl)
set_option maxRecDepth 100000 in
theorem w_752 : Cond.laysFinal "PlanRowsModel" "PlanRowsModel" "from" "[I" ∈ BW := BW_tb 752 (by rfl) (by rfl)
set_option maxRecDepth 100000 in
theorem w_754 : Cond.laysFinal "PlanRowsModel" "PlanRowsModel" "to" "[I" ∈ BW := BW_tb 754 (by rfl) (by rfl)
set_option maxRecDepth 100000 in
theorem w_756 : Cond.laysFinal "PlanRowsModel" "PlanRowsModel" "metres" "[I" ∈ BW := BW_tb 756 (by rfl) (by rfl)
set_option maxRecDepth 100000 in
theorem w_758 : Cond.laysFinal "PlanRowsModel" "PlanRowsModel" "lock" "[I" ∈ BW := BW_tb 758 (by rfl) (by rfl)
set_option maxRecDepth 100000 in
theorem w_760 : Cond.laysFinal "PlanRowsModel" "PlanRowsModel" "hand" "[Z" ∈ BW := BW_tb 760 (by rfl) (by rfl)
set_option maxRecDepth 100000 in
theorem w_762 : Cond.laysFinal "PlanRowsModel" "PlanRowsModel" "least" "[I" ∈ BW := BW_tb 762 (by rfl) (by rfl)
set_option maxRecDepth 100000 in
theorem w_764 : Cond.laysFinal "PlanRowsModel" "PlanRowsModel" "way" "[I" ∈ BW := BW_tb 764 (by rfl) (by rfl)
set_option maxRecDepth 100000 in
theorem w_766 : Cond.lays "PlanRowsModel" "PlanRowsModel" "steps" "I" ∈ BW := BW_tb 766 (by rfl) (by rfl)
set_option maxRecDepth 100000 in
theorem w_768 : Cond.lays "PlanRowsModel" "PlanRowsModel" "stairs" "I" ∈ BW := BW_tb 768 (by rfl) (by rfl)
set_option maxRecDepth 100000 in
theorem w_770 : Cond.lays "PlanRowsModel" "PlanRowsModel" "end" "I" ∈ BW := BW_tb 770 (by rfl) (by rfl)
set_option maxRecDepth 100000 in
theorem w_772 : Cond.lays "PlanRowsModel" "PlanRowsModel" "detectors" "I" ∈ BW := BW_tb 772 (by rfl) (by rfl)
set_option maxRecDepth 100000 in
theorem w_774 : Cond.laysFinal "PlanRowsModel" "PlanRowsModel" "loop" "[I" ∈ BW := BW_tb 774 (by rfl) (by rfl)
set_option maxRecDepth 100000 in
theorem w_776 : Cond.laysFinal "PlanRowsModel" "PlanRowsModel" "number" "[I" ∈ BW := BW_tb 776 (by rfl) (by rfl)
set_option maxRecDepth 100000 in
theorem w_778 : Cond.laysFinal "PlanRowsModel" "PlanRowsModel" "watched" "[I" ∈ BW := BW_tb 778 (by rfl) (by rfl)
set_option maxRecDepth 100000 in
theorem w_780 : Cond.lays "PlanRowsModel" "PlanRowsModel" "rows" "I" ∈ BW := BW_tb 780 (by rfl) (by rfl)
set_option maxRecDepth 100000 in
theorem w_782 : Cond.laysFinal "PlanRowsModel" "PlanRowsModel" "rowRoom" "[I" ∈ BW := BW_tb 782 (by rfl) (by rfl)
set_option maxRecDepth 100000 in
theorem w_784 : Cond.laysFinal "PlanRowsModel" "PlanRowsModel" "rowFrom" "[I" ∈ BW := BW_tb 784 (by rfl) (by rfl)
set_option maxRecDepth 100000 in
theorem w_786 : Cond.laysFinal "PlanRowsModel" "PlanRowsModel" "rowTo" "[I" ∈ BW := BW_tb 786 (by rfl) (by rfl)
set_option maxRecDepth 100000 in
theorem w_788 : Cond.laysFinal "PlanRowsModel" "PlanRowsModel" "rowMany" "[I" ∈ BW := BW_tb 788 (by rfl) (by rfl)
set_option maxRecDepth 100000 in
theorem w_790 : Cond.lays "PlanRowsModel" "PlanRowsModel" "windows" "I" ∈ BW := BW_tb 790 (by rfl) (by rfl)
set_option maxRecDepth 100000 in
theorem w_792 : Cond.laysFinal "PlanRowsModel" "PlanRowsModel" "windowX" "[I" ∈ BW := BW_tb 792 (by rfl) (by rfl)
set_option maxRecDepth 100000 in
theorem w_794 : Cond.laysFinal "PlanRowsModel" "PlanRowsModel" "windowY" "[I" ∈ BW := BW_tb 794 (by rfl) (by rfl)
set_option maxRecDepth 100000 in
theorem w_796 : Cond.laysFinal "PlanRowsModel" "PlanRowsModel" "windowZ" "[I" ∈ BW := BW_tb 796 (by rfl) (by rfl)
set_option maxRecDepth 100000 in
theorem w_798 : Cond.lays "PlanRowsModel" "PlanRowsModel" "looked" "I" ∈ BW := BW_tb 798 (by rfl) (by rfl)
set_option maxRecDepth 100000 in
theorem w_800 : Cond.lays "PlanRowsModel" "PlanRowsModel" "term" "I" ∈ BW := BW_tb 800 (by rfl) (by rfl)
set_option maxRecDepth 100000 in
theorem w_802 : Cond.superclass "PlanRowsModel" "java/lang/Object" ∈ BW := BW_tb 802 (by rfl) (by rfl)
set_option maxRecDepth 100000 in
theorem w_803 : Cond.methodLink "PlanRowsLaw" 96 y_Mod_thrown ∈ BW := BW_tb 803 (by rfl) (by rfl)
set_option maxRecDepth 100000 in
theorem w_804 : Cond.instanceMethod y_Mod_thrown ∈ BW := BW_tb 804 (by rfl) (by rfl)
set_option maxRecDepth 100000 in
theorem w_805 : Cond.selects "PlanRowsModel" y_Mod_thrown y_Mod_thrown ∈ BW := BW_tb 805 (by rfl) (by rfl)
set_option maxRecDepth 100000 in
theorem w_806 : Cond.code y_Mod_thrown prog_11_method_2_code 1 (some FieldType.int) ∈ BW := BW_tb 806 (by rfl) (by rfl)
set_option maxRecDepth 100000 in
theorem w_807 : Cond.methodLink "PlanRowsLaw" 95 y_Mod_room ∈ BW := BW_tb 807 (by rfl) (by rfl)
set_option maxRecDepth 100000 in
theorem w_808 : Cond.instanceMethod y_Mod_room ∈ BW := BW_tb 808 (by rfl) (by rfl)
set_option maxRecDepth 100000 in
theorem w_809 : Cond.selects "PlanRowsModel" y_Mod_room y_Mod_room ∈ BW := BW_tb 809 (by rfl) (by rfl)
set_option maxRecDepth 100000 in
theorem w_810 : Cond.code y_Mod_room prog_11_method_6_code 3 (some FieldType.int) ∈ BW := BW_tb 810 (by rfl) (by rfl)
set_option maxRecDepth 100000 in
theorem w_811 : Cond.methodLink "PlanRowsModel" 84 y_Mod_in ∈ BW := BW_tb 811 (by rfl) (by rfl)
set_option maxRecDepth 100000 in
theorem w_812 : Cond.static y_Mod_in ∈ BW := BW_tb 812 (by rfl) (by rfl)
set_option maxRecDepth 100000 in
theorem w_813 : Cond.code y_Mod_in prog_11_method_4_code 3 (some FieldType.boolean) ∈ BW := BW_tb 813 (by rfl) (by rfl)
set_option maxRecDepth 100000 in
theorem w_814 : Cond.methodLink "PlanRowsModel" 88 y_Mod_throwing ∈ BW := BW_tb 814 (by rfl) (by rfl)
set_option maxRecDepth 100000 in
theorem w_816 : Cond.instanceMethod y_Mod_throwing ∈ BW := BW_tb 816 (by rfl) (by rfl)
set_option maxRecDepth 100000 in
theorem w_817 : Cond.code y_Mod_throwing prog_11_method_3_code 5 (some FieldType.boolean) ∈ BW := BW_tb 817 (by rfl) (by rfl)
set_option maxRecDepth 100000 in
theorem w_818 : Cond.methodLink "PlanRowsLaw" 103 y_Mod_door ∈ BW := BW_tb 818 (by rfl) (by rfl)
set_option maxRecDepth 100000 in
theorem w_819 : Cond.instanceMethod y_Mod_door ∈ BW := BW_tb 819 (by rfl) (by rfl)
set_option maxRecDepth 100000 in
theorem w_820 : Cond.selects "PlanRowsModel" y_Mod_door y_Mod_door ∈ BW := BW_tb 820 (by rfl) (by rfl)
set_option maxRecDepth 100000 in
theorem w_821 : Cond.code y_Mod_door prog_11_method_7_code 8 (some FieldType.int) ∈ BW := BW_tb 821 (by rfl) (by rfl)
set_option maxRecDepth 100000 in
theorem w_822 : Cond.methodLink "PlanRowsModel" 92 y_Mod_isRoom ∈ BW := BW_tb 822 (by rfl) (by rfl)
set_option maxRecDepth 100000 in
theorem w_824 : Cond.instanceMethod y_Mod_isRoom ∈ BW := BW_tb 824 (by rfl) (by rfl)
set_option maxRecDepth 100000 in
theorem w_825 : Cond.code y_Mod_isRoom prog_11_method_5_code 2 (some FieldType.boolean) ∈ BW := BW_tb 825 (by rfl) (by rfl)
set_option maxRecDepth 100000 in
theorem w_826 : Cond.methodLink "PlanRowsLaw" 107 y_Mod_key ∈ BW := BW_tb 826 (by rfl) (by rfl)
set_option maxRecDepth 100000 in
theorem w_827 : Cond.instanceMethod y_Mod_key ∈ BW := BW_tb 827 (by rfl) (by rfl)
set_option maxRecDepth 100000 in
theorem w_828 : Cond.selects "PlanRowsModel" y_Mod_key y_Mod_key ∈ BW := BW_tb 828 (by rfl) (by rfl)
set_option maxRecDepth 100000 in
theorem w_829 : Cond.code y_Mod_key prog_11_method_8_code 4 none ∈ BW := BW_tb 829 (by rfl) (by rfl)
set_option maxRecDepth 100000 in
theorem w_830 : Cond.methodLink "PlanRowsLaw" 111 y_Mod_hazard ∈ BW := BW_tb 830 (by rfl) (by rfl)
set_option maxRecDepth 100000 in
theorem w_831 : Cond.instanceMethod y_Mod_hazard ∈ BW := BW_tb 831 (by rfl) (by rfl)
set_option maxRecDepth 100000 in
theorem w_832 : Cond.selects "PlanRowsModel" y_Mod_hazard y_Mod_hazard ∈ BW := BW_tb 832 (by rfl) (by rfl)
set_option maxRecDepth 100000 in
theorem w_833 : Cond.code y_Mod_hazard prog_11_method_9_code 3 none ∈ BW := BW_tb 833 (by rfl) (by rfl)
set_option maxRecDepth 100000 in
theorem w_834 : Cond.methodLink "PlanRowsLaw" 115 y_Mod_way ∈ BW := BW_tb 834 (by rfl) (by rfl)
set_option maxRecDepth 100000 in
theorem w_835 : Cond.instanceMethod y_Mod_way ∈ BW := BW_tb 835 (by rfl) (by rfl)
set_option maxRecDepth 100000 in
theorem w_836 : Cond.selects "PlanRowsModel" y_Mod_way y_Mod_way ∈ BW := BW_tb 836 (by rfl) (by rfl)
set_option maxRecDepth 100000 in
theorem w_837 : Cond.code y_Mod_way prog_11_method_15_code 6 (some FieldType.int) ∈ BW := BW_tb 837 (by rfl) (by rfl)
set_option maxRecDepth 100000 in
theorem w_838 : Cond.methodLink "PlanRowsModel" 107 y_Mod_reckon ∈ BW := BW_tb 838 (by rfl) (by rfl)
set_option maxRecDepth 100000 in
theorem w_840 : Cond.instanceMethod y_Mod_reckon ∈ BW := BW_tb 840 (by rfl) (by rfl)
set_option maxRecDepth 100000 in
theorem w_841 : Cond.code y_Mod_reckon prog_11_method_12_code 8 none ∈ BW := BW_tb 841 (by rfl) (by rfl)
set_option maxRecDepth 100000 in
theorem w_842 : Cond.constant "PlanRowsModel" 99 100000000 ∈ BW := BW_tb 842 (by rfl) (by rfl)
set_option maxRecDepth 100000 in
theorem w_843 : Cond.methodLink "PlanRowsModel" 100 y_Mod_isPassed ∈ BW := BW_tb 843 (by rfl) (by rfl)
set_option maxRecDepth 100000 in
theorem w_845 : Cond.instanceMethod y_Mod_isPassed ∈ BW := BW_tb 845 (by rfl) (by rfl)
set_option maxRecDepth 100000 in
theorem w_846 : Cond.code y_Mod_isPassed prog_11_method_10_code 2 (some FieldType.boolean) ∈ BW := BW_tb 846 (by rfl) (by rfl)
set_option maxRecDepth 100000 in
theorem w_847 : Cond.methodLink "PlanRowsModel" 103 y_Mod_costOf ∈ BW := BW_tb 847 (by rfl) (by rfl)
set_option maxRecDepth 100000 in
theorem w_849 : Cond.instanceMethod y_Mod_costOf ∈ BW := BW_tb 849 (by rfl) (by rfl)
set_option maxRecDepth 100000 in
theorem w_850 : Cond.code y_Mod_costOf prog_11_method_11_code 2 (some FieldType.int) ∈ BW := BW_tb 850 (by rfl) (by rfl)
set_option maxRecDepth 100000 in
theorem w_851 : Cond.methodLink "PlanRowsModel" 111 y_Mod_nearest ∈ BW := BW_tb 851 (by rfl) (by rfl)
set_option maxRecDepth 100000 in
theorem w_853 : Cond.instanceMethod y_Mod_nearest ∈ BW := BW_tb 853 (by rfl) (by rfl)
set_option maxRecDepth 100000 in
theorem w_854 : Cond.code y_Mod_nearest prog_11_method_13_code 4 (some FieldType.int) ∈ BW := BW_tb 854 (by rfl) (by rfl)
set_option maxRecDepth 100000 in
theorem w_855 : Cond.methodLink "PlanRowsModel" 120 y_Mod_into ∈ BW := BW_tb 855 (by rfl) (by rfl)
set_option maxRecDepth 100000 in
theorem w_857 : Cond.instanceMethod y_Mod_into ∈ BW := BW_tb 857 (by rfl) (by rfl)
set_option maxRecDepth 100000 in
theorem w_858 : Cond.code y_Mod_into prog_11_method_14_code 4 (some FieldType.int) ∈ BW := BW_tb 858 (by rfl) (by rfl)
set_option maxRecDepth 100000 in
theorem w_859 : Cond.methodLink "PlanRowsLaw" 119 y_Mod_step ∈ BW := BW_tb 859 (by rfl) (by rfl)
set_option maxRecDepth 100000 in
theorem w_860 : Cond.instanceMethod y_Mod_step ∈ BW := BW_tb 860 (by rfl) (by rfl)
set_option maxRecDepth 100000 in
theorem w_861 : Cond.selects "PlanRowsModel" y_Mod_step y_Mod_step ∈ BW := BW_tb 861 (by rfl) (by rfl)
set_option maxRecDepth 100000 in
theorem w_862 : Cond.code y_Mod_step prog_11_method_16_code 2 (some FieldType.int) ∈ BW := BW_tb 862 (by rfl) (by rfl)
set_option maxRecDepth 100000 in
theorem w_863 : Cond.methodLink "PlanRowsLaw" 122 y_Mod_told ∈ BW := BW_tb 863 (by rfl) (by rfl)
set_option maxRecDepth 100000 in
theorem w_864 : Cond.instanceMethod y_Mod_told ∈ BW := BW_tb 864 (by rfl) (by rfl)
set_option maxRecDepth 100000 in
theorem w_865 : Cond.selects "PlanRowsModel" y_Mod_told y_Mod_told ∈ BW := BW_tb 865 (by rfl) (by rfl)
set_option maxRecDepth 100000 in
theorem w_866 : Cond.code y_Mod_told prog_11_method_17_code 2 (some FieldType.int) ∈ BW := BW_tb 866 (by rfl) (by rfl)
set_option maxRecDepth 100000 in
theorem w_867 : Cond.methodLink "PlanRowsLaw" 125 y_Mod_hoses ∈ BW := BW_tb 867 (by rfl) (by rfl)
set_option maxRecDepth 100000 in
theorem w_868 : Cond.instanceMethod y_Mod_hoses ∈ BW := BW_tb 868 (by rfl) (by rfl)
set_option maxRecDepth 100000 in
theorem w_869 : Cond.selects "PlanRowsModel" y_Mod_hoses y_Mod_hoses ∈ BW := BW_tb 869 (by rfl) (by rfl)
set_option maxRecDepth 100000 in
theorem w_870 : Cond.code y_Mod_hoses prog_11_method_18_code 4 (some FieldType.int) ∈ BW := BW_tb 870 (by rfl) (by rfl)
set_option maxRecDepth 100000 in
theorem w_871 : Cond.methodLink "PlanRowsLaw" 128 y_Mod_trapped ∈ BW := BW_tb 871 (by rfl) (by rfl)
set_option maxRecDepth 100000 in
theorem w_872 : Cond.instanceMethod y_Mod_trapped ∈ BW := BW_tb 872 (by rfl) (by rfl)
set_option maxRecDepth 100000 in
theorem w_873 : Cond.selects "PlanRowsModel" y_Mod_trapped y_Mod_trapped ∈ BW := BW_tb 873 (by rfl) (by rfl)
set_option maxRecDepth 100000 in
theorem w_874 : Cond.code y_Mod_trapped prog_11_method_19_code 4 (some FieldType.int) ∈ BW := BW_tb 874 (by rfl) (by rfl)
set_option maxRecDepth 100000 in
theorem w_875 : Cond.methodLink "PlanRowsLaw" 131 y_Mod_missing ∈ BW := BW_tb 875 (by rfl) (by rfl)
set_option maxRecDepth 100000 in
theorem w_876 : Cond.instanceMethod y_Mod_missing ∈ BW := BW_tb 876 (by rfl) (by rfl)
set_option maxRecDepth 100000 in
theorem w_877 : Cond.selects "PlanRowsModel" y_Mod_missing y_Mod_missing ∈ BW := BW_tb 877 (by rfl) (by rfl)
set_option maxRecDepth 100000 in
theorem w_878 : Cond.code y_Mod_missing prog_11_method_20_code 6 (some FieldType.int) ∈ BW := BW_tb 878 (by rfl) (by rfl)
set_option maxRecDepth 100000 in
theorem w_879 : Cond.methodLink "PlanRowsLaw" 135 y_Mod_detector ∈ BW := BW_tb 879 (by rfl) (by rfl)
set_option maxRecDepth 100000 in
theorem w_880 : Cond.instanceMethod y_Mod_detector ∈ BW := BW_tb 880 (by rfl) (by rfl)
set_option maxRecDepth 100000 in
theorem w_881 : Cond.selects "PlanRowsModel" y_Mod_detector y_Mod_detector ∈ BW := BW_tb 881 (by rfl) (by rfl)
set_option maxRecDepth 100000 in
theorem w_882 : Cond.code y_Mod_detector prog_11_method_23_code 4 none ∈ BW := BW_tb 882 (by rfl) (by rfl)
set_option maxRecDepth 100000 in
theorem w_883 : Cond.methodLink "PlanRowsModel" 126 y_Mod_isDetector ∈ BW := BW_tb 883 (by rfl) (by rfl)
set_option maxRecDepth 100000 in
theorem w_884 : Cond.static y_Mod_isDetector ∈ BW := BW_tb 884 (by rfl) (by rfl)
set_option maxRecDepth 100000 in
theorem w_885 : Cond.code y_Mod_isDetector prog_11_method_22_code 2 (some FieldType.boolean) ∈ BW := BW_tb 885 (by rfl) (by rfl)
set_option maxRecDepth 100000 in
theorem w_886 : Cond.methodLink "PlanRowsModel" 130 y_Mod_detectorOf ∈ BW := BW_tb 886 (by rfl) (by rfl)
set_option maxRecDepth 100000 in
theorem w_888 : Cond.instanceMethod y_Mod_detectorOf ∈ BW := BW_tb 888 (by rfl) (by rfl)
set_option maxRecDepth 100000 in
theorem w_889 : Cond.code y_Mod_detectorOf prog_11_method_21_code 5 (some FieldType.int) ∈ BW := BW_tb 889 (by rfl) (by rfl)
set_option maxRecDepth 100000 in
theorem w_890 : Cond.methodLink "PlanRowsLaw" 138 y_Mod_alarm ∈ BW := BW_tb 890 (by rfl) (by rfl)
set_option maxRecDepth 100000 in
theorem w_891 : Cond.instanceMethod y_Mod_alarm ∈ BW := BW_tb 891 (by rfl) (by rfl)
set_option maxRecDepth 100000 in
theorem w_892 : Cond.selects "PlanRowsModel" y_Mod_alarm y_Mod_alarm ∈ BW := BW_tb 892 (by rfl) (by rfl)
set_option maxRecDepth 100000 in
theorem w_893 : Cond.code y_Mod_alarm prog_11_method_24_code 4 (some FieldType.int) ∈ BW := BW_tb 893 (by rfl) (by rfl)
set_option maxRecDepth 100000 in
theorem w_894 : Cond.methodLink "PlanRowsLaw" 141 y_Mod_people ∈ BW := BW_tb 894 (by rfl) (by rfl)
set_option maxRecDepth 100000 in
theorem w_895 : Cond.instanceMethod y_Mod_people ∈ BW := BW_tb 895 (by rfl) (by rfl)
set_option maxRecDepth 100000 in
theorem w_896 : Cond.selects "PlanRowsModel" y_Mod_people y_Mod_people ∈ BW := BW_tb 896 (by rfl) (by rfl)
set_option maxRecDepth 100000 in
theorem w_897 : Cond.code y_Mod_people prog_11_method_26_code 5 (some FieldType.int) ∈ BW := BW_tb 897 (by rfl) (by rfl)
set_option maxRecDepth 100000 in
theorem w_898 : Cond.methodLink "PlanRowsModel" 134 y_Mod_isHour ∈ BW := BW_tb 898 (by rfl) (by rfl)
set_option maxRecDepth 100000 in
theorem w_899 : Cond.static y_Mod_isHour ∈ BW := BW_tb 899 (by rfl) (by rfl)
set_option maxRecDepth 100000 in
theorem w_900 : Cond.code y_Mod_isHour prog_11_method_25_code 1 (some FieldType.boolean) ∈ BW := BW_tb 900 (by rfl) (by rfl)
set_option maxRecDepth 100000 in
theorem w_901 : Cond.methodLink "PlanRowsLaw" 144 y_Mod_inside ∈ BW := BW_tb 901 (by rfl) (by rfl)
set_option maxRecDepth 100000 in
theorem w_902 : Cond.instanceMethod y_Mod_inside ∈ BW := BW_tb 902 (by rfl) (by rfl)
set_option maxRecDepth 100000 in
theorem w_903 : Cond.selects "PlanRowsModel" y_Mod_inside y_Mod_inside ∈ BW := BW_tb 903 (by rfl) (by rfl)
set_option maxRecDepth 100000 in
theorem w_904 : Cond.code y_Mod_inside prog_11_method_27_code 8 (some FieldType.int) ∈ BW := BW_tb 904 (by rfl) (by rfl)
set_option maxRecDepth 100000 in
theorem w_905 : Cond.methodLink "PlanRowsLaw" 147 y_Mod_window ∈ BW := BW_tb 905 (by rfl) (by rfl)
set_option maxRecDepth 100000 in
theorem w_906 : Cond.instanceMethod y_Mod_window ∈ BW := BW_tb 906 (by rfl) (by rfl)
set_option maxRecDepth 100000 in
theorem w_907 : Cond.selects "PlanRowsModel" y_Mod_window y_Mod_window ∈ BW := BW_tb 907 (by rfl) (by rfl)
set_option maxRecDepth 100000 in
theorem w_908 : Cond.code y_Mod_window prog_11_method_29_code 5 (some FieldType.int) ∈ BW := BW_tb 908 (by rfl) (by rfl)
set_option maxRecDepth 100000 in
theorem w_909 : Cond.methodLink "PlanRowsModel" 142 y_Mod_isPoint ∈ BW := BW_tb 909 (by rfl) (by rfl)
set_option maxRecDepth 100000 in
theorem w_910 : Cond.static y_Mod_isPoint ∈ BW := BW_tb 910 (by rfl) (by rfl)
set_option maxRecDepth 100000 in
theorem w_911 : Cond.code y_Mod_isPoint prog_11_method_28_code 3 (some FieldType.boolean) ∈ BW := BW_tb 911 (by rfl) (by rfl)
set_option maxRecDepth 100000 in
theorem w_912 : Cond.constant "PlanRowsModel" 140 (-200000) ∈ BW := BW_tb 912 (by rfl) (by rfl)
set_option maxRecDepth 100000 in
theorem w_913 : Cond.constant "PlanRowsModel" 141 200000 ∈ BW := BW_tb 913 (by rfl) (by rfl)
set_option maxRecDepth 100000 in
theorem w_914 : Cond.methodLink "PlanRowsLaw" 151 y_Mod_reaches ∈ BW := BW_tb 914 (by rfl) (by rfl)
set_option maxRecDepth 100000 in
theorem w_915 : Cond.instanceMethod y_Mod_reaches ∈ BW := BW_tb 915 (by rfl) (by rfl)
set_option maxRecDepth 100000 in
theorem w_916 : Cond.selects "PlanRowsModel" y_Mod_reaches y_Mod_reaches ∈ BW := BW_tb 916 (by rfl) (by rfl)
set_option maxRecDepth 100000 in
theorem w_917 : Cond.code y_Mod_reaches prog_11_method_31_code 7 (some FieldType.boolean) ∈ BW := BW_tb 917 (by rfl) (by rfl)
set_option maxRecDepth 100000 in
theorem w_918 : Cond.methodLink "PlanRowsModel" 148 y_Mod_squareTo ∈ BW := BW_tb 918 (by rfl) (by rfl)
set_option maxRecDepth 100000 in
theorem w_920 : Cond.instanceMethod y_Mod_squareTo ∈ BW := BW_tb 920 (by rfl) (by rfl)
set_option maxRecDepth 100000 in
theorem w_921 : Cond.code y_Mod_squareTo prog_11_method_30_code 11 (some FieldType.long) ∈ BW := BW_tb 921 (by rfl) (by rfl)
set_option maxRecDepth 100000 in
theorem w_922 : Cond.methodLink "PlanRowsLaw" 154 y_Mod_ladder ∈ BW := BW_tb 922 (by rfl) (by rfl)
set_option maxRecDepth 100000 in
theorem w_923 : Cond.instanceMethod y_Mod_ladder ∈ BW := BW_tb 923 (by rfl) (by rfl)
set_option maxRecDepth 100000 in
theorem w_924 : Cond.selects "PlanRowsModel" y_Mod_ladder y_Mod_ladder ∈ BW := BW_tb 924 (by rfl) (by rfl)
set_option maxRecDepth 100000 in
theorem w_925 : Cond.code y_Mod_ladder prog_11_method_32_code 11 (some FieldType.int) ∈ BW := BW_tb 925 (by rfl) (by rfl)
set_option maxRecDepth 100000 in
theorem w_926 : Cond.constantLong "PlanRowsModel" 152 40000000000 ∈ BW := BW_tb 926 (by rfl) (by rfl)
set_option maxRecDepth 100000 in
theorem w_927 : Cond.methodLink "PlanRowsLaw" 157 y_Mod_look ∈ BW := BW_tb 927 (by rfl) (by rfl)
set_option maxRecDepth 100000 in
theorem w_928 : Cond.instanceMethod y_Mod_look ∈ BW := BW_tb 928 (by rfl) (by rfl)
set_option maxRecDepth 100000 in
theorem w_929 : Cond.selects "PlanRowsModel" y_Mod_look y_Mod_look ∈ BW := BW_tb 929 (by rfl) (by rfl)
set_option maxRecDepth 100000 in
theorem w_930 : Cond.code y_Mod_look prog_11_method_33_code 4 none ∈ BW := BW_tb 930 (by rfl) (by rfl)
set_option maxRecDepth 100000 in
theorem w_931 : Cond.constant "PlanRowsModel" 154 99999 ∈ BW := BW_tb 931 (by rfl) (by rfl)
set_option maxRecDepth 100000 in
theorem w_932 : Cond.methodLink "PlanRowsLaw" 160 y_Mod_old ∈ BW := BW_tb 932 (by rfl) (by rfl)
set_option maxRecDepth 100000 in
theorem w_933 : Cond.instanceMethod y_Mod_old ∈ BW := BW_tb 933 (by rfl) (by rfl)
set_option maxRecDepth 100000 in
theorem w_934 : Cond.selects "PlanRowsModel" y_Mod_old y_Mod_old ∈ BW := BW_tb 934 (by rfl) (by rfl)
set_option maxRecDepth 100000 in
theorem w_935 : Cond.code y_Mod_old prog_11_method_34_code 2 (some FieldType.boolean) ∈ BW := BW_tb 935 (by rfl) (by rfl)
set_option maxRecDepth 100000 in
theorem w_936 : Cond.methodLink "PlanRowsLaw" 163 y_Mod_count ∈ BW := BW_tb 936 (by rfl) (by rfl)
set_option maxRecDepth 100000 in
theorem w_937 : Cond.instanceMethod y_Mod_count ∈ BW := BW_tb 937 (by rfl) (by rfl)
set_option maxRecDepth 100000 in
theorem w_938 : Cond.selects "PlanRowsModel" y_Mod_count y_Mod_count ∈ BW := BW_tb 938 (by rfl) (by rfl)
set_option maxRecDepth 100000 in
theorem w_939 : Cond.code y_Mod_count prog_11_method_35_code 4 (some FieldType.int) ∈ BW := BW_tb 939 (by rfl) (by rfl)
set_option maxRecDepth 100000 in
theorem w_940 : Cond.arrayClass FieldType.long ∈ BW := BW_tb 940 (by rfl) (by rfl)
theorem ws_Plan_wantRoom : Cond.selects "PlanRows" y_Plan_wantRoom y_Plan_wantRoom ∈ BW := BW_sel 1 (by rfl) (by rfl)
theorem ws_Search_spread : Cond.selects "PlanRows$Search" y_Search_spread y_Search_spread ∈ BW := BW_sel 2 (by rfl) (by rfl)
theorem ws_Search_spreadOverAllDoors : Cond.selects "PlanRows$Search" y_Search_spreadOverAllDoors y_Search_spreadOverAllDoors ∈ BW := BW_sel 3 (by rfl) (by rfl)
theorem ws_Search_isPassed : Cond.selects "PlanRows$Search" y_Search_isPassed y_Search_isPassed ∈ BW := BW_sel 4 (by rfl) (by rfl)
theorem ws_Search_lowerCost : Cond.selects "PlanRows$Search" y_Search_lowerCost y_Search_lowerCost ∈ BW := BW_sel 5 (by rfl) (by rfl)
theorem ws_Search_isReached : Cond.selects "PlanRows$Search" y_Search_isReached y_Search_isReached ∈ BW := BW_sel 6 (by rfl) (by rfl)
theorem ws_Search_stairsTo : Cond.selects "PlanRows$Search" y_Search_stairsTo y_Search_stairsTo ∈ BW := BW_sel 7 (by rfl) (by rfl)
theorem ws_Search_lowestDoorInto : Cond.selects "PlanRows$Search" y_Search_lowestDoorInto y_Search_lowestDoorInto ∈ BW := BW_sel 8 (by rfl) (by rfl)
theorem ws_Plan_wantWindow : Cond.selects "PlanRows" y_Plan_wantWindow y_Plan_wantWindow ∈ BW := BW_sel 9 (by rfl) (by rfl)
theorem ws_Mod_throwing : Cond.selects "PlanRowsModel" y_Mod_throwing y_Mod_throwing ∈ BW := BW_sel 10 (by rfl) (by rfl)
theorem ws_Mod_isRoom : Cond.selects "PlanRowsModel" y_Mod_isRoom y_Mod_isRoom ∈ BW := BW_sel 11 (by rfl) (by rfl)
theorem ws_Mod_reckon : Cond.selects "PlanRowsModel" y_Mod_reckon y_Mod_reckon ∈ BW := BW_sel 12 (by rfl) (by rfl)
theorem ws_Mod_isPassed : Cond.selects "PlanRowsModel" y_Mod_isPassed y_Mod_isPassed ∈ BW := BW_sel 13 (by rfl) (by rfl)
theorem ws_Mod_costOf : Cond.selects "PlanRowsModel" y_Mod_costOf y_Mod_costOf ∈ BW := BW_sel 14 (by rfl) (by rfl)
theorem ws_Mod_nearest : Cond.selects "PlanRowsModel" y_Mod_nearest y_Mod_nearest ∈ BW := BW_sel 15 (by rfl) (by rfl)
theorem ws_Mod_into : Cond.selects "PlanRowsModel" y_Mod_into y_Mod_into ∈ BW := BW_sel 16 (by rfl) (by rfl)
theorem ws_Mod_detectorOf : Cond.selects "PlanRowsModel" y_Mod_detectorOf y_Mod_detectorOf ∈ BW := BW_sel 17 (by rfl) (by rfl)
theorem ws_Mod_squareTo : Cond.selects "PlanRowsModel" y_Mod_squareTo y_Mod_squareTo ∈ BW := BW_sel 18 (by rfl) (by rfl)
theorem in_Crowd : ∀ w ∈ u_ws R_Crowd F_Crowd 5, w ∈ BW := by
  intro w hw
  obtain ⟨k, hk, rfl⟩ := List.mem_map.mp hw
  have hk := List.mem_range.mp hk
  match k, hk with
  | 0, _ => exact w_161
  | 1, _ => exact w_163
  | 2, _ => exact w_165
  | 3, _ => exact w_167
  | 4, _ => exact w_169
  | k + 5, hk => exact absurd hk (by omega)
theorem in_Det : ∀ w ∈ u_ws R_Det F_Det 4, w ∈ BW := by
  intro w hw
  obtain ⟨k, hk, rfl⟩ := List.mem_map.mp hw
  have hk := List.mem_range.mp hk
  match k, hk with
  | 0, _ => exact w_141
  | 1, _ => exact w_143
  | 2, _ => exact w_145
  | 3, _ => exact w_147
  | k + 4, hk => exact absurd hk (by omega)
theorem in_Doors : ∀ w ∈ u_ws R_Doors F_Doors 5, w ∈ BW := by
  intro w hw
  obtain ⟨k, hk, rfl⟩ := List.mem_map.mp hw
  have hk := List.mem_range.mp hk
  match k, hk with
  | 0, _ => exact w_63
  | 1, _ => exact w_65
  | 2, _ => exact w_67
  | 3, _ => exact w_69
  | 4, _ => exact w_71
  | k + 5, hk => exact absurd hk (by omega)
theorem in_Keys : ∀ w ∈ u_ws R_Keys F_Keys 2, w ∈ BW := by
  intro w hw
  obtain ⟨k, hk, rfl⟩ := List.mem_map.mp hw
  have hk := List.mem_range.mp hk
  match k, hk with
  | 0, _ => exact w_83
  | 1, _ => exact w_85
  | k + 2, hk => exact absurd hk (by omega)
theorem in_Rooms : ∀ w ∈ u_ws R_Rooms F_Rooms 4, w ∈ BW := by
  intro w hw
  obtain ⟨k, hk, rfl⟩ := List.mem_map.mp hw
  have hk := List.mem_range.mp hk
  match k, hk with
  | 0, _ => exact w_40
  | 1, _ => exact w_42
  | 2, _ => exact w_44
  | 3, _ => exact w_46
  | k + 4, hk => exact absurd hk (by omega)
theorem in_Route : ∀ w ∈ u_ws R_Route F_Route 4, w ∈ BW := by
  intro w hw
  obtain ⟨k, hk, rfl⟩ := List.mem_map.mp hw
  have hk := List.mem_range.mp hk
  match k, hk with
  | 0, _ => exact w_121
  | 1, _ => exact w_123
  | 2, _ => exact w_125
  | 3, _ => exact w_127
  | k + 4, hk => exact absurd hk (by omega)
theorem in_Search : ∀ w ∈ u_ws R_Search F_Search 4, w ∈ BW := by
  intro w hw
  obtain ⟨k, hk, rfl⟩ := List.mem_map.mp hw
  have hk := List.mem_range.mp hk
  match k, hk with
  | 0, _ => exact w_99
  | 1, _ => exact w_101
  | 2, _ => exact w_103
  | 3, _ => exact w_105
  | k + 4, hk => exact absurd hk (by omega)
theorem in_Win : ∀ w ∈ u_ws R_Win F_Win 4, w ∈ BW := by
  intro w hw
  obtain ⟨k, hk, rfl⟩ := List.mem_map.mp hw
  have hk := List.mem_range.mp hk
  match k, hk with
  | 0, _ => exact w_183
  | 1, _ => exact w_185
  | 2, _ => exact w_187
  | 3, _ => exact w_189
  | k + 4, hk => exact absurd hk (by omega)
theorem in_Plan : ∀ w ∈ u_ws R_Plan F_Plan 10, w ∈ BW := by
  intro w hw
  obtain ⟨k, hk, rfl⟩ := List.mem_map.mp hw
  have hk := List.mem_range.mp hk
  match k, hk with
  | 0, _ => exact w_202
  | 1, _ => exact w_204
  | 2, _ => exact w_206
  | 3, _ => exact w_208
  | 4, _ => exact w_210
  | 5, _ => exact w_212
  | 6, _ => exact w_214
  | 7, _ => exact w_216
  | 8, _ => exact w_218
  | 9, _ => exact w_220
  | k + 10, hk => exact absurd hk (by omega)
theorem in_Mod : ∀ w ∈ u_ws R_Mod F_Mod 31, w ∈ BW := by
  intro w hw
  obtain ⟨k, hk, rfl⟩ := List.mem_map.mp hw
  have hk := List.mem_range.mp hk
  match k, hk with
  | 0, _ => exact w_740
  | 1, _ => exact w_742
  | 2, _ => exact w_744
  | 3, _ => exact w_746
  | 4, _ => exact w_748
  | 5, _ => exact w_750
  | 6, _ => exact w_752
  | 7, _ => exact w_754
  | 8, _ => exact w_756
  | 9, _ => exact w_758
  | 10, _ => exact w_760
  | 11, _ => exact w_762
  | 12, _ => exact w_764
  | 13, _ => exact w_766
  | 14, _ => exact w_768
  | 15, _ => exact w_770
  | 16, _ => exact w_772
  | 17, _ => exact w_774
  | 18, _ => exact w_776
  | 19, _ => exact w_778
  | 20, _ => exact w_780
  | 21, _ => exact w_782
  | 22, _ => exact w_784
  | 23, _ => exact w_786
  | 24, _ => exact w_788
  | 25, _ => exact w_790
  | 26, _ => exact w_792
  | 27, _ => exact w_794
  | 28, _ => exact w_796
  | 29, _ => exact w_798
  | 30, _ => exact w_800
  | k + 31, hk => exact absurd hk (by omega)
end
section
/-! Methods that throw, calls of them, handlers: a contract MX says of both ends (returned, threw); XRun is a call with both ends; x_pure, x_thrown, x_caught go on behind it. -/
section XT
variable {p : Program} {l : Launch} {e : Env} {R : Room} {s : State} {m : MethodId} {args : Array Value} {below : List Frame} {meth : Method} {c : Code} {H : Heap} {locs : List Loc} {cells slots : Nat} {Q : State → Prop}
def xE (first t : State) (L : List Loc) (k n : Nat) : Prop := first.WarmedH t.vm ∧ first.sameButNew ({ t with vm := first.vm } : State) L k n
def MX (l : Launch) (y : MethodName) (ws : List Cond) (rm : Room) (Pc : Array Value → State → Prop) (Qc : Array Value → State → Outcome → State → Prop) (mc ms : Nat) (free : Addr → Prop) : Prop :=
  MetFree l y (headSpec ws rm) Pc (fun _ _ _ _ _ => True) (fun a st o t => Qc a st o t ∧ ∃ L, xE st t L mc ms ∧ ∀ q ∈ L, free q.base)
def MQX (below : List Frame) (Qc : Array Value → State → Outcome → State → Prop) (a : Array Value) (s : State) (mc ms : Nat) (free : Addr → Prop) : State → Prop := fun t =>
  ∃ o, t.status = .running ∧ Ended t below o ∧ Qc a s o t ∧ ∃ L, xE s t L mc ms ∧ ∀ q ∈ L, free q.base
theorem MX.of_met {y : MethodName} {ws : List Cond} {rm : Room} {Pc : Array Value → State → Prop} {Qc : Array Value → State → Outcome → State → Prop} {mc ms : Nat} {free : Addr → Prop} (h : Met l y ws rm Pc Qc mc ms free) : MX l y ws rm Pc Qc mc ms free :=
  MetFree.mono h (fun _ _ h => h) (fun _ _ _ _ _ h => h) (fun _ _ _ _ _ h => by obtain ⟨hq, L, hF, hL⟩ := h; exact ⟨hq, L, ⟨hF.2.1, hF.2.2⟩, hL⟩)
theorem W.mono {Q' : State → Prop} {g : JFrame} (h : ∀ t, Q t → Q' t) (w : W p l e R s m args below meth c H locs cells slots Q g) : W p l e R s m args below meth c H locs cells slots Q' g := fun T hT X => by
  obtain ⟨t, a, b⟩ := w T hT X
  exact ⟨t, a, h t b⟩
theorem W.toX {Qc : Array Value → State → Outcome → State → Prop} {mc ms : Nat} {free : Addr → Prop} {g : JFrame} (w : W p l e R s m args below meth c H locs cells slots (MQ below Qc args s mc ms free) g) : W p l e R s m args below meth c H locs cells slots (MQX below Qc args s mc ms free) g :=
  W.mono (fun t h => by obtain ⟨o, h1, h2, h3, L, hF, hL⟩ := h; exact ⟨o, h1, h2, h3, L, ⟨hF.2.1, hF.2.2⟩, hL⟩) w
theorem x_empty {c : Code} (h : c.exceptionTable.isEmpty = true) : c.exceptionTable.toList = [] := by
  have h0 : c.exceptionTable.size = 0 := by simpa [Array.isEmpty] using h
  exact List.eq_nil_of_length_eq_zero (by simpa using h0)
theorem MX.ofW {y : MethodName} {ws ws' : List Cond} {rm : Room} {Pc : Array Value → State → Prop} {Qc : Array Value → State → Outcome → State → Prop} {mc ms : Nat} {free : Addr → Prop} {cc : ByteArray} {maxL : Nat} {ret : Option FieldType}
    (hy : plainName y.cls = true) (hw : ws = Cond.code y cc maxL ret :: ws')
    (body : ∀ p e s m args below meth c s₁, BodyLoose p l y (headSpec ws rm) cc maxL ret e s m args below meth c s₁ → c.maxLocals = maxL → c.exceptionTable.toList = [] → Pc args s →
      W p l e (headSpec ws rm).room s m args below meth c s.heap [] 0 0 (MQX below Qc args s mc ms free) (entryFrame m args maxL)) : MX l y ws rm Pc Qc mc ms free := by
  refine MetFree.of_bodyS (code := cc) (maxLocals := maxL) (ret := ret) hy ?_ ?_
  · intro args s m h hn
    obtain ⟨meth, c, h1, h2, h3, h4, h5, h6, -, -⟩ := Cond.code_spec hn (atoms_spec (ws := ws) h _ (by rw [hw]; exact List.mem_cons_self))
    exact ⟨meth, c, h1, h2, h3, h4, h5, h6⟩
  · intro p e s m args below meth c s₁ B hml hP _
    have hh0 : s₁.heap = s.heap := by rw [B.state]; rfl
    have hno := B.noHandlers (atoms_spec (ws := ws) B.pre _ (by rw [hw]; exact List.mem_cons_self))
    obtain ⟨t, a1, o, b1, b2, b3⟩ := body p e s m args below meth c s₁ B hml (x_empty hno) hP s₁ hh0 (Stand.of_body B)
    exact ⟨t, o, a1, b1, b2, ⟨b3.1, b3.2⟩⟩
theorem MX.ofWith {y : MethodName} {ws ws' : List Cond} {rm : Room} {Pc : Array Value → State → Prop} {Qc : Array Value → State → Outcome → State → Prop} {mc ms : Nat} {free : Addr → Prop} {cc : ByteArray} {maxL : Nat} {ret : Option FieldType} {hs : List (Nat × Nat × Nat × Nat)}
    (hy : plainName y.cls = true) (hw : ws = Cond.codeWith y cc maxL ret hs :: ws')
    (body : ∀ p e s m args below meth c s₁, BodyLoose p l y (headSpec ws rm) cc maxL ret e s m args below meth c s₁ → c.maxLocals = maxL → c.exceptionTable.toList = tableOf hs → Pc args s →
      W p l e (headSpec ws rm).room s m args below meth c s.heap [] 0 0 (MQX below Qc args s mc ms free) (entryFrame m args maxL)) : MX l y ws rm Pc Qc mc ms free := by
  refine MetFree.of_bodyS (code := cc) (maxLocals := maxL) (ret := ret) hy ?_ ?_
  · intro args s m h hn
    obtain ⟨m', meth, c, hn', h1, h2, h3, h4, -, h5, h6, -⟩ := Cond.codeWith_spec (atoms_spec (ws := ws) h _ (by rw [hw]; exact List.mem_cons_self))
    cases hn.symm.trans hn'
    exact ⟨meth, c, h1, h2, h3, h4, h5, h6⟩
  · intro p e s m args below meth c s₁ B hml hP _
    have hh0 : s₁.heap = s.heap := by rw [B.state]; rfl
    obtain ⟨m', meth', c', hn', hm', hc', -, -, ht', -, -, -⟩ := Cond.codeWith_spec (atoms_spec (ws := ws) B.pre _ (by rw [hw]; exact List.mem_cons_self))
    cases B.named.symm.trans hn'
    cases B.method.symm.trans hm'
    cases (Stand.of_body B).code.symm.trans hc'
    obtain ⟨t, a1, o, b1, b2, b3⟩ := body p e s m args below meth c s₁ B hml (by rw [← ht', table_eq]) hP s₁ hh0 (Stand.of_body B)
    exact ⟨t, o, a1, b1, b2, ⟨b3.1, b3.2⟩⟩
/-- a call, both ends -/
def XRun (p : Program) (l : Launch) (e : Env) (R : Room) (s : State) (m : MethodId) (args : Array Value) (below : List Frame) (meth : Method) (c : Code) (H : Heap) (locs : List Loc) (cells slots mc ms : Nat) (g : JFrame) (rest : List Value) (Qa : State → Outcome → State → Prop) (free : Addr → Prop) : Prop :=
  ∀ T : State, T.heap = H → Stand p l e R s m args below meth c T locs cells slots → ∃ (o : Outcome) (st₀ t T' : State) (L : List Loc), st₀.heap = H ∧ Stand p l e R s m args below meth c T' (locs ++ L) (cells + mc) (slots + ms) ∧ (∀ q ∈ L, free q.base) ∧ T'.heap = t.heap ∧ T'.vm = t.vm ∧ Qa st₀ o t ∧
    ((∃ v, o = .returned v ∧ Goes p e below T g T' { g with pc := g.pc + 3, stack := v.toList ++ rest }) ∨
     (∃ x, o = .threw x ∧ ∀ tg, Steps p.tables e below ((T'.setTop { g with stack := rest }).pushFrame (.throwing x)) tg → Steps p.tables e below (T.setTop g) tg))
theorem xback {T : State} {y : MethodName} {ws : List Cond} {rm : Room} {Pc : Array Value → State → Prop} {Qc : Array Value → State → Outcome → State → Prop} {mc ms maxL : Nat} {free : Addr → Prop}
    (X : Stand p l e R s m args below meth c T locs cells slots) (hM : MX l y ws rm Pc Qc mc ms free) (hbl : FrameBlind Pc) (hrc : rm.cells = mc) (hrs : rm.slots = ms) (hfr : rm.frames + 1 ≤ R.frames)
    {g : JFrame} (hg : g.method = m) (hsize : g.locals.size = c.maxLocals) {ig : Instr} (hdg : decode c.code g.pc = .ok (ig, 3)) (hlo : 2 * g.monitorRoom + (g.stack.map fun v => v.category).sum + (maxL + 11) + rm.locals ≤ R.locals) (hcells : cells + mc ≤ R.cells) (hslots : slots + ms ≤ R.slots)
    {mk : MethodId} {a : Array Value} (hn : T.methodNamed? y = some mk) (hws : ∀ w ∈ ws, w.before a T = true) (hini : (Cond.initialized y.cls).before a T = true)
    {methk : Method} {ck : Code} (hmk : T.vm.method? mk = some methk) (hck : methk.code = some ck) (hlk : ck.maxLocals = maxL) (hPc : Pc a T) :
    ∃ (o : Outcome) (t T' : State) (L : List Loc), Stand p l e R s m args below meth c T' (locs ++ L) (cells + mc) (slots + ms) ∧ (∀ q ∈ L, free q.base) ∧ T'.heap = t.heap ∧ T'.vm = t.vm ∧ Qc a (T.calling g mk a) o t ∧
      ((∃ v, o = .returned v ∧ Steps p.tables e below (doInvoke e (T.setTop g) [] mk a).1 (T'.setTop { g with pc := g.pc + 3, stack := v.toList ++ g.stack })) ∨ (∃ x, o = .threw x ∧ Steps p.tables e below (doInvoke e (T.setTop g) [] mk a).1 ((T'.setTop g).pushFrame (.throwing x)))) := by
  obtain ⟨kY, hkY, -⟩ := className_of_methodNamed hn
  have hinitY : kY.init = .initialized := Cond.initialized_spec (findClass_of_methodNamed hn) hkY hini
  have h : At T g.method c below := by rw [hg]; exact X.here
  have happ : (headSpec ws rm).appliesLoose y e.platform (T.calling g mk a) = true :=
    Spec.appliesLoose_calling (g := g) h hdg hn hkY hinitY
      (X.room_calling (g := g) (R' := rm) hsize hmk hck hfr (by rw [hlk]; exact hlo) (by rw [hrc]; exact hcells) (by rw [hrs]; exact hslots)) (atoms_intro hws)
  obtain ⟨mid, hmid⟩ := h.above
  have hfr' : (T.setTop g).frames = (.java g :: mid) ++ below := by rw [State.frames_setTop' g h.top, hmid]; rfl
  obtain ⟨o, t, hsteps, -, hend, hq, L, hE, hL⟩ := Steps.callFree hM p X.admits X.cas X.clock (acts := []) hfr' happ (hbl _ _ _ _ hPc) trivial
  rw [State.frames_setTop' g h.top, X.tail] at hend
  cases o with
  | returned v =>
    obtain ⟨T', X', -, -, ht⟩ := X.outOf hg hdg hend hE.1 hE.2
    exact ⟨_, t, T', L, X', hL, by rw [ht]; rfl, by rw [ht]; rfl, hq, Or.inl ⟨v, rfl, ht ▸ hsteps⟩⟩
  | threw x =>
    obtain ⟨T', X', -, -, ht⟩ := X.outOfThrown hg hend hE.1 hE.2
    exact ⟨_, t, T', L, X', hL, by rw [ht]; rfl, by rw [ht]; rfl, hq, Or.inr ⟨x, rfl, ht ▸ hsteps⟩⟩
variable {y : MethodName} {bytes cc : ByteArray} {maxL nL mc ms n index : Nat} {ret : Option FieldType} {ws : List Cond} {rm : Room} {Pc : Array Value → State → Prop} {Qc : Array Value → State → Outcome → State → Prop} {free : Addr → Prop} {Ts : List Cond} {own C : String} {b : Addr} {As rest : List Value} {g : JFrame}
theorem x_runV (S : CallFix p m c cc nL s args Ts own) (hM : MX l y ws rm Pc Qc mc ms free) (cw : CallW R s args own C index y bytes maxL ret ws rm mc ms n) (hp : PreV s H C b Pc As)
    (hg : g.method = m) (hn : As.length = n) (hsize : g.locals.size = nL) (hstack : g.stack = As.reverse ++ .ref b :: rest) (hW : 2 * g.monitorRoom + (rest.map fun v => v.category).sum ≤ 8) (hdg : decode cc g.pc = .ok (.invokevirtual index, 3)) (hf : cells + mc ≤ R.cells ∧ slots + ms ≤ R.slots) :
    XRun p l e R s m args below meth c H locs cells slots mc ms g rest (Qc (Value.ref b :: As).toArray) free := by
  obtain ⟨⟨hrc, hrs, hfr, hlo, hws, hcw, hcode, hini, hy, hlen, hl⟩, hinst, hsel⟩ := cw
  obtain ⟨hx, hb, hml, ho, -⟩ := S
  obtain ⟨hbl, ⟨cellB, hcB, hoB, hclB⟩, hPc⟩ := hp
  intro T hT X
  obtain ⟨mk, methM, hnamed, hmethM, hstM, habM⟩ := Cond.instanceMethod_spec hinst
  obtain ⟨methM', cM, hmethM', hcM, -, hlM, -, -, -, hsigM⟩ := Cond.code_spec hnamed hcode
  cases hmethM.symm.trans hmethM'
  obtain ⟨c2, r2, m2, q1, q2, q3, q4, kP, hkP, hkPi⟩ := Cond.selects_spec hsel
  cases hclB.symm.trans q1
  cases (State.methodFound?_of_named hnamed hy).symm.trans q2
  cases hnamed.symm.trans q3
  have hselP : selectMethod e.platform s.vm cellB.cls mk = .method mk := by rw [Launch.admits_selectMethod X.admits]; exact q4
  obtain ⟨vm₁, X₁, hstep₁⟩ := X.invokevirtual hx ho hl hnamed hmethM hstM hkP hkPi hy (a := b) (cell := cellB) (by rw [hT]; exact hcB)
    (fun z h => by rw [h] at hoB; cases hoB) hselP hmethM habM hkP hkPi (g := g) hg (argsL := As) (rest := rest) (hn.trans (hlen _ hsigM)) hstack (by rw [hb]; exact hdg)
  have hmk₁ : (T.setVm vm₁).vm.method? mk = some methM := by rw [X₁.warmed.alike.method?]; exact hmethM
  obtain ⟨o, t, T', L, X', hL, e1, e2, hq, hst⟩ := xback (a := (Value.ref b :: As).toArray) X₁ hM hbl hrc hrs hfr (g := { g with stack := rest }) hg (hsize.trans hml.symm) (by rw [hb]; exact hdg) (by show 2 * g.monitorRoom + (rest.map _).sum + _ + _ ≤ _; omega) hf.1 hf.2 (X₁.named hnamed)
    (fun w hw => hws w hw _ _ X₁.warmed) (word_at X₁.warmed (Or.inl (by first | rfl | simp [Cond.onTables, Cond.keeps, Cond.steady])) hini) hmk₁ hcM hlM (hPc (T.setVm vm₁) hT X₁.warmed)
  refine ⟨o, (T.setVm vm₁).calling { g with stack := rest } mk (Value.ref b :: As).toArray, t, T', L, hT, X', hL, e1, e2, hq, ?_⟩
  rcases hst with ⟨v, rfl, hst⟩ | ⟨x, rfl, hst⟩
  · exact Or.inl ⟨v, rfl, fun tg h => hstep₁ _ fun acts => by rw [doInvoke_state]; exact hst.trans h⟩
  · exact Or.inr ⟨x, rfl, fun tg h => hstep₁ _ fun acts => by rw [doInvoke_state]; exact hst.trans h⟩
theorem x_runS (S : CallFix p m c cc nL s args Ts own) (hM : MX l y ws rm Pc Qc mc ms free) (cw : CallB R s args own index y bytes maxL ret ws rm mc ms n ∧ (Cond.static y).before args s = true) (hp : PreS s H Pc As)
    (hg : g.method = m) (hn : As.length = n) (hsize : g.locals.size = nL) (hstack : g.stack = As.reverse ++ rest) (hW : 2 * g.monitorRoom + (rest.map fun v => v.category).sum ≤ 8) (hdg : decode cc g.pc = .ok (.invokestatic index, 3)) (hf : cells + mc ≤ R.cells ∧ slots + ms ≤ R.slots) :
    XRun p l e R s m args below meth c H locs cells slots mc ms g rest (Qc As.toArray) free := by
  obtain ⟨⟨hrc, hrs, hfr, hlo, hws, hcw, hcode, hini, hy, hlen, hl⟩, hstat⟩ := cw
  obtain ⟨hx, hb, hml, ho, -⟩ := S
  obtain ⟨hbl, hPc⟩ := hp
  intro T hT X
  obtain ⟨mk, hnamed⟩ := Cond.code_named hcode
  obtain ⟨methM, cM, hmethM, hcM, -, hlM, -, -, -, hsigM⟩ := Cond.code_spec hnamed hcode
  have hstatic : methM.isStatic = true := Cond.static_spec hnamed hmethM hstat
  obtain ⟨kP, hkP, -⟩ := className_of_methodNamed hnamed
  have hinitP : kP.init = .initialized := Cond.initialized_spec (findClass_of_methodNamed hnamed) hkP hini
  obtain ⟨vm₁, X₁, hstep₁⟩ := X.invokestatic hx ho hl hnamed hmethM hstatic hkP hinitP hy (g := g) hg (argsL := As) (rest := rest) (hn.trans (hlen _ hsigM)) hstack (by rw [hb]; exact hdg)
  have hmk₁ : (T.setVm vm₁).vm.method? mk = some methM := by rw [X₁.warmed.alike.method?]; exact hmethM
  obtain ⟨o, t, T', L, X', hL, e1, e2, hq, hst⟩ := xback (a := As.toArray) X₁ hM hbl hrc hrs hfr (g := { g with stack := rest }) hg (hsize.trans hml.symm) (by rw [hb]; exact hdg) (by show 2 * g.monitorRoom + (rest.map _).sum + _ + _ ≤ _; omega) hf.1 hf.2 (X₁.named hnamed)
    (fun w hw => hws w hw _ _ X₁.warmed) (word_at X₁.warmed (Or.inl (by first | rfl | simp [Cond.onTables, Cond.keeps, Cond.steady])) hini) hmk₁ hcM hlM (hPc (T.setVm vm₁) hT X₁.warmed)
  refine ⟨o, (T.setVm vm₁).calling { g with stack := rest } mk As.toArray, t, T', L, hT, X', hL, e1, e2, hq, ?_⟩
  rcases hst with ⟨v, rfl, hst⟩ | ⟨x, rfl, hst⟩
  · exact Or.inl ⟨v, rfl, fun tg h => hstep₁ _ fun acts => by rw [doInvoke_state]; exact hst.trans h⟩
  · exact Or.inr ⟨x, rfl, fun tg h => hstep₁ _ fun acts => by rw [doInvoke_state]; exact hst.trans h⟩
end XT
/-- a pure end: this answer, the heap as it was -/
def PQ (v : Option Value) : Array Value → State → Outcome → State → Prop := fun _ st o t => o = .returned v ∧ t.heap = st.heap
def xO (X : String) (x : Addr) (t : State) (H : Heap) : Prop := ∃ cell : Cell, H[x]? = some cell ∧ cell.vm.isStatics = false ∧ t.vm.findClass X = some cell.cls
/-- it throws an object of X, which is new; every old cell is as it was -/
def TQ (X : String) : Array Value → State → Outcome → State → Prop := fun _ st o t => ∃ x : Addr, o = .threw x ∧ xO X x t t.heap ∧ st.heap.size ≤ t.heap.size ∧ ∀ q : Nat, q < st.heap.size → t.heap[q]? = st.heap[q]?
section XC
variable {p : Program} {l : Launch} {e : Env} {R : Room} {s : State} {m : MethodId} {args : Array Value} {below : List Frame} {meth : Method} {c : Code} {H : Heap} {locs : List Loc} {cells slots : Nat} {Q : State → Prop}
variable {pc : Nat} {ls : Array Slot} {rest st0 : List Value} {a : Array Value}
theorem x_pure {v : Option Value} (hr : XRun p l e R s m args below meth c H locs cells slots 0 0 (F0 m pc ls st0) rest (PQ v a) (fun _ => False))
    (kk : W p l e R s m args below meth c H locs cells slots Q (F0 m (pc + 3) ls (v.toList ++ rest))) : W p l e R s m args below meth c H locs cells slots Q (F0 m pc ls st0) := by
  intro T hT X
  obtain ⟨o, st₀, t, T', L, h0, X', hL, e1, e2, ⟨ho, hh⟩, hst⟩ := hr T hT X
  rcases hst with ⟨v', hv, hst⟩ | ⟨x, hx, -⟩
  · rw [ho] at hv
    cases hv
    obtain ⟨t2, a1, b1⟩ := kk T' (by rw [e1, hh, h0]) (Stand.forget X' (fun q h => (hL q h).elim))
    exact ⟨t2, hst t2 a1, b1⟩
  · rw [ho] at hx
    cases hx
/-- a call that throws, in a method without a handler there that has changed nothing: it throws on -/
theorem x_thrown {Xn : String} (hr : XRun p l e R s m args below meth c s.heap [] 0 0 1 6 (F0 m pc ls st0) rest (TQ Xn a) (fun _ => False)) (hout : c.exceptionTable.toList = []) (hlocks : meth.locks = false) :
    W p l e R s m args below meth c s.heap [] 0 0 (MQX below (TQ Xn) args s 1 6 (fun _ => False)) (F0 m pc ls st0) := by
  intro T hT X
  obtain ⟨o, st₀, t, T', L, h0, X', hL, e1, e2, ⟨x, ho, hO, hsz, hk⟩, hst⟩ := hr T hT X
  rcases hst with ⟨v', hv, -⟩ | ⟨x', hx, hst⟩
  · rw [ho] at hv; cases hv
  · rw [ho] at hx
    cases hx
    have X2 : Stand p l e R s m args below meth c T' [] (0 + 1) (0 + 6) := Stand.forget X' (fun q h => (hL q h).elim)
    obtain ⟨h1, h2, h3, h4, h5⟩ := X2.leaveThrown x (g := F0 m pc ls rest) rfl rfl rfl (by rw [hout]; intro z hz; cases hz) hlocks
    refine ⟨_, hst _ h1, .threw x, h2, h3, ⟨x, rfl, ?_, ?_, ?_⟩, [], ⟨h4, h5⟩, fun q hq => by cases hq⟩
    · obtain ⟨cell, g1, g2, g3⟩ := hO
      exact ⟨cell, by show T'.heap[x]? = _; rw [e1]; exact g1, g2, by show T'.vm.findClass Xn = _; rw [e2]; exact g3⟩
    · show s.heap.size ≤ T'.heap.size
      rw [e1, ← h0]; exact hsz
    · intro q hq
      show T'.heap[q]? = _
      rw [e1, hk q (by rw [h0]; exact hq), h0]
end XC
section XN
variable {p : Program} {l : Launch} {e : Env} {R : Room} {s : State} {m : MethodId} {args : Array Value} {below : List Frame} {meth : Method} {c : Code} {H : Heap} {locs : List Loc} {cells slots : Nat} {Q : State → Prop}
variable {pc nL : Nat} {ls : Array Slot} {rest st0 : List Value} {a : Array Value} {cc : ByteArray}
/-- new X; dup; ldc; X.<init>(String); athrow: in a method without handlers that has changed nothing -/
theorem x_throw (hx : p.tables.exec = Jvm.exec) (hb : c.code = cc) (htr : l.stackTraces = false) {own Xn tx : String} {names : List String} {ia ib ic qs : Nat} (hown : s.vm.findClass own = some m.cls) (hcls : Bundle.fit Xn = true) (hnames : ∀ n ∈ names, Bundle.fit n = true)
    (hat : ∀ w ∈ Bundle.ownAtoms own ic Xn names, w.before args s = true) (hcl : (Cond.classLink own ia Xn).before args s = true) (hini : (Cond.initialized Xn).before args s = true) (hZ : vk_R own ib tx qs s)
    (hout : c.exceptionTable.toList = []) (hml : c.maxLocals = nL) (hls : ls.size = nL) (hlocks : meth.locks = false)
    (d0 : decode cc pc = .ok (.new ia, 3)) (d3 : decode cc (pc + 3) = .ok (.dup, 1)) (d4 : decode cc (pc + 4) = .ok (.ldc ib, 2)) (d6 : decode cc (pc + 6) = .ok (.invokespecial ic, 3)) (d9 : decode cc (pc + 9) = .ok (.athrow, 1))
    (hRc : 1 ≤ R.cells) (hRs : 6 ≤ R.slots) (hRf : names.length + 3 < R.frames) (hRl : 1 + (13 * (names.length + 1) + 42) ≤ R.locals) :
    W p l e R s m args below meth c s.heap [] 0 0 (MQX below (TQ Xn) args s 1 6 (fun _ => False)) (F0 m pc ls []) := by
  refine W.newc hx hb (own := own) (C := Xn) (index := ia) (n := 6) hown hcl (hat (.instantiable Xn 6) (by simp [Bundle.ownAtoms])) hini (g := F0 m pc ls []) rfl d0 (by omega) (by omega) (fun cX kX hfX hkX hord h6 => ?_)
  refine lv_dup (pc := pc + 3) hx hb d3 rfl ?_
  refine va_ldcS (pc := pc + 4) hx hb hown hZ d4 ?_
  intro T hT XS
  have hcell : T.heap[s.heap.size]? = some (freshCell cX kX) := by rw [hT]; simp
  obtain ⟨U, hsteps, hrun, hend, hW, hsame, ce, hce, K⟩ := XS.ctorThrowS hx (by rw [XS.admits.platform]; exact htr) (own := own) (cls := Xn) (names := names) (ic := ic) hown hcls hnames hat (fun y hy => by cases hy) hfX hkX (a := s.heap.size) hcell (Nat.le_refl _) (msg := .ref qs) rfl
    (g := F0 m (pc + 6) ls [.ref qs, .ref s.heap.size, .ref s.heap.size]) rfl (by rw [hml]; exact hls) rfl rfl (rest := []) rfl (by rw [hb]; exact d6) (by rw [hb]; exact d9) (by rw [hout]; intro z hz; cases hz) hRf (by simpa [Value.category] using hRl) hlocks
  refine ⟨U, hsteps, .threw s.heap.size, hrun, hend, ⟨s.heap.size, rfl, ⟨ce, hce, by rw [K.vm]; rfl, ?_⟩, hsame.2.1, fun q hq => ?_⟩, [], ⟨hW, ?_⟩, fun q hq => by cases hq⟩
  · rw [hW.alike.findClass]; exact K.cls
  · exact (State.sameButNew.old_cell hsame (Array.getElem?_eq_getElem hq)).trans (Array.getElem?_eq_getElem hq).symm
  · exact hsame
/-! the search for a handler, its rows' types resolved or not -/
theorem x_go_cold {E : CtlPost} {d : Bool} {acts : List Action} {U : State} {f : JFrame} {x : Addr} {Qh : Handler → Pre} {z : ExceptionTableEntry} {zs : List ExceptionTableEntry} {cz : ClassId} {cell : Cell} {vm' : Vm} (hz : covers z f.pc = true) (h0 : z.catchType ≠ 0)
    (hg : (Jvm.resolveClass f.method.cls z.catchType).Gives e.toSetting U.vm (.ok cz) vm') (hsz : vm'.classes.size ≤ U.vm.classes.size) (hcell : U.heap[x]? = some cell) (hobj : ∀ k, cell.vm ≠ .statics k)
    (hk : ∃ k, vm'.classes[cell.cls]? = some k) (hc : ∃ k, vm'.classes[cz]? = some k) :
    wp (findHandler.go f x (z :: zs)) Qh E e d acts U ↔ if vm'.assignable cell.cls cz = true then Qh (.found z.handlerPc) d acts (U.setVm vm') else wp (findHandler.go f x zs) Qh E e d acts (U.setVm vm') := by
  simp only [covers] at hz
  obtain ⟨ha, ht⟩ := hg.op (op := VmOp.resolveClass f.method.cls z.catchType) rfl
  cases hfit : vm'.assignable cell.cls cz <;>
    simp [findHandler.go, hz, h0, ha, ht, hsz, hcell, hobj, hk, hc, hfit, VmOp.dirties, VmOp.acts]
/-- the entries, each with the class that it names: those before the last are passed, the last one takes it -/
def xCat (s : State) (args : Array Value) (own Xn : String) (pc hpc : Nat) : List (Nat × Nat × Nat × Nat) → List String → Prop
  | z :: zs, n :: ns => z.1 ≤ pc ∧ pc < z.2.1 ∧ z.2.2.2 ≠ 0 ∧ (Cond.classLink own z.2.2.2 n).before args s = true ∧ (((Cond.castable Xn n).before args s = true ∧ z.2.2.1 = hpc) ∨ (va_Nc Xn n s ∧ xCat s args own Xn pc hpc zs ns))
  | _, _ => False
theorem x_find {own Xn : String} {f : JFrame} {x : Addr} {hpc : Nat} (hpl : e.platform.magicAccessors = ({} : Platform).magicAccessors) (hown : s.vm.findClass own = some f.method.cls) :
    ∀ (zs : List (Nat × Nat × Nat × Nat)) (ns : List String) (U : State), s.WarmedH U.vm → xO Xn x s U.heap → xCat s args own Xn f.pc hpc zs ns →
      ∃ vm', s.WarmedH vm' ∧ ∀ (Qh : Handler → Pre) (E : CtlPost) (d : Bool) (acts : List Action), wp (findHandler.go f x (tableOf zs)) Qh E e d acts U ↔ Qh (.found hpc) d acts (U.setVm vm') := by
  intro zs
  induction zs with
  | nil => intro ns U _ _ h; cases ns <;> exact h.elim
  | cons z zs ih =>
    intro ns U hW hO h
    cases ns with
    | nil => exact h.elim
    | cons n ns =>
      obtain ⟨h1, h2, h3, h4, h5⟩ := h
      obtain ⟨cell, g1, g2, g3⟩ := hO
      obtain ⟨cT, hcT, hcl⟩ := Cond.classLink_spec hown h4 e.platform hpl
      obtain ⟨dk, _, _, kt, hd, _, _, _, _, hkt, _, hres⟩ := hcl.here
      have hcl₀ := hW.classLinks hcl
      have hW' : s.WarmedH (U.vm.noted f.method.cls z.2.2.2 (.cls cT)) := hW.noted hd hres (State.rightAt_cls hcl)
      obtain ⟨ks, hks, -⟩ := Vm.findClass_spec g3
      obtain ⟨ks', hks', -⟩ := hW'.alike.2.2 _ _ hks
      obtain ⟨kt', hkt', -⟩ := hW'.alike.2.2 _ _ hkt
      have hgo : ∀ (Qh : Handler → Pre) (E : CtlPost) (d : Bool) (acts : List Action), _ := fun Qh E d acts =>
        x_go_cold (e := e) (E := E) (d := d) (acts := acts) (U := U) (f := f) (x := x) (Qh := Qh) (z := ⟨z.1, z.2.1, z.2.2.1, z.2.2.2⟩) (zs := tableOf zs) (cz := cT) (cell := cell) (by simp [covers, h1, h2]) h3
          (resolveClass_links e.toSetting hcl₀) (by no_record) g1 (VmData.noStatics_of g2) ⟨ks', hks'⟩ ⟨kt', hkt'⟩
      rcases h5 with ⟨h5, h6⟩ | ⟨h5, h6⟩
      · obtain ⟨c1, c2, f1, f2, f3⟩ := Cond.castable_spec h5
        cases f1.symm.trans g3
        cases f2.symm.trans hcT
        refine ⟨_, hW', fun Qh E d acts => (hgo Qh E d acts).trans ?_⟩
        rw [if_pos (by rw [hW'.alike.assignable]; exact f3)]
        show Qh (.found z.2.2.1) d acts _ ↔ _
        rw [h6]
      · obtain ⟨c1, c2, f1, f2, f3⟩ := h5
        cases f1.symm.trans g3
        cases f2.symm.trans hcT
        obtain ⟨vm', hW2, hfin⟩ := ih ns (U.setVm (U.vm.noted f.method.cls z.2.2.2 (.cls cT))) hW' ⟨cell, g1, g2, g3⟩ h6
        refine ⟨vm', hW2, fun Qh E d acts => (hgo Qh E d acts).trans ?_⟩
        rw [if_neg (by rw [hW'.alike.assignable, f3]; decide)]
        exact hfin Qh E d acts
theorem x_stepCatch {U U' : State} {x : Addr} {f : JFrame} {r : List Frame} {hpc : Nat} (hfind : ∀ (Qh : Handler → Pre) (E : CtlPost) (d : Bool) (acts : List Action), wp (findHandler f x) Qh E e d acts U ↔ Qh (.found hpc) d acts U') :
    (stepThrowing e U x (.java f :: r)).Is (U'.setFrames (.java { f with pc := hpc, stack := [.ref x] } :: r)) [] := by
  simp only [stepThrowing, searchFrame, vmDo]
  generalize hr : Sem.go _ e false [] U = res
  obtain ⟨as, rfl, ha⟩ := Sem.eq_ok_of hr (a := Handler.found hpc) (s' := U') (acts' := []) (by simp [hfind _ _ _ _])
  exact ⟨rfl, ha⟩
theorem x_stepsCatch {tb : Tables} {T target : State} {x : Addr} {g : JFrame} {hpc : Nat} {vm' : Vm} (h : At T g.method c below) (hfind : ∀ (Qh : Handler → Pre) (E : CtlPost) (d : Bool) (acts : List Action), wp (findHandler g x) Qh E e d acts ((T.setTop g).pushFrame (.throwing x)) ↔ Qh (.found hpc) d acts (((T.setTop g).pushFrame (.throwing x)).setVm vm'))
    (hrest : Steps tb e below ((T.setVm vm').setTop { g with pc := hpc, stack := [.ref x] }) target) : Steps tb e below ((T.setTop g).pushFrame (.throwing x)) target := by
  obtain ⟨hgo, hw⟩ := h.throwing x
  refine Steps.head hgo hw ?_
  rw [stepThread_throwing (frames_entered h.top _), (x_stepCatch (U := (T.setTop g).pushFrame (.throwing x)) hfind).1]
  obtain ⟨g₀, hg⟩ := Option.isSome_iff_exists.mp h.top
  obtain ⟨r, hr⟩ := State.topJava?_eq_some.mp hg
  have hr' : (T.setVm vm').frames = .java g₀ :: r := hr
  rw [State.setTop_of_frames _ hr'] at hrest
  have e1 : (((T.setTop g).pushFrame (.throwing x)).setVm vm').setFrames (.java { g with pc := hpc, stack := [.ref x] } :: T.frames.tail) = (T.setVm vm').setFrames (.java { g with pc := hpc, stack := [.ref x] } :: r) := by
    rw [hr]
    show (((T.setTop g).pushFrame (.throwing x)).setFrames _).setVm vm' = (T.setFrames _).setVm vm'
    rw [State.pushFrame, State.setFrames_setFrames, State.setTop_of_frames _ hr, State.setFrames_setFrames]
    rfl
  rw [e1]
  exact hrest
/-- a call that throws, where a handler takes it -/
theorem x_caught {Xn own : String} {hs : List (Nat × Nat × Nat × Nat)} {ns : List String} {hpc : Nat} (hr : XRun p l e R s m args below meth c H locs cells slots 1 6 (F0 m pc ls st0) rest (TQ Xn a) (fun _ => False)) (hown : s.vm.findClass own = some m.cls) (htab : c.exceptionTable.toList = tableOf hs)
    (hcat : xCat s args own Xn pc hpc hs ns)
    (kk : ∀ (x : Addr) (H1 : Heap), H.size ≤ H1.size → (∀ q : Nat, q < H.size → H1[q]? = H[q]?) → W p l e R s m args below meth c H1 locs (cells + 1) (slots + 6) Q (F0 m hpc ls [.ref x])) : W p l e R s m args below meth c H locs cells slots Q (F0 m pc ls st0) := by
  intro T hT X
  obtain ⟨o, st₀, t, T', L, h0, X', hL, e1, e2, ⟨x, ho, hO, hsz, hk⟩, hst⟩ := hr T hT X
  rcases hst with ⟨v', hv, -⟩ | ⟨x', hx, hst⟩
  · rw [ho] at hv; cases hv
  · rw [ho] at hx
    cases hx
    have X2 : Stand p l e R s m args below meth c T' locs (cells + 1) (slots + 6) := Stand.forget X' (fun q h => (hL q h).elim)
    have hpl : e.platform.magicAccessors = ({} : Platform).magicAccessors := by rw [X2.admits.platform]
    obtain ⟨cell, g1, g2, g3⟩ := hO
    have hO' : xO Xn x s ((T'.setTop (F0 m pc ls rest)).pushFrame (.throwing x)).heap := by
      rw [Stand.throwing_heap]
      exact ⟨cell, by rw [e1]; exact g1, g2, by rw [← X2.warmed.alike.findClass, e2]; exact g3⟩
    obtain ⟨vm', hW', hfin⟩ := x_find (e := e) (f := F0 m pc ls rest) hpl hown hs ns ((T'.setTop (F0 m pc ls rest)).pushFrame (.throwing x)) (by rw [Stand.throwing_vm]; exact X2.warmed) hO' hcat
    obtain ⟨t2, a1, b1⟩ := kk x T'.heap (by rw [e1, ← h0]; exact hsz) (fun q hq => by rw [e1, hk q (by rw [h0]; exact hq), h0]) (T'.setVm vm') rfl (X2.noted hW')
    refine ⟨t2, hst t2 (x_stepsCatch X2.here (fun Qh E d acts => ?_) a1), b1⟩
    rw [Jvm.W.findHandler_eq (meth := meth) (code := c) (by rw [Stand.throwing_vm]; exact X2.method') X2.code, htab]
    exact hfin Qh E d acts
end XN
end
section
/-! Worlds by one address function: the cells of an object lie at ad 0, ad 1, .. -/
def aC (N : Nat) (ad : Nat → Nat) (sz : Nat) : Nat → Prop := fun q => (∃ k, k < N ∧ q = ad k) ∨ sz ≤ q
def aInj (N : Nat) (ad : Nat → Nat) : Prop := ∀ i j, i < N → j < N → ad i = ad j → i = j
theorem aC_le {N : Nat} {ad : Nat → Nat} {a b : Nat} (h : a ≤ b) : ∀ q, aC N ad b q → aC N ad a q := fun q hq => by
  rcases hq with hq | hq
  · exact Or.inl hq
  · exact Or.inr (Nat.le_trans h hq)
theorem w_at {N : Nat} {ad : Nat → Nat} {ws : va_W} (h : ws.map (·.1) = (List.range N).map ad) {k : Nat} {q : Nat × va_E} (hk : ws[k]? = some q) : k < N ∧ q.1 = ad k := by
  have h1 : (ws.map (·.1))[k]? = some q.1 := by rw [List.getElem?_map, hk]; rfl
  rw [h, List.getElem?_map] at h1
  by_cases hN : k < N
  · rw [List.getElem?_range hN] at h1
    exact ⟨hN, (Option.some.inj h1).symm⟩
  · rw [List.getElem?_eq_none (by simp; omega)] at h1
    cases h1
theorem w_D {N : Nat} {ad : Nat → Nat} {ws : va_W} (hi : aInj N ad) (h : ws.map (·.1) = (List.range N).map ad) (sz : Nat) : va_D (aC N ad sz) ws :=
  ⟨fun i j p q hp hq e => hi i j (w_at h hp).1 (w_at h hq).1 (by rw [← (w_at h hp).2, ← (w_at h hq).2]; exact e), fun k q hq => Or.inl ⟨k, (w_at h hq).1, (w_at h hq).2⟩⟩
/-- an end that changes the world: this answer, the new world, nothing else -/
def UQ (v : Option Value) (B : State → Prop) (A : Nat → Prop) : Array Value → State → Outcome → State → Prop := fun _ st o t => o = .returned v ∧ B t ∧ va_F A st t
section XU
variable {p : Program} {l : Launch} {e : Env} {R : Room} {s : State} {m : MethodId} {args : Array Value} {below : List Frame} {meth : Method} {c : Code} {H : Heap} {locs : List Loc} {cells slots : Nat} {Q : State → Prop}
variable {pc : Nat} {ls : Array Slot} {rest st0 : List Value} {a : Array Value}
theorem x_upd {v : Option Value} {B : State → Prop} {A0 A1 free : Nat → Prop} {H0 : Heap} {mc ms : Nat} (hr : XRun p l e R s m args below meth c H locs cells slots mc ms (F0 m pc ls st0) rest (UQ v B A1 a) free) (hS : va_S A0 H0 H locs) (hA : ∀ q, q < H.size → A1 q → A0 q) (hf : ∀ q, free q → A0 q)
    (kk : ∀ (t : State) (H1 : Heap) (locs1 : List Loc), t.heap = H1 → s.WarmedH t.vm → B t → H.size ≤ H1.size → (∀ q : Nat, q < H.size → ¬ A1 q → H1[q]? = H[q]?) → va_S A0 H0 H1 locs1 → W p l e R s m args below meth c H1 locs1 (cells + mc) (slots + ms) Q (F0 m (pc + 3) ls (v.toList ++ rest))) : W p l e R s m args below meth c H locs cells slots Q (F0 m pc ls st0) := by
  intro T hT X
  obtain ⟨o, st₀, t, T', L, h0, X', hL, e1, e2, ⟨ho, hB, hz, hk⟩, hst⟩ := hr T hT X
  rcases hst with ⟨v', hv, hst⟩ | ⟨x, hx, -⟩
  · rw [ho] at hv
    cases hv
    rw [h0] at hz hk
    obtain ⟨t2, a1, b1⟩ := kk t T'.heap (locs ++ L) e1.symm (by rw [← e2]; exact X'.warmed) hB (by rw [e1]; exact hz) (fun q h1 h2 => by rw [e1]; exact hk q h1 h2)
      ⟨Nat.le_trans hS.1 (by rw [e1]; exact hz), fun q h1 h2 => by rw [e1, hk q (Nat.lt_of_lt_of_le h1 hS.1) (fun z => h2 (hA q (Nat.lt_of_lt_of_le h1 hS.1) z))]; exact hS.2.1 q h1 h2, fun q hq => by
        rcases List.mem_append.mp hq with h | h
        · exact hS.2.2 q h
        · exact hf _ (hL q h)⟩ T' rfl X'
    exact ⟨t2, hst t2 a1, b1⟩
  · rw [ho] at hx
    cases hx
/-- a static callee with handlers -/
theorem x_runSW {y : MethodName} {bytes cc : ByteArray} {maxL nL mc ms n index : Nat} {ret : Option FieldType} {hs : List (Nat × Nat × Nat × Nat)} {ws : List Cond} {rm : Room} {Pc : Array Value → State → Prop} {Qc : Array Value → State → Outcome → State → Prop} {free : Addr → Prop} {Ts : List Cond} {own : String} {As : List Value} {g : JFrame}
    (S : CallFix p m c cc nL s args Ts own) (hM : MX l y ws rm Pc Qc mc ms free) (hG : GoodIn Ts ws) (hcw : Cond.codeWith y bytes maxL ret hs ∈ ws) (hrc : rm.cells = mc) (hrs : rm.slots = ms) (hR : rm.frames + 1 ≤ R.frames ∧ 8 + (maxL + 11) + rm.locals ≤ R.locals)
    (hini : (Cond.initialized y.cls).before args s = true) (hl : (Cond.methodLink own index y).before args s = true) (hstat : (Cond.static y).before args s = true) (hd : y.cls ≠ "java/lang/invoke/MethodHandle" ∧ y.cls ≠ "java/lang/invoke/VarHandle" ∧ (parseMethodDescriptor y.desc).map (fun d => d.parameters.length) = some n) (hp : PreS s H Pc As)
    (hg : g.method = m) (hn : As.length = n) (hsize : g.locals.size = nL) (hstack : g.stack = As.reverse ++ rest) (hW : 2 * g.monitorRoom + (rest.map fun v => v.category).sum ≤ 8) (hdg : decode cc g.pc = .ok (.invokestatic index, 3)) (hf : cells + mc ≤ R.cells ∧ slots + ms ≤ R.slots) :
    XRun p l e R s m args below meth c H locs cells slots mc ms g rest (Qc As.toArray) free := by
  obtain ⟨hx, hb, hml, ho, ht⟩ := S
  obtain ⟨hbl, hPc⟩ := hp
  have hws := pay_in ht hG
  intro T hT X
  obtain ⟨mk, methM, cM, hnamed, hmethM, hcM, -, hlM, -, -, -, hsigM⟩ := Cond.codeWith_spec (ht _ (hG _ hcw).1)
  have hstatic : methM.isStatic = true := Cond.static_spec hnamed hmethM hstat
  obtain ⟨kP, hkP, -⟩ := className_of_methodNamed hnamed
  have hinitP : kP.init = .initialized := Cond.initialized_spec (findClass_of_methodNamed hnamed) hkP hini
  have hlen : As.length = methM.sig.parameters.length := by
    have h2 := hd.2.2
    rw [hsigM] at h2
    exact hn.trans (Option.some.inj h2).symm
  obtain ⟨vm₁, X₁, hstep₁⟩ := X.invokestatic hx ho hl hnamed hmethM hstatic hkP hinitP ⟨hd.1, hd.2.1⟩ (g := g) hg (argsL := As) (rest := rest) hlen hstack (by rw [hb]; exact hdg)
  have hmk₁ : (T.setVm vm₁).vm.method? mk = some methM := by rw [X₁.warmed.alike.method?]; exact hmethM
  obtain ⟨o, t, T', L, X', hL, e1, e2, hq, hst⟩ := xback (a := As.toArray) X₁ hM hbl hrc hrs hR.1 (g := { g with stack := rest }) hg (hsize.trans hml.symm) (by rw [hb]; exact hdg) (by show 2 * g.monitorRoom + (rest.map _).sum + _ + _ ≤ _; have := hR.2; omega) hf.1 hf.2 (X₁.named hnamed)
    (fun w hw => hws w hw _ _ X₁.warmed) (word_at X₁.warmed (Or.inl (by first | rfl | simp [Cond.onTables, Cond.keeps, Cond.steady])) hini) hmk₁ hcM hlM (hPc (T.setVm vm₁) hT X₁.warmed)
  refine ⟨o, (T.setVm vm₁).calling { g with stack := rest } mk As.toArray, t, T', L, hT, X', hL, e1, e2, hq, ?_⟩
  rcases hst with ⟨v, rfl, hst⟩ | ⟨x, rfl, hst⟩
  · exact Or.inl ⟨v, rfl, fun tg h => hstep₁ _ fun acts => by rw [doInvoke_state]; exact hst.trans h⟩
  · exact Or.inr ⟨x, rfl, fun tg h => hstep₁ _ fun acts => by rw [doInvoke_state]; exact hst.trans h⟩
end XU
end
section
/-! Least ways, in numbers alone. E i u v: over i one goes from u into v, at cost w i; wy_k: a walk of k steps from a source, of cost c; wy_d: the least cost. -/
def wy_k (E : Nat → Nat → Nat → Prop) (w : Nat → Nat) (src : Nat → Prop) : Nat → Nat → Nat → Prop
  | 0, v, c => src v ∧ c = 0
  | k + 1, v, c => ∃ u i c', wy_k E w src k u c' ∧ E i u v ∧ c = c' + w i
def wy_d (E : Nat → Nat → Nat → Prop) (w : Nat → Nat) (src : Nat → Prop) (v c : Nat) : Prop := (∃ k, wy_k E w src k v c) ∧ ∀ k c', wy_k E w src k v c' → c ≤ c'
noncomputable def wy_cnt (P : Nat → Prop) : Nat → Nat
  | 0 => 0
  | n + 1 => wy_cnt P n + @ite _ (P n) (Classical.propDecidable _) 1 0
theorem wy_cnt_mono {P Q : Nat → Prop} : ∀ n, (∀ u, u < n → P u → Q u) → wy_cnt P n ≤ wy_cnt Q n := by
  intro n
  induction n with
  | zero => intro _; exact Nat.le_refl _
  | succ n ih =>
    intro h
    have h1 := ih (fun u hu => h u (by omega))
    have h2 := h n (by omega)
    simp only [wy_cnt]
    by_cases hp : P n
    · rw [if_pos hp, if_pos (h2 hp)]; omega
    · rw [if_neg hp]; omega
theorem wy_cnt_lt {P Q : Nat → Prop} : ∀ n, (∀ u, u < n → P u → Q u) → (∃ u, u < n ∧ Q u ∧ ¬ P u) → wy_cnt P n < wy_cnt Q n := by
  intro n
  induction n with
  | zero => intro _ h; obtain ⟨u, hu, -⟩ := h; omega
  | succ n ih =>
    intro h hx
    obtain ⟨u, hu, hq, hp⟩ := hx
    have h2 := h n (by omega)
    have h3 := wy_cnt_mono n (fun u hu => h u (by omega))
    simp only [wy_cnt]
    by_cases hun : u = n
    · subst hun
      rw [if_neg hp, if_pos hq]; omega
    · have h1 := ih (fun u hu => h u (by omega)) ⟨u, by omega, hq, hp⟩
      by_cases hpn : P n
      · rw [if_pos hpn, if_pos (h2 hpn)]; omega
      · rw [if_neg hpn]; omega
theorem wy_cnt_le {P : Nat → Prop} : ∀ n, wy_cnt P n ≤ n := by
  intro n
  induction n with
  | zero => exact Nat.le_refl _
  | succ n ih =>
    simp only [wy_cnt]
    by_cases hp : P n
    · rw [if_pos hp]; omega
    · rw [if_neg hp]; omega
theorem wy_cnt_ltn {P : Nat → Prop} : ∀ n, (∃ u, u < n ∧ ¬ P u) → wy_cnt P n < n := by
  intro n
  induction n with
  | zero => intro h; obtain ⟨u, hu, -⟩ := h; omega
  | succ n ih =>
    intro h
    obtain ⟨u, hu, hp⟩ := h
    have h1 := wy_cnt_le (P := P) n
    simp only [wy_cnt]
    by_cases hun : u = n
    · subst hun
      rw [if_neg hp]; omega
    · have h2 := ih ⟨u, by omega, hp⟩
      by_cases hpn : P n
      · rw [if_pos hpn]; omega
      · rw [if_neg hpn]; omega
section WY
variable {E : Nat → Nat → Nat → Prop} {w : Nat → Nat} {src : Nat → Prop}
theorem wy_least {v : Nat} (h : ∃ k c, wy_k E w src k v c) : ∃ c, wy_d E w src v c := by
  obtain ⟨k, c, h⟩ := h
  obtain ⟨c0, ⟨k0, h0⟩, hm⟩ := pk_least (fun c => ∃ k, wy_k E w src k v c) ⟨c, k, h⟩
  refine ⟨c0, ⟨k0, h0⟩, fun k' c' h' => ?_⟩
  rcases Nat.lt_or_ge c' c0 with q | q
  · exact absurd ⟨k', h'⟩ (hm c' q)
  · exact q
theorem wy_d_uniq {v c c' : Nat} (h : wy_d E w src v c) (h' : wy_d E w src v c') : c = c' := by
  obtain ⟨⟨k, h1⟩, h2⟩ := h
  obtain ⟨⟨k', h1'⟩, h2'⟩ := h'
  exact Nat.le_antisymm (h2 _ _ h1') (h2' _ _ h1)
theorem wy_pre {v c : Nat} (h : wy_d E w src v c) : (src v ∧ c = 0) ∨ ∃ u i c', wy_d E w src u c' ∧ E i u v ∧ c = c' + w i := by
  obtain ⟨⟨k, h1⟩, h2⟩ := h
  cases k with
  | zero => exact Or.inl h1
  | succ k =>
    obtain ⟨u, i, c', h3, h4, h5⟩ := h1
    refine Or.inr ⟨u, i, c', ⟨⟨k, h3⟩, fun k' c'' h6 => ?_⟩, h4, h5⟩
    have := h2 (k' + 1) (c'' + w i) ⟨u, i, c'', h6, h4, rfl⟩
    omega
theorem wy_src {v : Nat} (h : src v) : wy_d E w src v 0 := ⟨⟨0, h, rfl⟩, fun _ _ _ => Nat.zero_le _⟩
theorem wy_d_le {v u i c c' : Nat} (h : wy_d E w src v c) (h' : wy_d E w src u c') (hE : E i u v) : c ≤ c' + w i := by
  obtain ⟨⟨k', h1'⟩, h2'⟩ := h'
  exact h.2 (k' + 1) _ ⟨u, i, c', h1', hE, rfl⟩
theorem wy_ex {v u i c' : Nat} (h' : wy_d E w src u c') (hE : E i u v) : ∃ c, wy_d E w src v c := by
  obtain ⟨⟨k', h1'⟩, h2'⟩ := h'
  exact wy_least ⟨k' + 1, _, u, i, c', h1', hE, rfl⟩
/-- how many of the first n are nearer than c -/
noncomputable def wy_r (E : Nat → Nat → Nat → Prop) (w : Nat → Nat) (src : Nat → Prop) (n c : Nat) : Nat := wy_cnt (fun u => ∃ c', wy_d E w src u c' ∧ c' < c) n
theorem wy_r_lt {n u c c' : Nat} (hu : u < n) (h : wy_d E w src u c') (hc : c' < c) : wy_r E w src n c' < wy_r E w src n c := by
  refine wy_cnt_lt n (fun x _ hx => ?_) ⟨u, hu, ⟨c', h, hc⟩, fun hx => ?_⟩
  · obtain ⟨y, h1, h2⟩ := hx
    exact ⟨y, h1, by omega⟩
  · obtain ⟨y, h1, h2⟩ := hx
    have := wy_d_uniq h h1
    omega
theorem wy_r_top {n v c : Nat} (hv : v < n) (h : wy_d E w src v c) : wy_r E w src n c < n := by
  refine wy_cnt_ltn n ⟨v, hv, fun hx => ?_⟩
  obtain ⟨y, h1, h2⟩ := hx
  have := wy_d_uniq h h1
  omega
/-- the least cost is at most so many steps -/
theorem wy_bound {n M : Nat} (hE : ∀ i u v, E i u v → u < n ∧ 0 < w i ∧ w i ≤ M) : ∀ (t v c : Nat), wy_d E w src v c → wy_r E w src n c ≤ t → c ≤ t * M := by
  intro t
  induction t with
  | zero =>
    intro v c h ht
    rcases wy_pre h with ⟨-, h0⟩ | ⟨u, i, c', h1, h2, h3⟩
    · omega
    · have h4 := hE i u v h2
      have h5 := wy_r_lt h4.1 h1 (show c' < c by omega)
      omega
  | succ t ih =>
    intro v c h ht
    rcases wy_pre h with ⟨-, h0⟩ | ⟨u, i, c', h1, h2, h3⟩
    · omega
    · have h4 := hE i u v h2
      have h5 := wy_r_lt h4.1 h1 (show c' < c by omega)
      have h6 := ih u c' h1 (by omega)
      rw [Nat.add_mul]
      omega
/-- one round over all steps: from f to g -/
def wy_P (E : Nat → Nat → Nat → Prop) (w : Nat → Nat) (inf : Nat) (f g : Nat → Nat) : Prop := (∀ v, g v ≤ f v) ∧ ∀ i u v, E i u v → f u < inf → g v ≤ f u + w i
/-- what holds before and behind each round: what is reached is reached by a walk of that cost; a source costs nothing -/
def wy_I (E : Nat → Nat → Nat → Prop) (w : Nat → Nat) (src : Nat → Prop) (inf : Nat) (f : Nat → Nat) : Prop := (∀ v, f v ≤ inf) ∧ (∀ v, f v < inf → ∃ k, wy_k E w src k v (f v)) ∧ ∀ v, src v → f v = 0
theorem wy_low {inf v c : Nat} {f : Nat → Nat} (hI : wy_I E w src inf f) (h : wy_d E w src v c) (hc : c ≤ inf) : c ≤ f v := by
  rcases Nat.lt_or_ge (f v) inf with q | q
  · obtain ⟨k, hk⟩ := hI.2.1 v q
    exact h.2 k _ hk
  · omega
/-- t rounds settle all of rank t -/
theorem wy_settle {n M inf : Nat} (hE : ∀ i u v, E i u v → u < n ∧ 0 < w i ∧ w i ≤ M) (hinf : n * M < inf) (F : Nat → Nat → Nat) (hI : ∀ t, wy_I E w src inf (F t)) (hP : ∀ t, wy_P E w inf (F t) (F (t + 1))) :
    ∀ (t v c : Nat), v < n → wy_d E w src v c → wy_r E w src n c ≤ t → F t v = c := by
  intro t
  induction t with
  | zero =>
    intro v c hv h ht
    rcases wy_pre h with ⟨hs, h0⟩ | ⟨u, i, c', h1, h2, h3⟩
    · rw [h0]; exact (hI 0).2.2 v hs
    · have h4 := hE i u v h2
      have h5 := wy_r_lt h4.1 h1 (show c' < c by omega)
      omega
  | succ t ih =>
    intro v c hv h ht
    have hb : c < inf := by
      have h7 := wy_bound hE n v c h (Nat.le_of_lt (wy_r_top hv h))
      omega
    have hlow := wy_low (hI (t + 1)) h (Nat.le_of_lt hb)
    rcases wy_pre h with ⟨hs, h0⟩ | ⟨u, i, c', h1, h2, h3⟩
    · rw [h0]; exact (hI _).2.2 v hs
    · have h4 := hE i u v h2
      have h5 := wy_r_lt h4.1 h1 (show c' < c by omega)
      have h6 := ih u c' h4.1 h1 (by omega)
      have h7 := (hP t).2 i u v h2 (by rw [h6]; omega)
      rw [h6] at h7
      omega
/-- a round that changes nothing has settled all -/
theorem wy_fix {n M inf : Nat} (hE : ∀ i u v, E i u v → u < n ∧ 0 < w i ∧ w i ≤ M) (hinf : n * M < inf) {f : Nat → Nat} (hI : wy_I E w src inf f) (hP : wy_P E w inf f f) {v c : Nat} (hv : v < n) (h : wy_d E w src v c) : f v = c :=
  wy_settle hE hinf (fun _ => f) (fun _ => hI) (fun _ => hP) (wy_r E w src n c) v c hv h (Nat.le_refl _)
/-- and what has no walk is not reached -/
theorem wy_none {inf v : Nat} {f : Nat → Nat} (hI : wy_I E w src inf f) (h : ∀ k c, ¬ wy_k E w src k v c) : f v = inf := by
  rcases Nat.lt_or_ge (f v) inf with q | q
  · obtain ⟨k, hk⟩ := hI.2.1 v q
    exact absurd hk (h k _)
  · exact Nat.le_antisymm (hI.1 v) q
/-- one step lowers: what it keeps -/
theorem wy_step {inf i u v : Nat} {f : Nat → Nat} (hI : wy_I E w src inf f) (hE : E i u v) (hu : f u < inf) (hlt : f u + w i < f v) : wy_I E w src inf (fun x => if x = v then f u + w i else f x) := by
  obtain ⟨h1, h2, h3⟩ := hI
  refine ⟨fun x => ?_, fun x hx => ?_, fun x hx => ?_⟩
  · by_cases e : x = v
    · simp only [e, if_true]; have := h1 v; omega
    · simp only [e, if_false]; exact h1 x
  · by_cases e : x = v
    · simp only [e, if_true] at hx ⊢
      obtain ⟨k, hk⟩ := h2 u hu
      exact ⟨k + 1, u, i, f u, hk, hE, rfl⟩
    · simp only [e, if_false] at hx ⊢
      exact h2 x hx
  · by_cases e : x = v
    · subst e
      have := h3 x hx
      omega
    · simp only [e, if_false]; exact h3 x hx
end WY
end
section
theorem d_Crowd_init_0 : decode b_Crowd_init 0 = .ok (.aload_n 0, 1) := by decide +kernel
theorem d_Crowd_init_1 : decode b_Crowd_init 1 = .ok (.invokespecial 3, 3) := by decide +kernel
theorem d_Crowd_init_4 : decode b_Crowd_init 4 = .ok (.aload_n 0, 1) := by decide +kernel
theorem d_Crowd_init_5 : decode b_Crowd_init 5 = .ok (.bipush 60, 2) := by decide +kernel
theorem d_Crowd_init_7 : decode b_Crowd_init 7 = .ok (.newarray .int, 2) := by decide +kernel
theorem d_Crowd_init_9 : decode b_Crowd_init 9 = .ok (.putfield 9, 3) := by decide +kernel
theorem d_Crowd_init_12 : decode b_Crowd_init 12 = .ok (.aload_n 0, 1) := by decide +kernel
theorem d_Crowd_init_13 : decode b_Crowd_init 13 = .ok (.bipush 60, 2) := by decide +kernel
theorem d_Crowd_init_15 : decode b_Crowd_init 15 = .ok (.newarray .int, 2) := by decide +kernel
theorem d_Crowd_init_17 : decode b_Crowd_init 17 = .ok (.putfield 15, 3) := by decide +kernel
theorem d_Crowd_init_20 : decode b_Crowd_init 20 = .ok (.aload_n 0, 1) := by decide +kernel
theorem d_Crowd_init_21 : decode b_Crowd_init 21 = .ok (.bipush 60, 2) := by decide +kernel
theorem d_Crowd_init_23 : decode b_Crowd_init 23 = .ok (.newarray .int, 2) := by decide +kernel
theorem d_Crowd_init_25 : decode b_Crowd_init 25 = .ok (.putfield 18, 3) := by decide +kernel
theorem d_Crowd_init_28 : decode b_Crowd_init 28 = .ok (.aload_n 0, 1) := by decide +kernel
theorem d_Crowd_init_29 : decode b_Crowd_init 29 = .ok (.bipush 60, 2) := by decide +kernel
theorem d_Crowd_init_31 : decode b_Crowd_init 31 = .ok (.newarray .int, 2) := by decide +kernel
theorem d_Crowd_init_33 : decode b_Crowd_init 33 = .ok (.putfield 21, 3) := by decide +kernel
theorem d_Crowd_init_36 : decode b_Crowd_init 36 = .ok (.return_, 1) := by decide +kernel
theorem d_Crowd_add_0 : decode b_Crowd_add 0 = .ok (.aload_n 0, 1) := by decide +kernel
theorem d_Crowd_add_1 : decode b_Crowd_add 1 = .ok (.getfield 24, 3) := by decide +kernel
theorem d_Crowd_add_4 : decode b_Crowd_add 4 = .ok (.bipush 60, 2) := by decide +kernel
theorem d_Crowd_add_6 : decode b_Crowd_add 6 = .ok (.if_icmp .lt 5, 3) := by decide +kernel
theorem d_Crowd_add_9 : decode b_Crowd_add 9 = .ok (.iconst (-1), 1) := by decide +kernel
theorem d_Crowd_add_10 : decode b_Crowd_add 10 = .ok (.ireturn, 1) := by decide +kernel
theorem d_Crowd_add_11 : decode b_Crowd_add 11 = .ok (.aload_n 0, 1) := by decide +kernel
theorem d_Crowd_add_12 : decode b_Crowd_add 12 = .ok (.getfield 9, 3) := by decide +kernel
theorem d_Crowd_add_15 : decode b_Crowd_add 15 = .ok (.aload_n 0, 1) := by decide +kernel
theorem d_Crowd_add_16 : decode b_Crowd_add 16 = .ok (.getfield 24, 3) := by decide +kernel
theorem d_Crowd_add_19 : decode b_Crowd_add 19 = .ok (.iload_n 1, 1) := by decide +kernel
theorem d_Crowd_add_20 : decode b_Crowd_add 20 = .ok (.iastore, 1) := by decide +kernel
theorem d_Crowd_add_21 : decode b_Crowd_add 21 = .ok (.aload_n 0, 1) := by decide +kernel
theorem d_Crowd_add_22 : decode b_Crowd_add 22 = .ok (.getfield 15, 3) := by decide +kernel
theorem d_Crowd_add_25 : decode b_Crowd_add 25 = .ok (.aload_n 0, 1) := by decide +kernel
theorem d_Crowd_add_26 : decode b_Crowd_add 26 = .ok (.getfield 24, 3) := by decide +kernel
theorem d_Crowd_add_29 : decode b_Crowd_add 29 = .ok (.iload_n 2, 1) := by decide +kernel
theorem d_Crowd_add_30 : decode b_Crowd_add 30 = .ok (.iastore, 1) := by decide +kernel
theorem d_Crowd_add_31 : decode b_Crowd_add 31 = .ok (.aload_n 0, 1) := by decide +kernel
theorem d_Crowd_add_32 : decode b_Crowd_add 32 = .ok (.getfield 18, 3) := by decide +kernel
theorem d_Crowd_add_35 : decode b_Crowd_add 35 = .ok (.aload_n 0, 1) := by decide +kernel
theorem d_Crowd_add_36 : decode b_Crowd_add 36 = .ok (.getfield 24, 3) := by decide +kernel
theorem d_Crowd_add_39 : decode b_Crowd_add 39 = .ok (.iload_n 3, 1) := by decide +kernel
theorem d_Crowd_add_40 : decode b_Crowd_add 40 = .ok (.iastore, 1) := by decide +kernel
theorem d_Crowd_add_41 : decode b_Crowd_add 41 = .ok (.aload_n 0, 1) := by decide +kernel
theorem d_Crowd_add_42 : decode b_Crowd_add 42 = .ok (.getfield 21, 3) := by decide +kernel
theorem d_Crowd_add_45 : decode b_Crowd_add 45 = .ok (.aload_n 0, 1) := by decide +kernel
theorem d_Crowd_add_46 : decode b_Crowd_add 46 = .ok (.getfield 24, 3) := by decide +kernel
theorem d_Crowd_add_49 : decode b_Crowd_add 49 = .ok (.iload 4, 2) := by decide +kernel
theorem d_Crowd_add_51 : decode b_Crowd_add 51 = .ok (.iastore, 1) := by decide +kernel
theorem d_Crowd_add_52 : decode b_Crowd_add 52 = .ok (.aload_n 0, 1) := by decide +kernel
theorem d_Crowd_add_53 : decode b_Crowd_add 53 = .ok (.dup, 1) := by decide +kernel
theorem d_Crowd_add_54 : decode b_Crowd_add 54 = .ok (.getfield 24, 3) := by decide +kernel
theorem d_Crowd_add_57 : decode b_Crowd_add 57 = .ok (.iconst 1, 1) := by decide +kernel
theorem d_Crowd_add_58 : decode b_Crowd_add 58 = .ok (.iadd, 1) := by decide +kernel
theorem d_Crowd_add_59 : decode b_Crowd_add 59 = .ok (.putfield 24, 3) := by decide +kernel
theorem d_Crowd_add_62 : decode b_Crowd_add 62 = .ok (.aload_n 0, 1) := by decide +kernel
theorem d_Crowd_add_63 : decode b_Crowd_add 63 = .ok (.getfield 24, 3) := by decide +kernel
theorem d_Crowd_add_66 : decode b_Crowd_add 66 = .ok (.iconst 1, 1) := by decide +kernel
theorem d_Crowd_add_67 : decode b_Crowd_add 67 = .ok (.isub, 1) := by decide +kernel
theorem d_Crowd_add_68 : decode b_Crowd_add 68 = .ok (.ireturn, 1) := by decide +kernel
theorem d_Crowd_sum_0 : decode b_Crowd_sum 0 = .ok (.iconst 0, 1) := by decide +kernel
theorem d_Crowd_sum_1 : decode b_Crowd_sum 1 = .ok (.istore_n 3, 1) := by decide +kernel
theorem d_Crowd_sum_2 : decode b_Crowd_sum 2 = .ok (.iconst 0, 1) := by decide +kernel
theorem d_Crowd_sum_3 : decode b_Crowd_sum 3 = .ok (.istore 4, 2) := by decide +kernel
theorem d_Crowd_sum_5 : decode b_Crowd_sum 5 = .ok (.iload 4, 2) := by decide +kernel
theorem d_Crowd_sum_7 : decode b_Crowd_sum 7 = .ok (.aload_n 0, 1) := by decide +kernel
theorem d_Crowd_sum_8 : decode b_Crowd_sum 8 = .ok (.getfield 24, 3) := by decide +kernel
theorem d_Crowd_sum_11 : decode b_Crowd_sum 11 = .ok (.if_icmp .ge 68, 3) := by decide +kernel
theorem d_Crowd_sum_14 : decode b_Crowd_sum 14 = .ok (.iload_n 1, 1) := by decide +kernel
theorem d_Crowd_sum_15 : decode b_Crowd_sum 15 = .ok (.iconst (-1), 1) := by decide +kernel
theorem d_Crowd_sum_16 : decode b_Crowd_sum 16 = .ok (.if_icmp .eq 14, 3) := by decide +kernel
theorem d_Crowd_sum_19 : decode b_Crowd_sum 19 = .ok (.aload_n 0, 1) := by decide +kernel
theorem d_Crowd_sum_20 : decode b_Crowd_sum 20 = .ok (.getfield 9, 3) := by decide +kernel
theorem d_Crowd_sum_23 : decode b_Crowd_sum 23 = .ok (.iload 4, 2) := by decide +kernel
theorem d_Crowd_sum_25 : decode b_Crowd_sum 25 = .ok (.iaload, 1) := by decide +kernel
theorem d_Crowd_sum_26 : decode b_Crowd_sum 26 = .ok (.iload_n 1, 1) := by decide +kernel
theorem d_Crowd_sum_27 : decode b_Crowd_sum 27 = .ok (.if_icmp .ne 7, 3) := by decide +kernel
theorem d_Crowd_sum_30 : decode b_Crowd_sum 30 = .ok (.iconst 1, 1) := by decide +kernel
theorem d_Crowd_sum_31 : decode b_Crowd_sum 31 = .ok (.goto 4, 3) := by decide +kernel
theorem d_Crowd_sum_34 : decode b_Crowd_sum 34 = .ok (.iconst 0, 1) := by decide +kernel
theorem d_Crowd_sum_35 : decode b_Crowd_sum 35 = .ok (.istore 5, 2) := by decide +kernel
theorem d_Crowd_sum_37 : decode b_Crowd_sum 37 = .ok (.iload 5, 2) := by decide +kernel
theorem d_Crowd_sum_39 : decode b_Crowd_sum 39 = .ok (.ifCond .eq 34, 3) := by decide +kernel
theorem d_Crowd_sum_42 : decode b_Crowd_sum 42 = .ok (.iload_n 2, 1) := by decide +kernel
theorem d_Crowd_sum_43 : decode b_Crowd_sum 43 = .ok (.aload_n 0, 1) := by decide +kernel
theorem d_Crowd_sum_44 : decode b_Crowd_sum 44 = .ok (.getfield 15, 3) := by decide +kernel
theorem d_Crowd_sum_47 : decode b_Crowd_sum 47 = .ok (.iload 4, 2) := by decide +kernel
theorem d_Crowd_sum_49 : decode b_Crowd_sum 49 = .ok (.iaload, 1) := by decide +kernel
theorem d_Crowd_sum_50 : decode b_Crowd_sum 50 = .ok (.aload_n 0, 1) := by decide +kernel
theorem d_Crowd_sum_51 : decode b_Crowd_sum 51 = .ok (.getfield 18, 3) := by decide +kernel
theorem d_Crowd_sum_54 : decode b_Crowd_sum 54 = .ok (.iload 4, 2) := by decide +kernel
theorem d_Crowd_sum_56 : decode b_Crowd_sum 56 = .ok (.iaload, 1) := by decide +kernel
theorem d_Crowd_sum_57 : decode b_Crowd_sum 57 = .ok (.invokestatic 28, 3) := by decide +kernel
theorem d_Crowd_sum_60 : decode b_Crowd_sum 60 = .ok (.ifCond .eq 13, 3) := by decide +kernel
theorem d_Crowd_sum_63 : decode b_Crowd_sum 63 = .ok (.iload_n 3, 1) := by decide +kernel
theorem d_Crowd_sum_64 : decode b_Crowd_sum 64 = .ok (.aload_n 0, 1) := by decide +kernel
theorem d_Crowd_sum_65 : decode b_Crowd_sum 65 = .ok (.getfield 21, 3) := by decide +kernel
theorem d_Crowd_sum_68 : decode b_Crowd_sum 68 = .ok (.iload 4, 2) := by decide +kernel
theorem d_Crowd_sum_70 : decode b_Crowd_sum 70 = .ok (.iaload, 1) := by decide +kernel
theorem d_Crowd_sum_71 : decode b_Crowd_sum 71 = .ok (.iadd, 1) := by decide +kernel
theorem d_Crowd_sum_72 : decode b_Crowd_sum 72 = .ok (.istore_n 3, 1) := by decide +kernel
theorem d_Crowd_sum_73 : decode b_Crowd_sum 73 = .ok (.iinc 4 1, 3) := by decide +kernel
theorem d_Crowd_sum_76 : decode b_Crowd_sum 76 = .ok (.goto (-71), 3) := by decide +kernel
theorem d_Crowd_sum_79 : decode b_Crowd_sum 79 = .ok (.iload_n 3, 1) := by decide +kernel
theorem d_Crowd_sum_80 : decode b_Crowd_sum 80 = .ok (.ireturn, 1) := by decide +kernel
theorem d_Crowd_isBetween_0 : decode b_Crowd_isBetween 0 = .ok (.iload_n 2, 1) := by decide +kernel
theorem d_Crowd_isBetween_1 : decode b_Crowd_isBetween 1 = .ok (.iload_n 1, 1) := by decide +kernel
theorem d_Crowd_isBetween_2 : decode b_Crowd_isBetween 2 = .ok (.if_icmp .ge 7, 3) := by decide +kernel
theorem d_Crowd_isBetween_5 : decode b_Crowd_isBetween 5 = .ok (.iconst 1, 1) := by decide +kernel
theorem d_Crowd_isBetween_6 : decode b_Crowd_isBetween 6 = .ok (.goto 4, 3) := by decide +kernel
theorem d_Crowd_isBetween_9 : decode b_Crowd_isBetween 9 = .ok (.iconst 0, 1) := by decide +kernel
theorem d_Crowd_isBetween_10 : decode b_Crowd_isBetween 10 = .ok (.istore_n 3, 1) := by decide +kernel
theorem d_Crowd_isBetween_11 : decode b_Crowd_isBetween 11 = .ok (.iload_n 3, 1) := by decide +kernel
theorem d_Crowd_isBetween_12 : decode b_Crowd_isBetween 12 = .ok (.ifCond .eq 21, 3) := by decide +kernel
theorem d_Crowd_isBetween_15 : decode b_Crowd_isBetween 15 = .ok (.iload_n 0, 1) := by decide +kernel
theorem d_Crowd_isBetween_16 : decode b_Crowd_isBetween 16 = .ok (.iload_n 1, 1) := by decide +kernel
theorem d_Crowd_isBetween_17 : decode b_Crowd_isBetween 17 = .ok (.if_icmp .ge 8, 3) := by decide +kernel
theorem d_Crowd_isBetween_20 : decode b_Crowd_isBetween 20 = .ok (.iload_n 0, 1) := by decide +kernel
theorem d_Crowd_isBetween_21 : decode b_Crowd_isBetween 21 = .ok (.iload_n 2, 1) := by decide +kernel
theorem d_Crowd_isBetween_22 : decode b_Crowd_isBetween 22 = .ok (.if_icmp .gt 7, 3) := by decide +kernel
theorem d_Crowd_isBetween_25 : decode b_Crowd_isBetween 25 = .ok (.iconst 1, 1) := by decide +kernel
theorem d_Crowd_isBetween_26 : decode b_Crowd_isBetween 26 = .ok (.goto 22, 3) := by decide +kernel
theorem d_Crowd_isBetween_29 : decode b_Crowd_isBetween 29 = .ok (.iconst 0, 1) := by decide +kernel
theorem d_Crowd_isBetween_30 : decode b_Crowd_isBetween 30 = .ok (.goto 18, 3) := by decide +kernel
theorem d_Crowd_isBetween_33 : decode b_Crowd_isBetween 33 = .ok (.iload_n 0, 1) := by decide +kernel
theorem d_Crowd_isBetween_34 : decode b_Crowd_isBetween 34 = .ok (.iload_n 1, 1) := by decide +kernel
theorem d_Crowd_isBetween_35 : decode b_Crowd_isBetween 35 = .ok (.if_icmp .lt 12, 3) := by decide +kernel
theorem d_Crowd_isBetween_38 : decode b_Crowd_isBetween 38 = .ok (.iload_n 0, 1) := by decide +kernel
theorem d_Crowd_isBetween_39 : decode b_Crowd_isBetween 39 = .ok (.iload_n 2, 1) := by decide +kernel
theorem d_Crowd_isBetween_40 : decode b_Crowd_isBetween 40 = .ok (.if_icmp .gt 7, 3) := by decide +kernel
theorem d_Crowd_isBetween_43 : decode b_Crowd_isBetween 43 = .ok (.iconst 1, 1) := by decide +kernel
theorem d_Crowd_isBetween_44 : decode b_Crowd_isBetween 44 = .ok (.goto 4, 3) := by decide +kernel
theorem d_Crowd_isBetween_47 : decode b_Crowd_isBetween 47 = .ok (.iconst 0, 1) := by decide +kernel
theorem d_Crowd_isBetween_48 : decode b_Crowd_isBetween 48 = .ok (.ireturn, 1) := by decide +kernel
theorem d_Det_init_0 : decode b_Det_init 0 = .ok (.aload_n 0, 1) := by decide +kernel
theorem d_Det_init_1 : decode b_Det_init 1 = .ok (.invokespecial 3, 3) := by decide +kernel
theorem d_Det_init_4 : decode b_Det_init 4 = .ok (.aload_n 0, 1) := by decide +kernel
theorem d_Det_init_5 : decode b_Det_init 5 = .ok (.bipush 100, 2) := by decide +kernel
theorem d_Det_init_7 : decode b_Det_init 7 = .ok (.newarray .int, 2) := by decide +kernel
theorem d_Det_init_9 : decode b_Det_init 9 = .ok (.putfield 9, 3) := by decide +kernel
theorem d_Det_init_12 : decode b_Det_init 12 = .ok (.aload_n 0, 1) := by decide +kernel
theorem d_Det_init_13 : decode b_Det_init 13 = .ok (.bipush 100, 2) := by decide +kernel
theorem d_Det_init_15 : decode b_Det_init 15 = .ok (.newarray .int, 2) := by decide +kernel
theorem d_Det_init_17 : decode b_Det_init 17 = .ok (.putfield 15, 3) := by decide +kernel
theorem d_Det_init_20 : decode b_Det_init 20 = .ok (.aload_n 0, 1) := by decide +kernel
theorem d_Det_init_21 : decode b_Det_init 21 = .ok (.bipush 100, 2) := by decide +kernel
theorem d_Det_init_23 : decode b_Det_init 23 = .ok (.newarray .int, 2) := by decide +kernel
theorem d_Det_init_25 : decode b_Det_init 25 = .ok (.putfield 18, 3) := by decide +kernel
theorem d_Det_init_28 : decode b_Det_init 28 = .ok (.return_, 1) := by decide +kernel
theorem d_Det_add_0 : decode b_Det_add 0 = .ok (.aload_n 0, 1) := by decide +kernel
theorem d_Det_add_1 : decode b_Det_add 1 = .ok (.getfield 21, 3) := by decide +kernel
theorem d_Det_add_4 : decode b_Det_add 4 = .ok (.bipush 100, 2) := by decide +kernel
theorem d_Det_add_6 : decode b_Det_add 6 = .ok (.if_icmp .lt 5, 3) := by decide +kernel
theorem d_Det_add_9 : decode b_Det_add 9 = .ok (.iconst (-1), 1) := by decide +kernel
theorem d_Det_add_10 : decode b_Det_add 10 = .ok (.ireturn, 1) := by decide +kernel
theorem d_Det_add_11 : decode b_Det_add 11 = .ok (.aload_n 0, 1) := by decide +kernel
theorem d_Det_add_12 : decode b_Det_add 12 = .ok (.getfield 9, 3) := by decide +kernel
theorem d_Det_add_15 : decode b_Det_add 15 = .ok (.aload_n 0, 1) := by decide +kernel
theorem d_Det_add_16 : decode b_Det_add 16 = .ok (.getfield 21, 3) := by decide +kernel
theorem d_Det_add_19 : decode b_Det_add 19 = .ok (.iload_n 1, 1) := by decide +kernel
theorem d_Det_add_20 : decode b_Det_add 20 = .ok (.iastore, 1) := by decide +kernel
theorem d_Det_add_21 : decode b_Det_add 21 = .ok (.aload_n 0, 1) := by decide +kernel
theorem d_Det_add_22 : decode b_Det_add 22 = .ok (.getfield 15, 3) := by decide +kernel
theorem d_Det_add_25 : decode b_Det_add 25 = .ok (.aload_n 0, 1) := by decide +kernel
theorem d_Det_add_26 : decode b_Det_add 26 = .ok (.getfield 21, 3) := by decide +kernel
theorem d_Det_add_29 : decode b_Det_add 29 = .ok (.iload_n 2, 1) := by decide +kernel
theorem d_Det_add_30 : decode b_Det_add 30 = .ok (.iastore, 1) := by decide +kernel
theorem d_Det_add_31 : decode b_Det_add 31 = .ok (.aload_n 0, 1) := by decide +kernel
theorem d_Det_add_32 : decode b_Det_add 32 = .ok (.getfield 18, 3) := by decide +kernel
theorem d_Det_add_35 : decode b_Det_add 35 = .ok (.aload_n 0, 1) := by decide +kernel
theorem d_Det_add_36 : decode b_Det_add 36 = .ok (.getfield 21, 3) := by decide +kernel
theorem d_Det_add_39 : decode b_Det_add 39 = .ok (.iload_n 3, 1) := by decide +kernel
theorem d_Det_add_40 : decode b_Det_add 40 = .ok (.iastore, 1) := by decide +kernel
theorem d_Det_add_41 : decode b_Det_add 41 = .ok (.aload_n 0, 1) := by decide +kernel
theorem d_Det_add_42 : decode b_Det_add 42 = .ok (.dup, 1) := by decide +kernel
theorem d_Det_add_43 : decode b_Det_add 43 = .ok (.getfield 21, 3) := by decide +kernel
theorem d_Det_add_46 : decode b_Det_add 46 = .ok (.iconst 1, 1) := by decide +kernel
theorem d_Det_add_47 : decode b_Det_add 47 = .ok (.iadd, 1) := by decide +kernel
theorem d_Det_add_48 : decode b_Det_add 48 = .ok (.putfield 21, 3) := by decide +kernel
theorem d_Det_add_51 : decode b_Det_add 51 = .ok (.aload_n 0, 1) := by decide +kernel
theorem d_Det_add_52 : decode b_Det_add 52 = .ok (.getfield 21, 3) := by decide +kernel
theorem d_Det_add_55 : decode b_Det_add 55 = .ok (.iconst 1, 1) := by decide +kernel
theorem d_Det_add_56 : decode b_Det_add 56 = .ok (.isub, 1) := by decide +kernel
theorem d_Det_add_57 : decode b_Det_add 57 = .ok (.ireturn, 1) := by decide +kernel
theorem d_Det_roomOf_0 : decode b_Det_roomOf 0 = .ok (.iconst 0, 1) := by decide +kernel
theorem d_Det_roomOf_1 : decode b_Det_roomOf 1 = .ok (.istore_n 3, 1) := by decide +kernel
theorem d_Det_roomOf_2 : decode b_Det_roomOf 2 = .ok (.iload_n 3, 1) := by decide +kernel
theorem d_Det_roomOf_3 : decode b_Det_roomOf 3 = .ok (.aload_n 0, 1) := by decide +kernel
theorem d_Det_roomOf_4 : decode b_Det_roomOf 4 = .ok (.getfield 21, 3) := by decide +kernel
theorem d_Det_roomOf_7 : decode b_Det_roomOf 7 = .ok (.if_icmp .ge 36, 3) := by decide +kernel
theorem d_Det_roomOf_10 : decode b_Det_roomOf 10 = .ok (.aload_n 0, 1) := by decide +kernel
theorem d_Det_roomOf_11 : decode b_Det_roomOf 11 = .ok (.getfield 9, 3) := by decide +kernel
theorem d_Det_roomOf_14 : decode b_Det_roomOf 14 = .ok (.iload_n 3, 1) := by decide +kernel
theorem d_Det_roomOf_15 : decode b_Det_roomOf 15 = .ok (.iaload, 1) := by decide +kernel
theorem d_Det_roomOf_16 : decode b_Det_roomOf 16 = .ok (.iload_n 1, 1) := by decide +kernel
theorem d_Det_roomOf_17 : decode b_Det_roomOf 17 = .ok (.if_icmp .ne 20, 3) := by decide +kernel
theorem d_Det_roomOf_20 : decode b_Det_roomOf 20 = .ok (.aload_n 0, 1) := by decide +kernel
theorem d_Det_roomOf_21 : decode b_Det_roomOf 21 = .ok (.getfield 15, 3) := by decide +kernel
theorem d_Det_roomOf_24 : decode b_Det_roomOf 24 = .ok (.iload_n 3, 1) := by decide +kernel
theorem d_Det_roomOf_25 : decode b_Det_roomOf 25 = .ok (.iaload, 1) := by decide +kernel
theorem d_Det_roomOf_26 : decode b_Det_roomOf 26 = .ok (.iload_n 2, 1) := by decide +kernel
theorem d_Det_roomOf_27 : decode b_Det_roomOf 27 = .ok (.if_icmp .ne 10, 3) := by decide +kernel
theorem d_Det_roomOf_30 : decode b_Det_roomOf 30 = .ok (.aload_n 0, 1) := by decide +kernel
theorem d_Det_roomOf_31 : decode b_Det_roomOf 31 = .ok (.getfield 18, 3) := by decide +kernel
theorem d_Det_roomOf_34 : decode b_Det_roomOf 34 = .ok (.iload_n 3, 1) := by decide +kernel
theorem d_Det_roomOf_35 : decode b_Det_roomOf 35 = .ok (.iaload, 1) := by decide +kernel
theorem d_Det_roomOf_36 : decode b_Det_roomOf 36 = .ok (.ireturn, 1) := by decide +kernel
theorem d_Det_roomOf_37 : decode b_Det_roomOf 37 = .ok (.iinc 3 1, 3) := by decide +kernel
theorem d_Det_roomOf_40 : decode b_Det_roomOf 40 = .ok (.goto (-38), 3) := by decide +kernel
theorem d_Det_roomOf_43 : decode b_Det_roomOf 43 = .ok (.iconst (-1), 1) := by decide +kernel
theorem d_Det_roomOf_44 : decode b_Det_roomOf 44 = .ok (.ireturn, 1) := by decide +kernel
theorem d_Doors_init_0 : decode b_Doors_init 0 = .ok (.aload_n 0, 1) := by decide +kernel
theorem d_Doors_init_1 : decode b_Doors_init 1 = .ok (.invokespecial 3, 3) := by decide +kernel
theorem d_Doors_init_4 : decode b_Doors_init 4 = .ok (.aload_n 0, 1) := by decide +kernel
theorem d_Doors_init_5 : decode b_Doors_init 5 = .ok (.bipush 80, 2) := by decide +kernel
theorem d_Doors_init_7 : decode b_Doors_init 7 = .ok (.newarray .int, 2) := by decide +kernel
theorem d_Doors_init_9 : decode b_Doors_init 9 = .ok (.putfield 9, 3) := by decide +kernel
theorem d_Doors_init_12 : decode b_Doors_init 12 = .ok (.aload_n 0, 1) := by decide +kernel
theorem d_Doors_init_13 : decode b_Doors_init 13 = .ok (.bipush 80, 2) := by decide +kernel
theorem d_Doors_init_15 : decode b_Doors_init 15 = .ok (.newarray .int, 2) := by decide +kernel
theorem d_Doors_init_17 : decode b_Doors_init 17 = .ok (.putfield 15, 3) := by decide +kernel
theorem d_Doors_init_20 : decode b_Doors_init 20 = .ok (.aload_n 0, 1) := by decide +kernel
theorem d_Doors_init_21 : decode b_Doors_init 21 = .ok (.bipush 80, 2) := by decide +kernel
theorem d_Doors_init_23 : decode b_Doors_init 23 = .ok (.newarray .int, 2) := by decide +kernel
theorem d_Doors_init_25 : decode b_Doors_init 25 = .ok (.putfield 18, 3) := by decide +kernel
theorem d_Doors_init_28 : decode b_Doors_init 28 = .ok (.aload_n 0, 1) := by decide +kernel
theorem d_Doors_init_29 : decode b_Doors_init 29 = .ok (.bipush 80, 2) := by decide +kernel
theorem d_Doors_init_31 : decode b_Doors_init 31 = .ok (.newarray .int, 2) := by decide +kernel
theorem d_Doors_init_33 : decode b_Doors_init 33 = .ok (.putfield 21, 3) := by decide +kernel
theorem d_Doors_init_36 : decode b_Doors_init 36 = .ok (.return_, 1) := by decide +kernel
theorem d_Doors_add_0 : decode b_Doors_add 0 = .ok (.aload_n 0, 1) := by decide +kernel
theorem d_Doors_add_1 : decode b_Doors_add 1 = .ok (.getfield 24, 3) := by decide +kernel
theorem d_Doors_add_4 : decode b_Doors_add 4 = .ok (.bipush 80, 2) := by decide +kernel
theorem d_Doors_add_6 : decode b_Doors_add 6 = .ok (.if_icmp .lt 5, 3) := by decide +kernel
theorem d_Doors_add_9 : decode b_Doors_add 9 = .ok (.iconst (-1), 1) := by decide +kernel
theorem d_Doors_add_10 : decode b_Doors_add 10 = .ok (.ireturn, 1) := by decide +kernel
theorem d_Doors_add_11 : decode b_Doors_add 11 = .ok (.aload_n 0, 1) := by decide +kernel
theorem d_Doors_add_12 : decode b_Doors_add 12 = .ok (.getfield 9, 3) := by decide +kernel
theorem d_Doors_add_15 : decode b_Doors_add 15 = .ok (.aload_n 0, 1) := by decide +kernel
theorem d_Doors_add_16 : decode b_Doors_add 16 = .ok (.getfield 24, 3) := by decide +kernel
theorem d_Doors_add_19 : decode b_Doors_add 19 = .ok (.iload_n 1, 1) := by decide +kernel
theorem d_Doors_add_20 : decode b_Doors_add 20 = .ok (.iastore, 1) := by decide +kernel
theorem d_Doors_add_21 : decode b_Doors_add 21 = .ok (.aload_n 0, 1) := by decide +kernel
theorem d_Doors_add_22 : decode b_Doors_add 22 = .ok (.getfield 15, 3) := by decide +kernel
theorem d_Doors_add_25 : decode b_Doors_add 25 = .ok (.aload_n 0, 1) := by decide +kernel
theorem d_Doors_add_26 : decode b_Doors_add 26 = .ok (.getfield 24, 3) := by decide +kernel
theorem d_Doors_add_29 : decode b_Doors_add 29 = .ok (.iload_n 2, 1) := by decide +kernel
theorem d_Doors_add_30 : decode b_Doors_add 30 = .ok (.iastore, 1) := by decide +kernel
theorem d_Doors_add_31 : decode b_Doors_add 31 = .ok (.aload_n 0, 1) := by decide +kernel
theorem d_Doors_add_32 : decode b_Doors_add 32 = .ok (.getfield 18, 3) := by decide +kernel
theorem d_Doors_add_35 : decode b_Doors_add 35 = .ok (.aload_n 0, 1) := by decide +kernel
theorem d_Doors_add_36 : decode b_Doors_add 36 = .ok (.getfield 24, 3) := by decide +kernel
theorem d_Doors_add_39 : decode b_Doors_add 39 = .ok (.iload_n 3, 1) := by decide +kernel
theorem d_Doors_add_40 : decode b_Doors_add 40 = .ok (.iastore, 1) := by decide +kernel
theorem d_Doors_add_41 : decode b_Doors_add 41 = .ok (.aload_n 0, 1) := by decide +kernel
theorem d_Doors_add_42 : decode b_Doors_add 42 = .ok (.getfield 21, 3) := by decide +kernel
theorem d_Doors_add_45 : decode b_Doors_add 45 = .ok (.aload_n 0, 1) := by decide +kernel
theorem d_Doors_add_46 : decode b_Doors_add 46 = .ok (.getfield 24, 3) := by decide +kernel
theorem d_Doors_add_49 : decode b_Doors_add 49 = .ok (.iload 4, 2) := by decide +kernel
theorem d_Doors_add_51 : decode b_Doors_add 51 = .ok (.iastore, 1) := by decide +kernel
theorem d_Doors_add_52 : decode b_Doors_add 52 = .ok (.aload_n 0, 1) := by decide +kernel
theorem d_Doors_add_53 : decode b_Doors_add 53 = .ok (.dup, 1) := by decide +kernel
theorem d_Doors_add_54 : decode b_Doors_add 54 = .ok (.getfield 24, 3) := by decide +kernel
theorem d_Doors_add_57 : decode b_Doors_add 57 = .ok (.iconst 1, 1) := by decide +kernel
theorem d_Doors_add_58 : decode b_Doors_add 58 = .ok (.iadd, 1) := by decide +kernel
theorem d_Doors_add_59 : decode b_Doors_add 59 = .ok (.putfield 24, 3) := by decide +kernel
theorem d_Doors_add_62 : decode b_Doors_add 62 = .ok (.aload_n 0, 1) := by decide +kernel
theorem d_Doors_add_63 : decode b_Doors_add 63 = .ok (.getfield 24, 3) := by decide +kernel
theorem d_Doors_add_66 : decode b_Doors_add 66 = .ok (.iconst 1, 1) := by decide +kernel
theorem d_Doors_add_67 : decode b_Doors_add 67 = .ok (.isub, 1) := by decide +kernel
theorem d_Doors_add_68 : decode b_Doors_add 68 = .ok (.ireturn, 1) := by decide +kernel
theorem d_Doors_has_0 : decode b_Doors_has 0 = .ok (.iload_n 1, 1) := by decide +kernel
theorem d_Doors_has_1 : decode b_Doors_has 1 = .ok (.ifCond .lt 15, 3) := by decide +kernel
theorem d_Doors_has_4 : decode b_Doors_has 4 = .ok (.iload_n 1, 1) := by decide +kernel
theorem d_Doors_has_5 : decode b_Doors_has 5 = .ok (.aload_n 0, 1) := by decide +kernel
theorem d_Doors_has_6 : decode b_Doors_has 6 = .ok (.getfield 24, 3) := by decide +kernel
theorem d_Doors_has_9 : decode b_Doors_has 9 = .ok (.if_icmp .ge 7, 3) := by decide +kernel
theorem d_Doors_has_12 : decode b_Doors_has 12 = .ok (.iconst 1, 1) := by decide +kernel
theorem d_Doors_has_13 : decode b_Doors_has 13 = .ok (.goto 4, 3) := by decide +kernel
theorem d_Doors_has_16 : decode b_Doors_has 16 = .ok (.iconst 0, 1) := by decide +kernel
theorem d_Doors_has_17 : decode b_Doors_has 17 = .ok (.ireturn, 1) := by decide +kernel
theorem d_Doors_firstRoomOf_0 : decode b_Doors_firstRoomOf 0 = .ok (.aload_n 0, 1) := by decide +kernel
theorem d_Doors_firstRoomOf_1 : decode b_Doors_firstRoomOf 1 = .ok (.iload_n 1, 1) := by decide +kernel
theorem d_Doors_firstRoomOf_2 : decode b_Doors_firstRoomOf 2 = .ok (.invokevirtual 28, 3) := by decide +kernel
theorem d_Doors_firstRoomOf_5 : decode b_Doors_firstRoomOf 5 = .ok (.ifCond .eq 12, 3) := by decide +kernel
theorem d_Doors_firstRoomOf_8 : decode b_Doors_firstRoomOf 8 = .ok (.aload_n 0, 1) := by decide +kernel
theorem d_Doors_firstRoomOf_9 : decode b_Doors_firstRoomOf 9 = .ok (.getfield 9, 3) := by decide +kernel
theorem d_Doors_firstRoomOf_12 : decode b_Doors_firstRoomOf 12 = .ok (.iload_n 1, 1) := by decide +kernel
theorem d_Doors_firstRoomOf_13 : decode b_Doors_firstRoomOf 13 = .ok (.iaload, 1) := by decide +kernel
theorem d_Doors_firstRoomOf_14 : decode b_Doors_firstRoomOf 14 = .ok (.goto 4, 3) := by decide +kernel
theorem d_Doors_firstRoomOf_17 : decode b_Doors_firstRoomOf 17 = .ok (.iconst (-1), 1) := by decide +kernel
theorem d_Doors_firstRoomOf_18 : decode b_Doors_firstRoomOf 18 = .ok (.ireturn, 1) := by decide +kernel
theorem d_Doors_secondRoomOf_0 : decode b_Doors_secondRoomOf 0 = .ok (.aload_n 0, 1) := by decide +kernel
theorem d_Doors_secondRoomOf_1 : decode b_Doors_secondRoomOf 1 = .ok (.iload_n 1, 1) := by decide +kernel
theorem d_Doors_secondRoomOf_2 : decode b_Doors_secondRoomOf 2 = .ok (.invokevirtual 28, 3) := by decide +kernel
theorem d_Doors_secondRoomOf_5 : decode b_Doors_secondRoomOf 5 = .ok (.ifCond .eq 12, 3) := by decide +kernel
theorem d_Doors_secondRoomOf_8 : decode b_Doors_secondRoomOf 8 = .ok (.aload_n 0, 1) := by decide +kernel
theorem d_Doors_secondRoomOf_9 : decode b_Doors_secondRoomOf 9 = .ok (.getfield 15, 3) := by decide +kernel
theorem d_Doors_secondRoomOf_12 : decode b_Doors_secondRoomOf 12 = .ok (.iload_n 1, 1) := by decide +kernel
theorem d_Doors_secondRoomOf_13 : decode b_Doors_secondRoomOf 13 = .ok (.iaload, 1) := by decide +kernel
theorem d_Doors_secondRoomOf_14 : decode b_Doors_secondRoomOf 14 = .ok (.goto 4, 3) := by decide +kernel
theorem d_Doors_secondRoomOf_17 : decode b_Doors_secondRoomOf 17 = .ok (.iconst (-1), 1) := by decide +kernel
theorem d_Doors_secondRoomOf_18 : decode b_Doors_secondRoomOf 18 = .ok (.ireturn, 1) := by decide +kernel
theorem d_Doors_costOf_0 : decode b_Doors_costOf 0 = .ok (.aload_n 0, 1) := by decide +kernel
theorem d_Doors_costOf_1 : decode b_Doors_costOf 1 = .ok (.iload_n 1, 1) := by decide +kernel
theorem d_Doors_costOf_2 : decode b_Doors_costOf 2 = .ok (.invokevirtual 28, 3) := by decide +kernel
theorem d_Doors_costOf_5 : decode b_Doors_costOf 5 = .ok (.ifCond .eq 12, 3) := by decide +kernel
theorem d_Doors_costOf_8 : decode b_Doors_costOf 8 = .ok (.aload_n 0, 1) := by decide +kernel
theorem d_Doors_costOf_9 : decode b_Doors_costOf 9 = .ok (.getfield 18, 3) := by decide +kernel
theorem d_Doors_costOf_12 : decode b_Doors_costOf 12 = .ok (.iload_n 1, 1) := by decide +kernel
theorem d_Doors_costOf_13 : decode b_Doors_costOf 13 = .ok (.iaload, 1) := by decide +kernel
theorem d_Doors_costOf_14 : decode b_Doors_costOf 14 = .ok (.goto 4, 3) := by decide +kernel
theorem d_Doors_costOf_17 : decode b_Doors_costOf 17 = .ok (.iconst 0, 1) := by decide +kernel
theorem d_Doors_costOf_18 : decode b_Doors_costOf 18 = .ok (.ireturn, 1) := by decide +kernel
theorem d_Doors_keyOf_0 : decode b_Doors_keyOf 0 = .ok (.aload_n 0, 1) := by decide +kernel
theorem d_Doors_keyOf_1 : decode b_Doors_keyOf 1 = .ok (.iload_n 1, 1) := by decide +kernel
theorem d_Doors_keyOf_2 : decode b_Doors_keyOf 2 = .ok (.invokevirtual 28, 3) := by decide +kernel
theorem d_Doors_keyOf_5 : decode b_Doors_keyOf 5 = .ok (.ifCond .eq 12, 3) := by decide +kernel
theorem d_Doors_keyOf_8 : decode b_Doors_keyOf 8 = .ok (.aload_n 0, 1) := by decide +kernel
theorem d_Doors_keyOf_9 : decode b_Doors_keyOf 9 = .ok (.getfield 21, 3) := by decide +kernel
theorem d_Doors_keyOf_12 : decode b_Doors_keyOf 12 = .ok (.iload_n 1, 1) := by decide +kernel
theorem d_Doors_keyOf_13 : decode b_Doors_keyOf 13 = .ok (.iaload, 1) := by decide +kernel
theorem d_Doors_keyOf_14 : decode b_Doors_keyOf 14 = .ok (.goto 4, 3) := by decide +kernel
theorem d_Doors_keyOf_17 : decode b_Doors_keyOf 17 = .ok (.iconst 0, 1) := by decide +kernel
theorem d_Doors_keyOf_18 : decode b_Doors_keyOf 18 = .ok (.ireturn, 1) := by decide +kernel
theorem d_Doors_roomBehind_0 : decode b_Doors_roomBehind 0 = .ok (.aload_n 0, 1) := by decide +kernel
theorem d_Doors_roomBehind_1 : decode b_Doors_roomBehind 1 = .ok (.iload_n 1, 1) := by decide +kernel
theorem d_Doors_roomBehind_2 : decode b_Doors_roomBehind 2 = .ok (.invokevirtual 32, 3) := by decide +kernel
theorem d_Doors_roomBehind_5 : decode b_Doors_roomBehind 5 = .ok (.iload_n 2, 1) := by decide +kernel
theorem d_Doors_roomBehind_6 : decode b_Doors_roomBehind 6 = .ok (.if_icmp .ne 9, 3) := by decide +kernel
theorem d_Doors_roomBehind_9 : decode b_Doors_roomBehind 9 = .ok (.aload_n 0, 1) := by decide +kernel
theorem d_Doors_roomBehind_10 : decode b_Doors_roomBehind 10 = .ok (.iload_n 1, 1) := by decide +kernel
theorem d_Doors_roomBehind_11 : decode b_Doors_roomBehind 11 = .ok (.invokevirtual 36, 3) := by decide +kernel
theorem d_Doors_roomBehind_14 : decode b_Doors_roomBehind 14 = .ok (.ireturn, 1) := by decide +kernel
theorem d_Doors_roomBehind_15 : decode b_Doors_roomBehind 15 = .ok (.aload_n 0, 1) := by decide +kernel
theorem d_Doors_roomBehind_16 : decode b_Doors_roomBehind 16 = .ok (.iload_n 1, 1) := by decide +kernel
theorem d_Doors_roomBehind_17 : decode b_Doors_roomBehind 17 = .ok (.invokevirtual 36, 3) := by decide +kernel
theorem d_Doors_roomBehind_20 : decode b_Doors_roomBehind 20 = .ok (.iload_n 2, 1) := by decide +kernel
theorem d_Doors_roomBehind_21 : decode b_Doors_roomBehind 21 = .ok (.if_icmp .ne 11, 3) := by decide +kernel
theorem d_Doors_roomBehind_24 : decode b_Doors_roomBehind 24 = .ok (.aload_n 0, 1) := by decide +kernel
theorem d_Doors_roomBehind_25 : decode b_Doors_roomBehind 25 = .ok (.iload_n 1, 1) := by decide +kernel
theorem d_Doors_roomBehind_26 : decode b_Doors_roomBehind 26 = .ok (.invokevirtual 32, 3) := by decide +kernel
theorem d_Doors_roomBehind_29 : decode b_Doors_roomBehind 29 = .ok (.goto 4, 3) := by decide +kernel
theorem d_Doors_roomBehind_32 : decode b_Doors_roomBehind 32 = .ok (.iconst (-1), 1) := by decide +kernel
theorem d_Doors_roomBehind_33 : decode b_Doors_roomBehind 33 = .ok (.ireturn, 1) := by decide +kernel
theorem d_Doors_anyHasKey_0 : decode b_Doors_anyHasKey 0 = .ok (.iconst 0, 1) := by decide +kernel
theorem d_Doors_anyHasKey_1 : decode b_Doors_anyHasKey 1 = .ok (.istore_n 2, 1) := by decide +kernel
theorem d_Doors_anyHasKey_2 : decode b_Doors_anyHasKey 2 = .ok (.iload_n 2, 1) := by decide +kernel
theorem d_Doors_anyHasKey_3 : decode b_Doors_anyHasKey 3 = .ok (.aload_n 0, 1) := by decide +kernel
theorem d_Doors_anyHasKey_4 : decode b_Doors_anyHasKey 4 = .ok (.getfield 24, 3) := by decide +kernel
theorem d_Doors_anyHasKey_7 : decode b_Doors_anyHasKey 7 = .ok (.if_icmp .ge 21, 3) := by decide +kernel
theorem d_Doors_anyHasKey_10 : decode b_Doors_anyHasKey 10 = .ok (.aload_n 0, 1) := by decide +kernel
theorem d_Doors_anyHasKey_11 : decode b_Doors_anyHasKey 11 = .ok (.getfield 21, 3) := by decide +kernel
theorem d_Doors_anyHasKey_14 : decode b_Doors_anyHasKey 14 = .ok (.iload_n 2, 1) := by decide +kernel
theorem d_Doors_anyHasKey_15 : decode b_Doors_anyHasKey 15 = .ok (.iaload, 1) := by decide +kernel
theorem d_Doors_anyHasKey_16 : decode b_Doors_anyHasKey 16 = .ok (.iload_n 1, 1) := by decide +kernel
theorem d_Doors_anyHasKey_17 : decode b_Doors_anyHasKey 17 = .ok (.if_icmp .ne 5, 3) := by decide +kernel
theorem d_Doors_anyHasKey_20 : decode b_Doors_anyHasKey 20 = .ok (.iconst 1, 1) := by decide +kernel
theorem d_Doors_anyHasKey_21 : decode b_Doors_anyHasKey 21 = .ok (.ireturn, 1) := by decide +kernel
theorem d_Doors_anyHasKey_22 : decode b_Doors_anyHasKey 22 = .ok (.iinc 2 1, 3) := by decide +kernel
theorem d_Doors_anyHasKey_25 : decode b_Doors_anyHasKey 25 = .ok (.goto (-23), 3) := by decide +kernel
theorem d_Doors_anyHasKey_28 : decode b_Doors_anyHasKey 28 = .ok (.iconst 0, 1) := by decide +kernel
theorem d_Doors_anyHasKey_29 : decode b_Doors_anyHasKey 29 = .ok (.ireturn, 1) := by decide +kernel
theorem d_Keys_init_0 : decode b_Keys_init 0 = .ok (.aload_n 0, 1) := by decide +kernel
theorem d_Keys_init_1 : decode b_Keys_init 1 = .ok (.invokespecial 3, 3) := by decide +kernel
theorem d_Keys_init_4 : decode b_Keys_init 4 = .ok (.aload_n 0, 1) := by decide +kernel
theorem d_Keys_init_5 : decode b_Keys_init 5 = .ok (.bipush 31, 2) := by decide +kernel
theorem d_Keys_init_7 : decode b_Keys_init 7 = .ok (.newarray .boolean, 2) := by decide +kernel
theorem d_Keys_init_9 : decode b_Keys_init 9 = .ok (.putfield 9, 3) := by decide +kernel
theorem d_Keys_init_12 : decode b_Keys_init 12 = .ok (.return_, 1) := by decide +kernel
theorem d_Keys_has_0 : decode b_Keys_has 0 = .ok (.iload_n 1, 1) := by decide +kernel
theorem d_Keys_has_1 : decode b_Keys_has 1 = .ok (.ifCond .le 13, 3) := by decide +kernel
theorem d_Keys_has_4 : decode b_Keys_has 4 = .ok (.iload_n 1, 1) := by decide +kernel
theorem d_Keys_has_5 : decode b_Keys_has 5 = .ok (.bipush 30, 2) := by decide +kernel
theorem d_Keys_has_7 : decode b_Keys_has 7 = .ok (.if_icmp .gt 7, 3) := by decide +kernel
theorem d_Keys_has_10 : decode b_Keys_has 10 = .ok (.iconst 1, 1) := by decide +kernel
theorem d_Keys_has_11 : decode b_Keys_has 11 = .ok (.goto 4, 3) := by decide +kernel
theorem d_Keys_has_14 : decode b_Keys_has 14 = .ok (.iconst 0, 1) := by decide +kernel
theorem d_Keys_has_15 : decode b_Keys_has 15 = .ok (.ireturn, 1) := by decide +kernel
theorem d_Keys_isAtHand_0 : decode b_Keys_isAtHand 0 = .ok (.aload_n 0, 1) := by decide +kernel
theorem d_Keys_isAtHand_1 : decode b_Keys_isAtHand 1 = .ok (.iload_n 1, 1) := by decide +kernel
theorem d_Keys_isAtHand_2 : decode b_Keys_isAtHand 2 = .ok (.invokevirtual 15, 3) := by decide +kernel
theorem d_Keys_isAtHand_5 : decode b_Keys_isAtHand 5 = .ok (.ifCond .eq 16, 3) := by decide +kernel
theorem d_Keys_isAtHand_8 : decode b_Keys_isAtHand 8 = .ok (.aload_n 0, 1) := by decide +kernel
theorem d_Keys_isAtHand_9 : decode b_Keys_isAtHand 9 = .ok (.getfield 9, 3) := by decide +kernel
theorem d_Keys_isAtHand_12 : decode b_Keys_isAtHand 12 = .ok (.iload_n 1, 1) := by decide +kernel
theorem d_Keys_isAtHand_13 : decode b_Keys_isAtHand 13 = .ok (.baload, 1) := by decide +kernel
theorem d_Keys_isAtHand_14 : decode b_Keys_isAtHand 14 = .ok (.ifCond .eq 7, 3) := by decide +kernel
theorem d_Keys_isAtHand_17 : decode b_Keys_isAtHand 17 = .ok (.iconst 1, 1) := by decide +kernel
theorem d_Keys_isAtHand_18 : decode b_Keys_isAtHand 18 = .ok (.goto 4, 3) := by decide +kernel
theorem d_Keys_isAtHand_21 : decode b_Keys_isAtHand 21 = .ok (.iconst 0, 1) := by decide +kernel
theorem d_Keys_isAtHand_22 : decode b_Keys_isAtHand 22 = .ok (.ireturn, 1) := by decide +kernel
theorem d_Keys_put_0 : decode b_Keys_put 0 = .ok (.aload_n 0, 1) := by decide +kernel
theorem d_Keys_put_1 : decode b_Keys_put 1 = .ok (.iload_n 1, 1) := by decide +kernel
theorem d_Keys_put_2 : decode b_Keys_put 2 = .ok (.invokevirtual 15, 3) := by decide +kernel
theorem d_Keys_put_5 : decode b_Keys_put 5 = .ok (.ifCond .eq 38, 3) := by decide +kernel
theorem d_Keys_put_8 : decode b_Keys_put 8 = .ok (.aload_n 0, 1) := by decide +kernel
theorem d_Keys_put_9 : decode b_Keys_put 9 = .ok (.getfield 9, 3) := by decide +kernel
theorem d_Keys_put_12 : decode b_Keys_put 12 = .ok (.iload_n 1, 1) := by decide +kernel
theorem d_Keys_put_13 : decode b_Keys_put 13 = .ok (.baload, 1) := by decide +kernel
theorem d_Keys_put_14 : decode b_Keys_put 14 = .ok (.iload_n 2, 1) := by decide +kernel
theorem d_Keys_put_15 : decode b_Keys_put 15 = .ok (.if_icmp .eq 28, 3) := by decide +kernel
theorem d_Keys_put_18 : decode b_Keys_put 18 = .ok (.aload_n 0, 1) := by decide +kernel
theorem d_Keys_put_19 : decode b_Keys_put 19 = .ok (.getfield 9, 3) := by decide +kernel
theorem d_Keys_put_22 : decode b_Keys_put 22 = .ok (.iload_n 1, 1) := by decide +kernel
theorem d_Keys_put_23 : decode b_Keys_put 23 = .ok (.iload_n 2, 1) := by decide +kernel
theorem d_Keys_put_24 : decode b_Keys_put 24 = .ok (.bastore, 1) := by decide +kernel
theorem d_Keys_put_25 : decode b_Keys_put 25 = .ok (.aload_n 0, 1) := by decide +kernel
theorem d_Keys_put_26 : decode b_Keys_put 26 = .ok (.dup, 1) := by decide +kernel
theorem d_Keys_put_27 : decode b_Keys_put 27 = .ok (.getfield 19, 3) := by decide +kernel
theorem d_Keys_put_30 : decode b_Keys_put 30 = .ok (.iload_n 2, 1) := by decide +kernel
theorem d_Keys_put_31 : decode b_Keys_put 31 = .ok (.ifCond .eq 7, 3) := by decide +kernel
theorem d_Keys_put_34 : decode b_Keys_put 34 = .ok (.iconst 1, 1) := by decide +kernel
theorem d_Keys_put_35 : decode b_Keys_put 35 = .ok (.goto 4, 3) := by decide +kernel
theorem d_Keys_put_38 : decode b_Keys_put 38 = .ok (.iconst (-1), 1) := by decide +kernel
theorem d_Keys_put_39 : decode b_Keys_put 39 = .ok (.iadd, 1) := by decide +kernel
theorem d_Keys_put_40 : decode b_Keys_put 40 = .ok (.putfield 19, 3) := by decide +kernel
theorem d_Keys_put_43 : decode b_Keys_put 43 = .ok (.return_, 1) := by decide +kernel
theorem d_Rooms_init_0 : decode b_Rooms_init 0 = .ok (.aload_n 0, 1) := by decide +kernel
theorem d_Rooms_init_1 : decode b_Rooms_init 1 = .ok (.invokespecial 3, 3) := by decide +kernel
theorem d_Rooms_init_4 : decode b_Rooms_init 4 = .ok (.aload_n 0, 1) := by decide +kernel
theorem d_Rooms_init_5 : decode b_Rooms_init 5 = .ok (.bipush 40, 2) := by decide +kernel
theorem d_Rooms_init_7 : decode b_Rooms_init 7 = .ok (.newarray .int, 2) := by decide +kernel
theorem d_Rooms_init_9 : decode b_Rooms_init 9 = .ok (.putfield 9, 3) := by decide +kernel
theorem d_Rooms_init_12 : decode b_Rooms_init 12 = .ok (.aload_n 0, 1) := by decide +kernel
theorem d_Rooms_init_13 : decode b_Rooms_init 13 = .ok (.bipush 40, 2) := by decide +kernel
theorem d_Rooms_init_15 : decode b_Rooms_init 15 = .ok (.newarray .int, 2) := by decide +kernel
theorem d_Rooms_init_17 : decode b_Rooms_init 17 = .ok (.putfield 15, 3) := by decide +kernel
theorem d_Rooms_init_20 : decode b_Rooms_init 20 = .ok (.aload_n 0, 1) := by decide +kernel
theorem d_Rooms_init_21 : decode b_Rooms_init 21 = .ok (.bipush 40, 2) := by decide +kernel
theorem d_Rooms_init_23 : decode b_Rooms_init 23 = .ok (.newarray .int, 2) := by decide +kernel
theorem d_Rooms_init_25 : decode b_Rooms_init 25 = .ok (.putfield 18, 3) := by decide +kernel
theorem d_Rooms_init_28 : decode b_Rooms_init 28 = .ok (.return_, 1) := by decide +kernel
theorem d_Rooms_add_0 : decode b_Rooms_add 0 = .ok (.aload_n 0, 1) := by decide +kernel
theorem d_Rooms_add_1 : decode b_Rooms_add 1 = .ok (.getfield 21, 3) := by decide +kernel
theorem d_Rooms_add_4 : decode b_Rooms_add 4 = .ok (.bipush 40, 2) := by decide +kernel
theorem d_Rooms_add_6 : decode b_Rooms_add 6 = .ok (.if_icmp .lt 5, 3) := by decide +kernel
theorem d_Rooms_add_9 : decode b_Rooms_add 9 = .ok (.iconst (-1), 1) := by decide +kernel
theorem d_Rooms_add_10 : decode b_Rooms_add 10 = .ok (.ireturn, 1) := by decide +kernel
theorem d_Rooms_add_11 : decode b_Rooms_add 11 = .ok (.aload_n 0, 1) := by decide +kernel
theorem d_Rooms_add_12 : decode b_Rooms_add 12 = .ok (.getfield 9, 3) := by decide +kernel
theorem d_Rooms_add_15 : decode b_Rooms_add 15 = .ok (.aload_n 0, 1) := by decide +kernel
theorem d_Rooms_add_16 : decode b_Rooms_add 16 = .ok (.getfield 21, 3) := by decide +kernel
theorem d_Rooms_add_19 : decode b_Rooms_add 19 = .ok (.iload_n 1, 1) := by decide +kernel
theorem d_Rooms_add_20 : decode b_Rooms_add 20 = .ok (.iastore, 1) := by decide +kernel
theorem d_Rooms_add_21 : decode b_Rooms_add 21 = .ok (.aload_n 0, 1) := by decide +kernel
theorem d_Rooms_add_22 : decode b_Rooms_add 22 = .ok (.getfield 15, 3) := by decide +kernel
theorem d_Rooms_add_25 : decode b_Rooms_add 25 = .ok (.aload_n 0, 1) := by decide +kernel
theorem d_Rooms_add_26 : decode b_Rooms_add 26 = .ok (.getfield 21, 3) := by decide +kernel
theorem d_Rooms_add_29 : decode b_Rooms_add 29 = .ok (.iload_n 2, 1) := by decide +kernel
theorem d_Rooms_add_30 : decode b_Rooms_add 30 = .ok (.iastore, 1) := by decide +kernel
theorem d_Rooms_add_31 : decode b_Rooms_add 31 = .ok (.aload_n 0, 1) := by decide +kernel
theorem d_Rooms_add_32 : decode b_Rooms_add 32 = .ok (.dup, 1) := by decide +kernel
theorem d_Rooms_add_33 : decode b_Rooms_add 33 = .ok (.getfield 21, 3) := by decide +kernel
theorem d_Rooms_add_36 : decode b_Rooms_add 36 = .ok (.iconst 1, 1) := by decide +kernel
theorem d_Rooms_add_37 : decode b_Rooms_add 37 = .ok (.iadd, 1) := by decide +kernel
theorem d_Rooms_add_38 : decode b_Rooms_add 38 = .ok (.putfield 21, 3) := by decide +kernel
theorem d_Rooms_add_41 : decode b_Rooms_add 41 = .ok (.aload_n 0, 1) := by decide +kernel
theorem d_Rooms_add_42 : decode b_Rooms_add 42 = .ok (.getfield 21, 3) := by decide +kernel
theorem d_Rooms_add_45 : decode b_Rooms_add 45 = .ok (.iconst 1, 1) := by decide +kernel
theorem d_Rooms_add_46 : decode b_Rooms_add 46 = .ok (.isub, 1) := by decide +kernel
theorem d_Rooms_add_47 : decode b_Rooms_add 47 = .ok (.ireturn, 1) := by decide +kernel
theorem d_Rooms_has_0 : decode b_Rooms_has 0 = .ok (.iload_n 1, 1) := by decide +kernel
theorem d_Rooms_has_1 : decode b_Rooms_has 1 = .ok (.ifCond .lt 15, 3) := by decide +kernel
theorem d_Rooms_has_4 : decode b_Rooms_has 4 = .ok (.iload_n 1, 1) := by decide +kernel
theorem d_Rooms_has_5 : decode b_Rooms_has 5 = .ok (.aload_n 0, 1) := by decide +kernel
theorem d_Rooms_has_6 : decode b_Rooms_has 6 = .ok (.getfield 21, 3) := by decide +kernel
theorem d_Rooms_has_9 : decode b_Rooms_has 9 = .ok (.if_icmp .ge 7, 3) := by decide +kernel
theorem d_Rooms_has_12 : decode b_Rooms_has 12 = .ok (.iconst 1, 1) := by decide +kernel
theorem d_Rooms_has_13 : decode b_Rooms_has 13 = .ok (.goto 4, 3) := by decide +kernel
theorem d_Rooms_has_16 : decode b_Rooms_has 16 = .ok (.iconst 0, 1) := by decide +kernel
theorem d_Rooms_has_17 : decode b_Rooms_has 17 = .ok (.ireturn, 1) := by decide +kernel
theorem d_Rooms_floorOf_0 : decode b_Rooms_floorOf 0 = .ok (.aload_n 0, 1) := by decide +kernel
theorem d_Rooms_floorOf_1 : decode b_Rooms_floorOf 1 = .ok (.iload_n 1, 1) := by decide +kernel
theorem d_Rooms_floorOf_2 : decode b_Rooms_floorOf 2 = .ok (.invokevirtual 25, 3) := by decide +kernel
theorem d_Rooms_floorOf_5 : decode b_Rooms_floorOf 5 = .ok (.ifCond .eq 12, 3) := by decide +kernel
theorem d_Rooms_floorOf_8 : decode b_Rooms_floorOf 8 = .ok (.aload_n 0, 1) := by decide +kernel
theorem d_Rooms_floorOf_9 : decode b_Rooms_floorOf 9 = .ok (.getfield 9, 3) := by decide +kernel
theorem d_Rooms_floorOf_12 : decode b_Rooms_floorOf 12 = .ok (.iload_n 1, 1) := by decide +kernel
theorem d_Rooms_floorOf_13 : decode b_Rooms_floorOf 13 = .ok (.iaload, 1) := by decide +kernel
theorem d_Rooms_floorOf_14 : decode b_Rooms_floorOf 14 = .ok (.goto 4, 3) := by decide +kernel
theorem d_Rooms_floorOf_17 : decode b_Rooms_floorOf 17 = .ok (.iconst (-1), 1) := by decide +kernel
theorem d_Rooms_floorOf_18 : decode b_Rooms_floorOf 18 = .ok (.ireturn, 1) := by decide +kernel
theorem d_Rooms_isOfKind_0 : decode b_Rooms_isOfKind 0 = .ok (.aload_n 0, 1) := by decide +kernel
theorem d_Rooms_isOfKind_1 : decode b_Rooms_isOfKind 1 = .ok (.iload_n 1, 1) := by decide +kernel
theorem d_Rooms_isOfKind_2 : decode b_Rooms_isOfKind 2 = .ok (.invokevirtual 25, 3) := by decide +kernel
theorem d_Rooms_isOfKind_5 : decode b_Rooms_isOfKind 5 = .ok (.ifCond .eq 17, 3) := by decide +kernel
theorem d_Rooms_isOfKind_8 : decode b_Rooms_isOfKind 8 = .ok (.aload_n 0, 1) := by decide +kernel
theorem d_Rooms_isOfKind_9 : decode b_Rooms_isOfKind 9 = .ok (.getfield 15, 3) := by decide +kernel
theorem d_Rooms_isOfKind_12 : decode b_Rooms_isOfKind 12 = .ok (.iload_n 1, 1) := by decide +kernel
theorem d_Rooms_isOfKind_13 : decode b_Rooms_isOfKind 13 = .ok (.iaload, 1) := by decide +kernel
theorem d_Rooms_isOfKind_14 : decode b_Rooms_isOfKind 14 = .ok (.iload_n 2, 1) := by decide +kernel
theorem d_Rooms_isOfKind_15 : decode b_Rooms_isOfKind 15 = .ok (.if_icmp .ne 7, 3) := by decide +kernel
theorem d_Rooms_isOfKind_18 : decode b_Rooms_isOfKind 18 = .ok (.iconst 1, 1) := by decide +kernel
theorem d_Rooms_isOfKind_19 : decode b_Rooms_isOfKind 19 = .ok (.goto 4, 3) := by decide +kernel
theorem d_Rooms_isOfKind_22 : decode b_Rooms_isOfKind 22 = .ok (.iconst 0, 1) := by decide +kernel
theorem d_Rooms_isOfKind_23 : decode b_Rooms_isOfKind 23 = .ok (.ireturn, 1) := by decide +kernel
theorem d_Rooms_hasHazardOf_0 : decode b_Rooms_hasHazardOf 0 = .ok (.aload_n 0, 1) := by decide +kernel
theorem d_Rooms_hasHazardOf_1 : decode b_Rooms_hasHazardOf 1 = .ok (.iload_n 1, 1) := by decide +kernel
theorem d_Rooms_hasHazardOf_2 : decode b_Rooms_hasHazardOf 2 = .ok (.invokevirtual 25, 3) := by decide +kernel
theorem d_Rooms_hasHazardOf_5 : decode b_Rooms_hasHazardOf 5 = .ok (.ifCond .eq 18, 3) := by decide +kernel
theorem d_Rooms_hasHazardOf_8 : decode b_Rooms_hasHazardOf 8 = .ok (.aload_n 0, 1) := by decide +kernel
theorem d_Rooms_hasHazardOf_9 : decode b_Rooms_hasHazardOf 9 = .ok (.getfield 18, 3) := by decide +kernel
theorem d_Rooms_hasHazardOf_12 : decode b_Rooms_hasHazardOf 12 = .ok (.iload_n 1, 1) := by decide +kernel
theorem d_Rooms_hasHazardOf_13 : decode b_Rooms_hasHazardOf 13 = .ok (.iaload, 1) := by decide +kernel
theorem d_Rooms_hasHazardOf_14 : decode b_Rooms_hasHazardOf 14 = .ok (.iload_n 2, 1) := by decide +kernel
theorem d_Rooms_hasHazardOf_15 : decode b_Rooms_hasHazardOf 15 = .ok (.iand, 1) := by decide +kernel
theorem d_Rooms_hasHazardOf_16 : decode b_Rooms_hasHazardOf 16 = .ok (.ifCond .eq 7, 3) := by decide +kernel
theorem d_Rooms_hasHazardOf_19 : decode b_Rooms_hasHazardOf 19 = .ok (.iconst 1, 1) := by decide +kernel
theorem d_Rooms_hasHazardOf_20 : decode b_Rooms_hasHazardOf 20 = .ok (.goto 4, 3) := by decide +kernel
theorem d_Rooms_hasHazardOf_23 : decode b_Rooms_hasHazardOf 23 = .ok (.iconst 0, 1) := by decide +kernel
theorem d_Rooms_hasHazardOf_24 : decode b_Rooms_hasHazardOf 24 = .ok (.ireturn, 1) := by decide +kernel
theorem d_Rooms_setHazards_0 : decode b_Rooms_setHazards 0 = .ok (.aload_n 0, 1) := by decide +kernel
theorem d_Rooms_setHazards_1 : decode b_Rooms_setHazards 1 = .ok (.iload_n 1, 1) := by decide +kernel
theorem d_Rooms_setHazards_2 : decode b_Rooms_setHazards 2 = .ok (.invokevirtual 25, 3) := by decide +kernel
theorem d_Rooms_setHazards_5 : decode b_Rooms_setHazards 5 = .ok (.ifCond .eq 10, 3) := by decide +kernel
theorem d_Rooms_setHazards_8 : decode b_Rooms_setHazards 8 = .ok (.aload_n 0, 1) := by decide +kernel
theorem d_Rooms_setHazards_9 : decode b_Rooms_setHazards 9 = .ok (.getfield 18, 3) := by decide +kernel
theorem d_Rooms_setHazards_12 : decode b_Rooms_setHazards 12 = .ok (.iload_n 1, 1) := by decide +kernel
theorem d_Rooms_setHazards_13 : decode b_Rooms_setHazards 13 = .ok (.iload_n 2, 1) := by decide +kernel
theorem d_Rooms_setHazards_14 : decode b_Rooms_setHazards 14 = .ok (.iastore, 1) := by decide +kernel
theorem d_Rooms_setHazards_15 : decode b_Rooms_setHazards 15 = .ok (.return_, 1) := by decide +kernel
theorem d_Route_init_0 : decode b_Route_init 0 = .ok (.aload_n 0, 1) := by decide +kernel
theorem d_Route_init_1 : decode b_Route_init 1 = .ok (.invokespecial 3, 3) := by decide +kernel
theorem d_Route_init_4 : decode b_Route_init 4 = .ok (.aload_n 0, 1) := by decide +kernel
theorem d_Route_init_5 : decode b_Route_init 5 = .ok (.bipush 40, 2) := by decide +kernel
theorem d_Route_init_7 : decode b_Route_init 7 = .ok (.newarray .int, 2) := by decide +kernel
theorem d_Route_init_9 : decode b_Route_init 9 = .ok (.putfield 9, 3) := by decide +kernel
theorem d_Route_init_12 : decode b_Route_init 12 = .ok (.aload_n 0, 1) := by decide +kernel
theorem d_Route_init_13 : decode b_Route_init 13 = .ok (.iconst (-1), 1) := by decide +kernel
theorem d_Route_init_14 : decode b_Route_init 14 = .ok (.putfield 15, 3) := by decide +kernel
theorem d_Route_init_17 : decode b_Route_init 17 = .ok (.return_, 1) := by decide +kernel
theorem d_Route_restart_0 : decode b_Route_restart 0 = .ok (.aload_n 0, 1) := by decide +kernel
theorem d_Route_restart_1 : decode b_Route_restart 1 = .ok (.iconst 0, 1) := by decide +kernel
theorem d_Route_restart_2 : decode b_Route_restart 2 = .ok (.putfield 19, 3) := by decide +kernel
theorem d_Route_restart_5 : decode b_Route_restart 5 = .ok (.aload_n 0, 1) := by decide +kernel
theorem d_Route_restart_6 : decode b_Route_restart 6 = .ok (.iload_n 2, 1) := by decide +kernel
theorem d_Route_restart_7 : decode b_Route_restart 7 = .ok (.putfield 22, 3) := by decide +kernel
theorem d_Route_restart_10 : decode b_Route_restart 10 = .ok (.aload_n 0, 1) := by decide +kernel
theorem d_Route_restart_11 : decode b_Route_restart 11 = .ok (.iload_n 1, 1) := by decide +kernel
theorem d_Route_restart_12 : decode b_Route_restart 12 = .ok (.putfield 15, 3) := by decide +kernel
theorem d_Route_restart_15 : decode b_Route_restart 15 = .ok (.return_, 1) := by decide +kernel
theorem d_Route_addBefore_0 : decode b_Route_addBefore 0 = .ok (.aload_n 0, 1) := by decide +kernel
theorem d_Route_addBefore_1 : decode b_Route_addBefore 1 = .ok (.getfield 19, 3) := by decide +kernel
theorem d_Route_addBefore_4 : decode b_Route_addBefore 4 = .ok (.bipush 40, 2) := by decide +kernel
theorem d_Route_addBefore_6 : decode b_Route_addBefore 6 = .ok (.if_icmp .ge 23, 3) := by decide +kernel
theorem d_Route_addBefore_9 : decode b_Route_addBefore 9 = .ok (.aload_n 0, 1) := by decide +kernel
theorem d_Route_addBefore_10 : decode b_Route_addBefore 10 = .ok (.getfield 9, 3) := by decide +kernel
theorem d_Route_addBefore_13 : decode b_Route_addBefore 13 = .ok (.aload_n 0, 1) := by decide +kernel
theorem d_Route_addBefore_14 : decode b_Route_addBefore 14 = .ok (.getfield 19, 3) := by decide +kernel
theorem d_Route_addBefore_17 : decode b_Route_addBefore 17 = .ok (.iload_n 1, 1) := by decide +kernel
theorem d_Route_addBefore_18 : decode b_Route_addBefore 18 = .ok (.iastore, 1) := by decide +kernel
theorem d_Route_addBefore_19 : decode b_Route_addBefore 19 = .ok (.aload_n 0, 1) := by decide +kernel
theorem d_Route_addBefore_20 : decode b_Route_addBefore 20 = .ok (.dup, 1) := by decide +kernel
theorem d_Route_addBefore_21 : decode b_Route_addBefore 21 = .ok (.getfield 19, 3) := by decide +kernel
theorem d_Route_addBefore_24 : decode b_Route_addBefore 24 = .ok (.iconst 1, 1) := by decide +kernel
theorem d_Route_addBefore_25 : decode b_Route_addBefore 25 = .ok (.iadd, 1) := by decide +kernel
theorem d_Route_addBefore_26 : decode b_Route_addBefore 26 = .ok (.putfield 19, 3) := by decide +kernel
theorem d_Route_addBefore_29 : decode b_Route_addBefore 29 = .ok (.return_, 1) := by decide +kernel
theorem d_Route_doorAt_0 : decode b_Route_doorAt 0 = .ok (.iload_n 1, 1) := by decide +kernel
theorem d_Route_doorAt_1 : decode b_Route_doorAt 1 = .ok (.ifCond .lt 27, 3) := by decide +kernel
theorem d_Route_doorAt_4 : decode b_Route_doorAt 4 = .ok (.iload_n 1, 1) := by decide +kernel
theorem d_Route_doorAt_5 : decode b_Route_doorAt 5 = .ok (.aload_n 0, 1) := by decide +kernel
theorem d_Route_doorAt_6 : decode b_Route_doorAt 6 = .ok (.getfield 19, 3) := by decide +kernel
theorem d_Route_doorAt_9 : decode b_Route_doorAt 9 = .ok (.if_icmp .ge 19, 3) := by decide +kernel
theorem d_Route_doorAt_12 : decode b_Route_doorAt 12 = .ok (.aload_n 0, 1) := by decide +kernel
theorem d_Route_doorAt_13 : decode b_Route_doorAt 13 = .ok (.getfield 9, 3) := by decide +kernel
theorem d_Route_doorAt_16 : decode b_Route_doorAt 16 = .ok (.aload_n 0, 1) := by decide +kernel
theorem d_Route_doorAt_17 : decode b_Route_doorAt 17 = .ok (.getfield 19, 3) := by decide +kernel
theorem d_Route_doorAt_20 : decode b_Route_doorAt 20 = .ok (.iconst 1, 1) := by decide +kernel
theorem d_Route_doorAt_21 : decode b_Route_doorAt 21 = .ok (.isub, 1) := by decide +kernel
theorem d_Route_doorAt_22 : decode b_Route_doorAt 22 = .ok (.iload_n 1, 1) := by decide +kernel
theorem d_Route_doorAt_23 : decode b_Route_doorAt 23 = .ok (.isub, 1) := by decide +kernel
theorem d_Route_doorAt_24 : decode b_Route_doorAt 24 = .ok (.iaload, 1) := by decide +kernel
theorem d_Route_doorAt_25 : decode b_Route_doorAt 25 = .ok (.goto 4, 3) := by decide +kernel
theorem d_Route_doorAt_28 : decode b_Route_doorAt 28 = .ok (.iconst (-1), 1) := by decide +kernel
theorem d_Route_doorAt_29 : decode b_Route_doorAt 29 = .ok (.ireturn, 1) := by decide +kernel
theorem d_Search_init_0 : decode b_Search_init 0 = .ok (.aload_n 0, 1) := by decide +kernel
theorem d_Search_init_1 : decode b_Search_init 1 = .ok (.invokespecial 3, 3) := by decide +kernel
theorem d_Search_init_4 : decode b_Search_init 4 = .ok (.aload_n 0, 1) := by decide +kernel
theorem d_Search_init_5 : decode b_Search_init 5 = .ok (.bipush 40, 2) := by decide +kernel
theorem d_Search_init_7 : decode b_Search_init 7 = .ok (.newarray .int, 2) := by decide +kernel
theorem d_Search_init_9 : decode b_Search_init 9 = .ok (.putfield 9, 3) := by decide +kernel
theorem d_Search_init_12 : decode b_Search_init 12 = .ok (.aload_n 0, 1) := by decide +kernel
theorem d_Search_init_13 : decode b_Search_init 13 = .ok (.aload_n 1, 1) := by decide +kernel
theorem d_Search_init_14 : decode b_Search_init 14 = .ok (.putfield 15, 3) := by decide +kernel
theorem d_Search_init_17 : decode b_Search_init 17 = .ok (.aload_n 0, 1) := by decide +kernel
theorem d_Search_init_18 : decode b_Search_init 18 = .ok (.aload_n 2, 1) := by decide +kernel
theorem d_Search_init_19 : decode b_Search_init 19 = .ok (.putfield 19, 3) := by decide +kernel
theorem d_Search_init_22 : decode b_Search_init 22 = .ok (.aload_n 0, 1) := by decide +kernel
theorem d_Search_init_23 : decode b_Search_init 23 = .ok (.aload_n 3, 1) := by decide +kernel
theorem d_Search_init_24 : decode b_Search_init 24 = .ok (.putfield 23, 3) := by decide +kernel
theorem d_Search_init_27 : decode b_Search_init 27 = .ok (.return_, 1) := by decide +kernel
theorem d_Search_spreadFromRoom_0 : decode b_Search_spreadFromRoom 0 = .ok (.aload_n 0, 1) := by decide +kernel
theorem d_Search_spreadFromRoom_1 : decode b_Search_spreadFromRoom 1 = .ok (.getfield 9, 3) := by decide +kernel
theorem d_Search_spreadFromRoom_4 : decode b_Search_spreadFromRoom 4 = .ok (.ldc 27, 2) := by decide +kernel
theorem d_Search_spreadFromRoom_6 : decode b_Search_spreadFromRoom 6 = .ok (.invokestatic 28, 3) := by decide +kernel
theorem d_Search_spreadFromRoom_9 : decode b_Search_spreadFromRoom 9 = .ok (.aload_n 0, 1) := by decide +kernel
theorem d_Search_spreadFromRoom_10 : decode b_Search_spreadFromRoom 10 = .ok (.getfield 15, 3) := by decide +kernel
theorem d_Search_spreadFromRoom_13 : decode b_Search_spreadFromRoom 13 = .ok (.iload_n 1, 1) := by decide +kernel
theorem d_Search_spreadFromRoom_14 : decode b_Search_spreadFromRoom 14 = .ok (.invokevirtual 34, 3) := by decide +kernel
theorem d_Search_spreadFromRoom_17 : decode b_Search_spreadFromRoom 17 = .ok (.ifCond .eq 10, 3) := by decide +kernel
theorem d_Search_spreadFromRoom_20 : decode b_Search_spreadFromRoom 20 = .ok (.aload_n 0, 1) := by decide +kernel
theorem d_Search_spreadFromRoom_21 : decode b_Search_spreadFromRoom 21 = .ok (.getfield 9, 3) := by decide +kernel
theorem d_Search_spreadFromRoom_24 : decode b_Search_spreadFromRoom 24 = .ok (.iload_n 1, 1) := by decide +kernel
theorem d_Search_spreadFromRoom_25 : decode b_Search_spreadFromRoom 25 = .ok (.iconst 0, 1) := by decide +kernel
theorem d_Search_spreadFromRoom_26 : decode b_Search_spreadFromRoom 26 = .ok (.iastore, 1) := by decide +kernel
theorem d_Search_spreadFromRoom_27 : decode b_Search_spreadFromRoom 27 = .ok (.aload_n 0, 1) := by decide +kernel
theorem d_Search_spreadFromRoom_28 : decode b_Search_spreadFromRoom 28 = .ok (.iload_n 2, 1) := by decide +kernel
theorem d_Search_spreadFromRoom_29 : decode b_Search_spreadFromRoom 29 = .ok (.invokevirtual 40, 3) := by decide +kernel
theorem d_Search_spreadFromRoom_32 : decode b_Search_spreadFromRoom 32 = .ok (.return_, 1) := by decide +kernel
theorem d_Search_spreadFromKind_0 : decode b_Search_spreadFromKind 0 = .ok (.iconst 0, 1) := by decide +kernel
theorem d_Search_spreadFromKind_1 : decode b_Search_spreadFromKind 1 = .ok (.istore_n 2, 1) := by decide +kernel
theorem d_Search_spreadFromKind_2 : decode b_Search_spreadFromKind 2 = .ok (.iload_n 2, 1) := by decide +kernel
theorem d_Search_spreadFromKind_3 : decode b_Search_spreadFromKind 3 = .ok (.bipush 40, 2) := by decide +kernel
theorem d_Search_spreadFromKind_5 : decode b_Search_spreadFromKind 5 = .ok (.if_icmp .ge 33, 3) := by decide +kernel
theorem d_Search_spreadFromKind_8 : decode b_Search_spreadFromKind 8 = .ok (.aload_n 0, 1) := by decide +kernel
theorem d_Search_spreadFromKind_9 : decode b_Search_spreadFromKind 9 = .ok (.getfield 9, 3) := by decide +kernel
theorem d_Search_spreadFromKind_12 : decode b_Search_spreadFromKind 12 = .ok (.iload_n 2, 1) := by decide +kernel
theorem d_Search_spreadFromKind_13 : decode b_Search_spreadFromKind 13 = .ok (.aload_n 0, 1) := by decide +kernel
theorem d_Search_spreadFromKind_14 : decode b_Search_spreadFromKind 14 = .ok (.getfield 15, 3) := by decide +kernel
theorem d_Search_spreadFromKind_17 : decode b_Search_spreadFromKind 17 = .ok (.iload_n 2, 1) := by decide +kernel
theorem d_Search_spreadFromKind_18 : decode b_Search_spreadFromKind 18 = .ok (.iload_n 1, 1) := by decide +kernel
theorem d_Search_spreadFromKind_19 : decode b_Search_spreadFromKind 19 = .ok (.invokevirtual 44, 3) := by decide +kernel
theorem d_Search_spreadFromKind_22 : decode b_Search_spreadFromKind 22 = .ok (.ifCond .eq 7, 3) := by decide +kernel
theorem d_Search_spreadFromKind_25 : decode b_Search_spreadFromKind 25 = .ok (.iconst 0, 1) := by decide +kernel
theorem d_Search_spreadFromKind_26 : decode b_Search_spreadFromKind 26 = .ok (.goto 5, 3) := by decide +kernel
theorem d_Search_spreadFromKind_29 : decode b_Search_spreadFromKind 29 = .ok (.ldc 27, 2) := by decide +kernel
theorem d_Search_spreadFromKind_31 : decode b_Search_spreadFromKind 31 = .ok (.iastore, 1) := by decide +kernel
theorem d_Search_spreadFromKind_32 : decode b_Search_spreadFromKind 32 = .ok (.iinc 2 1, 3) := by decide +kernel
theorem d_Search_spreadFromKind_35 : decode b_Search_spreadFromKind 35 = .ok (.goto (-33), 3) := by decide +kernel
theorem d_Search_spreadFromKind_38 : decode b_Search_spreadFromKind 38 = .ok (.aload_n 0, 1) := by decide +kernel
theorem d_Search_spreadFromKind_39 : decode b_Search_spreadFromKind 39 = .ok (.iconst 0, 1) := by decide +kernel
theorem d_Search_spreadFromKind_40 : decode b_Search_spreadFromKind 40 = .ok (.invokevirtual 40, 3) := by decide +kernel
theorem d_Search_spreadFromKind_43 : decode b_Search_spreadFromKind 43 = .ok (.return_, 1) := by decide +kernel
theorem d_Search_spread_0 : decode b_Search_spread 0 = .ok (.iconst 1, 1) := by decide +kernel
theorem d_Search_spread_1 : decode b_Search_spread 1 = .ok (.istore_n 2, 1) := by decide +kernel
theorem d_Search_spread_2 : decode b_Search_spread 2 = .ok (.iconst 0, 1) := by decide +kernel
theorem d_Search_spread_3 : decode b_Search_spread 3 = .ok (.istore_n 3, 1) := by decide +kernel
theorem d_Search_spread_4 : decode b_Search_spread 4 = .ok (.iload_n 2, 1) := by decide +kernel
theorem d_Search_spread_5 : decode b_Search_spread 5 = .ok (.ifCond .eq 21, 3) := by decide +kernel
theorem d_Search_spread_8 : decode b_Search_spread 8 = .ok (.iload_n 3, 1) := by decide +kernel
theorem d_Search_spread_9 : decode b_Search_spread 9 = .ok (.bipush 40, 2) := by decide +kernel
theorem d_Search_spread_11 : decode b_Search_spread 11 = .ok (.if_icmp .ge 15, 3) := by decide +kernel
theorem d_Search_spread_14 : decode b_Search_spread 14 = .ok (.aload_n 0, 1) := by decide +kernel
theorem d_Search_spread_15 : decode b_Search_spread 15 = .ok (.iload_n 1, 1) := by decide +kernel
theorem d_Search_spread_16 : decode b_Search_spread 16 = .ok (.invokevirtual 48, 3) := by decide +kernel
theorem d_Search_spread_19 : decode b_Search_spread 19 = .ok (.istore_n 2, 1) := by decide +kernel
theorem d_Search_spread_20 : decode b_Search_spread 20 = .ok (.iinc 3 1, 3) := by decide +kernel
theorem d_Search_spread_23 : decode b_Search_spread 23 = .ok (.goto (-19), 3) := by decide +kernel
theorem d_Search_spread_26 : decode b_Search_spread 26 = .ok (.return_, 1) := by decide +kernel
theorem d_Search_spreadOverAllDoors_0 : decode b_Search_spreadOverAllDoors 0 = .ok (.iconst 0, 1) := by decide +kernel
theorem d_Search_spreadOverAllDoors_1 : decode b_Search_spreadOverAllDoors 1 = .ok (.istore_n 2, 1) := by decide +kernel
theorem d_Search_spreadOverAllDoors_2 : decode b_Search_spreadOverAllDoors 2 = .ok (.iconst 0, 1) := by decide +kernel
theorem d_Search_spreadOverAllDoors_3 : decode b_Search_spreadOverAllDoors 3 = .ok (.istore_n 3, 1) := by decide +kernel
theorem d_Search_spreadOverAllDoors_4 : decode b_Search_spreadOverAllDoors 4 = .ok (.iload_n 3, 1) := by decide +kernel
theorem d_Search_spreadOverAllDoors_5 : decode b_Search_spreadOverAllDoors 5 = .ok (.aload_n 0, 1) := by decide +kernel
theorem d_Search_spreadOverAllDoors_6 : decode b_Search_spreadOverAllDoors 6 = .ok (.getfield 19, 3) := by decide +kernel
theorem d_Search_spreadOverAllDoors_9 : decode b_Search_spreadOverAllDoors 9 = .ok (.getfield 51, 3) := by decide +kernel
theorem d_Search_spreadOverAllDoors_12 : decode b_Search_spreadOverAllDoors 12 = .ok (.if_icmp .ge 93, 3) := by decide +kernel
theorem d_Search_spreadOverAllDoors_15 : decode b_Search_spreadOverAllDoors 15 = .ok (.aload_n 0, 1) := by decide +kernel
theorem d_Search_spreadOverAllDoors_16 : decode b_Search_spreadOverAllDoors 16 = .ok (.iload_n 3, 1) := by decide +kernel
theorem d_Search_spreadOverAllDoors_17 : decode b_Search_spreadOverAllDoors 17 = .ok (.invokevirtual 57, 3) := by decide +kernel
theorem d_Search_spreadOverAllDoors_20 : decode b_Search_spreadOverAllDoors 20 = .ok (.ifCond .eq 79, 3) := by decide +kernel
theorem d_Search_spreadOverAllDoors_23 : decode b_Search_spreadOverAllDoors 23 = .ok (.aload_n 0, 1) := by decide +kernel
theorem d_Search_spreadOverAllDoors_24 : decode b_Search_spreadOverAllDoors 24 = .ok (.getfield 19, 3) := by decide +kernel
theorem d_Search_spreadOverAllDoors_27 : decode b_Search_spreadOverAllDoors 27 = .ok (.iload_n 3, 1) := by decide +kernel
theorem d_Search_spreadOverAllDoors_28 : decode b_Search_spreadOverAllDoors 28 = .ok (.invokevirtual 60, 3) := by decide +kernel
theorem d_Search_spreadOverAllDoors_31 : decode b_Search_spreadOverAllDoors 31 = .ok (.istore 4, 2) := by decide +kernel
theorem d_Search_spreadOverAllDoors_33 : decode b_Search_spreadOverAllDoors 33 = .ok (.aload_n 0, 1) := by decide +kernel
theorem d_Search_spreadOverAllDoors_34 : decode b_Search_spreadOverAllDoors 34 = .ok (.getfield 19, 3) := by decide +kernel
theorem d_Search_spreadOverAllDoors_37 : decode b_Search_spreadOverAllDoors 37 = .ok (.iload_n 3, 1) := by decide +kernel
theorem d_Search_spreadOverAllDoors_38 : decode b_Search_spreadOverAllDoors 38 = .ok (.invokevirtual 64, 3) := by decide +kernel
theorem d_Search_spreadOverAllDoors_41 : decode b_Search_spreadOverAllDoors 41 = .ok (.istore 5, 2) := by decide +kernel
theorem d_Search_spreadOverAllDoors_43 : decode b_Search_spreadOverAllDoors 43 = .ok (.aload_n 0, 1) := by decide +kernel
theorem d_Search_spreadOverAllDoors_44 : decode b_Search_spreadOverAllDoors 44 = .ok (.getfield 19, 3) := by decide +kernel
theorem d_Search_spreadOverAllDoors_47 : decode b_Search_spreadOverAllDoors 47 = .ok (.iload_n 3, 1) := by decide +kernel
theorem d_Search_spreadOverAllDoors_48 : decode b_Search_spreadOverAllDoors 48 = .ok (.invokevirtual 67, 3) := by decide +kernel
theorem d_Search_spreadOverAllDoors_51 : decode b_Search_spreadOverAllDoors 51 = .ok (.istore 6, 2) := by decide +kernel
theorem d_Search_spreadOverAllDoors_53 : decode b_Search_spreadOverAllDoors 53 = .ok (.aload_n 0, 1) := by decide +kernel
theorem d_Search_spreadOverAllDoors_54 : decode b_Search_spreadOverAllDoors 54 = .ok (.iload 4, 2) := by decide +kernel
theorem d_Search_spreadOverAllDoors_56 : decode b_Search_spreadOverAllDoors 56 = .ok (.iload 5, 2) := by decide +kernel
theorem d_Search_spreadOverAllDoors_58 : decode b_Search_spreadOverAllDoors 58 = .ok (.iload 6, 2) := by decide +kernel
theorem d_Search_spreadOverAllDoors_60 : decode b_Search_spreadOverAllDoors 60 = .ok (.iload_n 1, 1) := by decide +kernel
theorem d_Search_spreadOverAllDoors_61 : decode b_Search_spreadOverAllDoors 61 = .ok (.invokevirtual 70, 3) := by decide +kernel
theorem d_Search_spreadOverAllDoors_64 : decode b_Search_spreadOverAllDoors 64 = .ok (.istore 7, 2) := by decide +kernel
theorem d_Search_spreadOverAllDoors_66 : decode b_Search_spreadOverAllDoors 66 = .ok (.aload_n 0, 1) := by decide +kernel
theorem d_Search_spreadOverAllDoors_67 : decode b_Search_spreadOverAllDoors 67 = .ok (.iload 5, 2) := by decide +kernel
theorem d_Search_spreadOverAllDoors_69 : decode b_Search_spreadOverAllDoors 69 = .ok (.iload 4, 2) := by decide +kernel
theorem d_Search_spreadOverAllDoors_71 : decode b_Search_spreadOverAllDoors 71 = .ok (.iload 6, 2) := by decide +kernel
theorem d_Search_spreadOverAllDoors_73 : decode b_Search_spreadOverAllDoors 73 = .ok (.iload_n 1, 1) := by decide +kernel
theorem d_Search_spreadOverAllDoors_74 : decode b_Search_spreadOverAllDoors 74 = .ok (.invokevirtual 70, 3) := by decide +kernel
theorem d_Search_spreadOverAllDoors_77 : decode b_Search_spreadOverAllDoors 77 = .ok (.istore 8, 2) := by decide +kernel
theorem d_Search_spreadOverAllDoors_79 : decode b_Search_spreadOverAllDoors 79 = .ok (.iload_n 2, 1) := by decide +kernel
theorem d_Search_spreadOverAllDoors_80 : decode b_Search_spreadOverAllDoors 80 = .ok (.ifCond .ne 13, 3) := by decide +kernel
theorem d_Search_spreadOverAllDoors_83 : decode b_Search_spreadOverAllDoors 83 = .ok (.iload 8, 2) := by decide +kernel
theorem d_Search_spreadOverAllDoors_85 : decode b_Search_spreadOverAllDoors 85 = .ok (.ifCond .ne 8, 3) := by decide +kernel
theorem d_Search_spreadOverAllDoors_88 : decode b_Search_spreadOverAllDoors 88 = .ok (.iload 7, 2) := by decide +kernel
theorem d_Search_spreadOverAllDoors_90 : decode b_Search_spreadOverAllDoors 90 = .ok (.ifCond .eq 7, 3) := by decide +kernel
theorem d_Search_spreadOverAllDoors_93 : decode b_Search_spreadOverAllDoors 93 = .ok (.iconst 1, 1) := by decide +kernel
theorem d_Search_spreadOverAllDoors_94 : decode b_Search_spreadOverAllDoors 94 = .ok (.goto 4, 3) := by decide +kernel
theorem d_Search_spreadOverAllDoors_97 : decode b_Search_spreadOverAllDoors 97 = .ok (.iconst 0, 1) := by decide +kernel
theorem d_Search_spreadOverAllDoors_98 : decode b_Search_spreadOverAllDoors 98 = .ok (.istore_n 2, 1) := by decide +kernel
theorem d_Search_spreadOverAllDoors_99 : decode b_Search_spreadOverAllDoors 99 = .ok (.iinc 3 1, 3) := by decide +kernel
theorem d_Search_spreadOverAllDoors_102 : decode b_Search_spreadOverAllDoors 102 = .ok (.goto (-98), 3) := by decide +kernel
theorem d_Search_spreadOverAllDoors_105 : decode b_Search_spreadOverAllDoors 105 = .ok (.iload_n 2, 1) := by decide +kernel
theorem d_Search_spreadOverAllDoors_106 : decode b_Search_spreadOverAllDoors 106 = .ok (.ireturn, 1) := by decide +kernel
theorem d_Search_lowerCost_0 : decode b_Search_lowerCost 0 = .ok (.aload_n 0, 1) := by decide +kernel
theorem d_Search_lowerCost_1 : decode b_Search_lowerCost 1 = .ok (.iload_n 1, 1) := by decide +kernel
theorem d_Search_lowerCost_2 : decode b_Search_lowerCost 2 = .ok (.invokevirtual 74, 3) := by decide +kernel
theorem d_Search_lowerCost_5 : decode b_Search_lowerCost 5 = .ok (.ifCond .eq 27, 3) := by decide +kernel
theorem d_Search_lowerCost_8 : decode b_Search_lowerCost 8 = .ok (.aload_n 0, 1) := by decide +kernel
theorem d_Search_lowerCost_9 : decode b_Search_lowerCost 9 = .ok (.getfield 15, 3) := by decide +kernel
theorem d_Search_lowerCost_12 : decode b_Search_lowerCost 12 = .ok (.iload_n 2, 1) := by decide +kernel
theorem d_Search_lowerCost_13 : decode b_Search_lowerCost 13 = .ok (.invokevirtual 34, 3) := by decide +kernel
theorem d_Search_lowerCost_16 : decode b_Search_lowerCost 16 = .ok (.ifCond .eq 16, 3) := by decide +kernel
theorem d_Search_lowerCost_19 : decode b_Search_lowerCost 19 = .ok (.aload_n 0, 1) := by decide +kernel
theorem d_Search_lowerCost_20 : decode b_Search_lowerCost 20 = .ok (.getfield 15, 3) := by decide +kernel
theorem d_Search_lowerCost_23 : decode b_Search_lowerCost 23 = .ok (.iload_n 2, 1) := by decide +kernel
theorem d_Search_lowerCost_24 : decode b_Search_lowerCost 24 = .ok (.iload 4, 2) := by decide +kernel
theorem d_Search_lowerCost_26 : decode b_Search_lowerCost 26 = .ok (.invokevirtual 77, 3) := by decide +kernel
theorem d_Search_lowerCost_29 : decode b_Search_lowerCost 29 = .ok (.ifCond .eq 5, 3) := by decide +kernel
theorem d_Search_lowerCost_32 : decode b_Search_lowerCost 32 = .ok (.iconst 0, 1) := by decide +kernel
theorem d_Search_lowerCost_33 : decode b_Search_lowerCost 33 = .ok (.ireturn, 1) := by decide +kernel
theorem d_Search_lowerCost_34 : decode b_Search_lowerCost 34 = .ok (.aload_n 0, 1) := by decide +kernel
theorem d_Search_lowerCost_35 : decode b_Search_lowerCost 35 = .ok (.getfield 9, 3) := by decide +kernel
theorem d_Search_lowerCost_38 : decode b_Search_lowerCost 38 = .ok (.iload_n 1, 1) := by decide +kernel
theorem d_Search_lowerCost_39 : decode b_Search_lowerCost 39 = .ok (.iaload, 1) := by decide +kernel
theorem d_Search_lowerCost_40 : decode b_Search_lowerCost 40 = .ok (.iload_n 3, 1) := by decide +kernel
theorem d_Search_lowerCost_41 : decode b_Search_lowerCost 41 = .ok (.iadd, 1) := by decide +kernel
theorem d_Search_lowerCost_42 : decode b_Search_lowerCost 42 = .ok (.istore 5, 2) := by decide +kernel
theorem d_Search_lowerCost_44 : decode b_Search_lowerCost 44 = .ok (.iload 5, 2) := by decide +kernel
theorem d_Search_lowerCost_46 : decode b_Search_lowerCost 46 = .ok (.aload_n 0, 1) := by decide +kernel
theorem d_Search_lowerCost_47 : decode b_Search_lowerCost 47 = .ok (.getfield 9, 3) := by decide +kernel
theorem d_Search_lowerCost_50 : decode b_Search_lowerCost 50 = .ok (.iload_n 2, 1) := by decide +kernel
theorem d_Search_lowerCost_51 : decode b_Search_lowerCost 51 = .ok (.iaload, 1) := by decide +kernel
theorem d_Search_lowerCost_52 : decode b_Search_lowerCost 52 = .ok (.if_icmp .lt 5, 3) := by decide +kernel
theorem d_Search_lowerCost_55 : decode b_Search_lowerCost 55 = .ok (.iconst 0, 1) := by decide +kernel
theorem d_Search_lowerCost_56 : decode b_Search_lowerCost 56 = .ok (.ireturn, 1) := by decide +kernel
theorem d_Search_lowerCost_57 : decode b_Search_lowerCost 57 = .ok (.aload_n 0, 1) := by decide +kernel
theorem d_Search_lowerCost_58 : decode b_Search_lowerCost 58 = .ok (.getfield 9, 3) := by decide +kernel
theorem d_Search_lowerCost_61 : decode b_Search_lowerCost 61 = .ok (.iload_n 2, 1) := by decide +kernel
theorem d_Search_lowerCost_62 : decode b_Search_lowerCost 62 = .ok (.iload 5, 2) := by decide +kernel
theorem d_Search_lowerCost_64 : decode b_Search_lowerCost 64 = .ok (.iastore, 1) := by decide +kernel
theorem d_Search_lowerCost_65 : decode b_Search_lowerCost 65 = .ok (.iconst 1, 1) := by decide +kernel
theorem d_Search_lowerCost_66 : decode b_Search_lowerCost 66 = .ok (.ireturn, 1) := by decide +kernel
theorem d_Search_isPassed_0 : decode b_Search_isPassed 0 = .ok (.aload_n 0, 1) := by decide +kernel
theorem d_Search_isPassed_1 : decode b_Search_isPassed 1 = .ok (.getfield 19, 3) := by decide +kernel
theorem d_Search_isPassed_4 : decode b_Search_isPassed 4 = .ok (.iload_n 1, 1) := by decide +kernel
theorem d_Search_isPassed_5 : decode b_Search_isPassed 5 = .ok (.invokevirtual 80, 3) := by decide +kernel
theorem d_Search_isPassed_8 : decode b_Search_isPassed 8 = .ok (.istore_n 2, 1) := by decide +kernel
theorem d_Search_isPassed_9 : decode b_Search_isPassed 9 = .ok (.iload_n 2, 1) := by decide +kernel
theorem d_Search_isPassed_10 : decode b_Search_isPassed 10 = .ok (.ifCond .eq 14, 3) := by decide +kernel
theorem d_Search_isPassed_13 : decode b_Search_isPassed 13 = .ok (.aload_n 0, 1) := by decide +kernel
theorem d_Search_isPassed_14 : decode b_Search_isPassed 14 = .ok (.getfield 23, 3) := by decide +kernel
theorem d_Search_isPassed_17 : decode b_Search_isPassed 17 = .ok (.iload_n 2, 1) := by decide +kernel
theorem d_Search_isPassed_18 : decode b_Search_isPassed 18 = .ok (.invokevirtual 83, 3) := by decide +kernel
theorem d_Search_isPassed_21 : decode b_Search_isPassed 21 = .ok (.ifCond .eq 7, 3) := by decide +kernel
theorem d_Search_isPassed_24 : decode b_Search_isPassed 24 = .ok (.iconst 1, 1) := by decide +kernel
theorem d_Search_isPassed_25 : decode b_Search_isPassed 25 = .ok (.goto 4, 3) := by decide +kernel
theorem d_Search_isPassed_28 : decode b_Search_isPassed 28 = .ok (.iconst 0, 1) := by decide +kernel
theorem d_Search_isPassed_29 : decode b_Search_isPassed 29 = .ok (.ireturn, 1) := by decide +kernel
theorem d_Search_isReached_0 : decode b_Search_isReached 0 = .ok (.aload_n 0, 1) := by decide +kernel
theorem d_Search_isReached_1 : decode b_Search_isReached 1 = .ok (.getfield 15, 3) := by decide +kernel
theorem d_Search_isReached_4 : decode b_Search_isReached 4 = .ok (.iload_n 1, 1) := by decide +kernel
theorem d_Search_isReached_5 : decode b_Search_isReached 5 = .ok (.invokevirtual 34, 3) := by decide +kernel
theorem d_Search_isReached_8 : decode b_Search_isReached 8 = .ok (.ifCond .eq 18, 3) := by decide +kernel
theorem d_Search_isReached_11 : decode b_Search_isReached 11 = .ok (.aload_n 0, 1) := by decide +kernel
theorem d_Search_isReached_12 : decode b_Search_isReached 12 = .ok (.getfield 9, 3) := by decide +kernel
theorem d_Search_isReached_15 : decode b_Search_isReached 15 = .ok (.iload_n 1, 1) := by decide +kernel
theorem d_Search_isReached_16 : decode b_Search_isReached 16 = .ok (.iaload, 1) := by decide +kernel
theorem d_Search_isReached_17 : decode b_Search_isReached 17 = .ok (.ldc 27, 2) := by decide +kernel
theorem d_Search_isReached_19 : decode b_Search_isReached 19 = .ok (.if_icmp .eq 7, 3) := by decide +kernel
theorem d_Search_isReached_22 : decode b_Search_isReached 22 = .ok (.iconst 1, 1) := by decide +kernel
theorem d_Search_isReached_23 : decode b_Search_isReached 23 = .ok (.goto 4, 3) := by decide +kernel
theorem d_Search_isReached_26 : decode b_Search_isReached 26 = .ok (.iconst 0, 1) := by decide +kernel
theorem d_Search_isReached_27 : decode b_Search_isReached 27 = .ok (.ireturn, 1) := by decide +kernel
theorem d_Search_nearestOf_0 : decode b_Search_nearestOf 0 = .ok (.iconst (-1), 1) := by decide +kernel
theorem d_Search_nearestOf_1 : decode b_Search_nearestOf 1 = .ok (.istore_n 2, 1) := by decide +kernel
theorem d_Search_nearestOf_2 : decode b_Search_nearestOf 2 = .ok (.ldc 27, 2) := by decide +kernel
theorem d_Search_nearestOf_4 : decode b_Search_nearestOf 4 = .ok (.istore_n 3, 1) := by decide +kernel
theorem d_Search_nearestOf_5 : decode b_Search_nearestOf 5 = .ok (.iconst 0, 1) := by decide +kernel
theorem d_Search_nearestOf_6 : decode b_Search_nearestOf 6 = .ok (.istore 4, 2) := by decide +kernel
theorem d_Search_nearestOf_8 : decode b_Search_nearestOf 8 = .ok (.iload 4, 2) := by decide +kernel
theorem d_Search_nearestOf_10 : decode b_Search_nearestOf 10 = .ok (.aload_n 0, 1) := by decide +kernel
theorem d_Search_nearestOf_11 : decode b_Search_nearestOf 11 = .ok (.getfield 15, 3) := by decide +kernel
theorem d_Search_nearestOf_14 : decode b_Search_nearestOf 14 = .ok (.getfield 88, 3) := by decide +kernel
theorem d_Search_nearestOf_17 : decode b_Search_nearestOf 17 = .ok (.if_icmp .ge 44, 3) := by decide +kernel
theorem d_Search_nearestOf_20 : decode b_Search_nearestOf 20 = .ok (.aload_n 0, 1) := by decide +kernel
theorem d_Search_nearestOf_21 : decode b_Search_nearestOf 21 = .ok (.getfield 15, 3) := by decide +kernel
theorem d_Search_nearestOf_24 : decode b_Search_nearestOf 24 = .ok (.iload 4, 2) := by decide +kernel
theorem d_Search_nearestOf_26 : decode b_Search_nearestOf 26 = .ok (.iload_n 1, 1) := by decide +kernel
theorem d_Search_nearestOf_27 : decode b_Search_nearestOf 27 = .ok (.invokevirtual 44, 3) := by decide +kernel
theorem d_Search_nearestOf_30 : decode b_Search_nearestOf 30 = .ok (.ifCond .eq 25, 3) := by decide +kernel
theorem d_Search_nearestOf_33 : decode b_Search_nearestOf 33 = .ok (.aload_n 0, 1) := by decide +kernel
theorem d_Search_nearestOf_34 : decode b_Search_nearestOf 34 = .ok (.getfield 9, 3) := by decide +kernel
theorem d_Search_nearestOf_37 : decode b_Search_nearestOf 37 = .ok (.iload 4, 2) := by decide +kernel
theorem d_Search_nearestOf_39 : decode b_Search_nearestOf 39 = .ok (.iaload, 1) := by decide +kernel
theorem d_Search_nearestOf_40 : decode b_Search_nearestOf 40 = .ok (.iload_n 3, 1) := by decide +kernel
theorem d_Search_nearestOf_41 : decode b_Search_nearestOf 41 = .ok (.if_icmp .ge 14, 3) := by decide +kernel
theorem d_Search_nearestOf_44 : decode b_Search_nearestOf 44 = .ok (.iload 4, 2) := by decide +kernel
theorem d_Search_nearestOf_46 : decode b_Search_nearestOf 46 = .ok (.istore_n 2, 1) := by decide +kernel
theorem d_Search_nearestOf_47 : decode b_Search_nearestOf 47 = .ok (.aload_n 0, 1) := by decide +kernel
theorem d_Search_nearestOf_48 : decode b_Search_nearestOf 48 = .ok (.getfield 9, 3) := by decide +kernel
theorem d_Search_nearestOf_51 : decode b_Search_nearestOf 51 = .ok (.iload 4, 2) := by decide +kernel
theorem d_Search_nearestOf_53 : decode b_Search_nearestOf 53 = .ok (.iaload, 1) := by decide +kernel
theorem d_Search_nearestOf_54 : decode b_Search_nearestOf 54 = .ok (.istore_n 3, 1) := by decide +kernel
theorem d_Search_nearestOf_55 : decode b_Search_nearestOf 55 = .ok (.iinc 4 1, 3) := by decide +kernel
theorem d_Search_nearestOf_58 : decode b_Search_nearestOf 58 = .ok (.goto (-50), 3) := by decide +kernel
theorem d_Search_nearestOf_61 : decode b_Search_nearestOf 61 = .ok (.iload_n 2, 1) := by decide +kernel
theorem d_Search_nearestOf_62 : decode b_Search_nearestOf 62 = .ok (.ireturn, 1) := by decide +kernel
theorem d_Search_metresTo_0 : decode b_Search_metresTo 0 = .ok (.aload_n 0, 1) := by decide +kernel
theorem d_Search_metresTo_1 : decode b_Search_metresTo 1 = .ok (.iload_n 1, 1) := by decide +kernel
theorem d_Search_metresTo_2 : decode b_Search_metresTo 2 = .ok (.invokevirtual 74, 3) := by decide +kernel
theorem d_Search_metresTo_5 : decode b_Search_metresTo 5 = .ok (.ifCond .eq 15, 3) := by decide +kernel
theorem d_Search_metresTo_8 : decode b_Search_metresTo 8 = .ok (.aload_n 0, 1) := by decide +kernel
theorem d_Search_metresTo_9 : decode b_Search_metresTo 9 = .ok (.getfield 9, 3) := by decide +kernel
theorem d_Search_metresTo_12 : decode b_Search_metresTo 12 = .ok (.iload_n 1, 1) := by decide +kernel
theorem d_Search_metresTo_13 : decode b_Search_metresTo 13 = .ok (.iaload, 1) := by decide +kernel
theorem d_Search_metresTo_14 : decode b_Search_metresTo 14 = .ok (.bipush 64, 2) := by decide +kernel
theorem d_Search_metresTo_16 : decode b_Search_metresTo 16 = .ok (.idiv, 1) := by decide +kernel
theorem d_Search_metresTo_17 : decode b_Search_metresTo 17 = .ok (.goto 4, 3) := by decide +kernel
theorem d_Search_metresTo_20 : decode b_Search_metresTo 20 = .ok (.iconst (-1), 1) := by decide +kernel
theorem d_Search_metresTo_21 : decode b_Search_metresTo 21 = .ok (.ireturn, 1) := by decide +kernel
theorem d_Search_stairsTo_0 : decode b_Search_stairsTo 0 = .ok (.aload_n 0, 1) := by decide +kernel
theorem d_Search_stairsTo_1 : decode b_Search_stairsTo 1 = .ok (.iload_n 1, 1) := by decide +kernel
theorem d_Search_stairsTo_2 : decode b_Search_stairsTo 2 = .ok (.invokevirtual 74, 3) := by decide +kernel
theorem d_Search_stairsTo_5 : decode b_Search_stairsTo 5 = .ok (.ifCond .eq 15, 3) := by decide +kernel
theorem d_Search_stairsTo_8 : decode b_Search_stairsTo 8 = .ok (.aload_n 0, 1) := by decide +kernel
theorem d_Search_stairsTo_9 : decode b_Search_stairsTo 9 = .ok (.getfield 9, 3) := by decide +kernel
theorem d_Search_stairsTo_12 : decode b_Search_stairsTo 12 = .ok (.iload_n 1, 1) := by decide +kernel
theorem d_Search_stairsTo_13 : decode b_Search_stairsTo 13 = .ok (.iaload, 1) := by decide +kernel
theorem d_Search_stairsTo_14 : decode b_Search_stairsTo 14 = .ok (.bipush 64, 2) := by decide +kernel
theorem d_Search_stairsTo_16 : decode b_Search_stairsTo 16 = .ok (.irem, 1) := by decide +kernel
theorem d_Search_stairsTo_17 : decode b_Search_stairsTo 17 = .ok (.goto 4, 3) := by decide +kernel
theorem d_Search_stairsTo_20 : decode b_Search_stairsTo 20 = .ok (.iconst 0, 1) := by decide +kernel
theorem d_Search_stairsTo_21 : decode b_Search_stairsTo 21 = .ok (.ireturn, 1) := by decide +kernel
theorem d_Search_tellWayTo_0 : decode b_Search_tellWayTo 0 = .ok (.aload_n 2, 1) := by decide +kernel
theorem d_Search_tellWayTo_1 : decode b_Search_tellWayTo 1 = .ok (.iload_n 1, 1) := by decide +kernel
theorem d_Search_tellWayTo_2 : decode b_Search_tellWayTo 2 = .ok (.aload_n 0, 1) := by decide +kernel
theorem d_Search_tellWayTo_3 : decode b_Search_tellWayTo 3 = .ok (.iload_n 1, 1) := by decide +kernel
theorem d_Search_tellWayTo_4 : decode b_Search_tellWayTo 4 = .ok (.invokevirtual 89, 3) := by decide +kernel
theorem d_Search_tellWayTo_7 : decode b_Search_tellWayTo 7 = .ok (.invokevirtual 92, 3) := by decide +kernel
theorem d_Search_tellWayTo_10 : decode b_Search_tellWayTo 10 = .ok (.iload_n 1, 1) := by decide +kernel
theorem d_Search_tellWayTo_11 : decode b_Search_tellWayTo 11 = .ok (.istore_n 3, 1) := by decide +kernel
theorem d_Search_tellWayTo_12 : decode b_Search_tellWayTo 12 = .ok (.iconst 0, 1) := by decide +kernel
theorem d_Search_tellWayTo_13 : decode b_Search_tellWayTo 13 = .ok (.istore 4, 2) := by decide +kernel
theorem d_Search_tellWayTo_15 : decode b_Search_tellWayTo 15 = .ok (.iload 4, 2) := by decide +kernel
theorem d_Search_tellWayTo_17 : decode b_Search_tellWayTo 17 = .ok (.bipush 40, 2) := by decide +kernel
theorem d_Search_tellWayTo_19 : decode b_Search_tellWayTo 19 = .ok (.if_icmp .ge 48, 3) := by decide +kernel
theorem d_Search_tellWayTo_22 : decode b_Search_tellWayTo 22 = .ok (.aload_n 0, 1) := by decide +kernel
theorem d_Search_tellWayTo_23 : decode b_Search_tellWayTo 23 = .ok (.iload_n 3, 1) := by decide +kernel
theorem d_Search_tellWayTo_24 : decode b_Search_tellWayTo 24 = .ok (.invokevirtual 74, 3) := by decide +kernel
theorem d_Search_tellWayTo_27 : decode b_Search_tellWayTo 27 = .ok (.ifCond .eq 40, 3) := by decide +kernel
theorem d_Search_tellWayTo_30 : decode b_Search_tellWayTo 30 = .ok (.aload_n 0, 1) := by decide +kernel
theorem d_Search_tellWayTo_31 : decode b_Search_tellWayTo 31 = .ok (.iload_n 3, 1) := by decide +kernel
theorem d_Search_tellWayTo_32 : decode b_Search_tellWayTo 32 = .ok (.invokevirtual 98, 3) := by decide +kernel
theorem d_Search_tellWayTo_35 : decode b_Search_tellWayTo 35 = .ok (.istore 5, 2) := by decide +kernel
theorem d_Search_tellWayTo_37 : decode b_Search_tellWayTo 37 = .ok (.iload 5, 2) := by decide +kernel
theorem d_Search_tellWayTo_39 : decode b_Search_tellWayTo 39 = .ok (.iconst (-1), 1) := by decide +kernel
theorem d_Search_tellWayTo_40 : decode b_Search_tellWayTo 40 = .ok (.if_icmp .ne 4, 3) := by decide +kernel
theorem d_Search_tellWayTo_43 : decode b_Search_tellWayTo 43 = .ok (.return_, 1) := by decide +kernel
theorem d_Search_tellWayTo_44 : decode b_Search_tellWayTo 44 = .ok (.aload_n 2, 1) := by decide +kernel
theorem d_Search_tellWayTo_45 : decode b_Search_tellWayTo 45 = .ok (.iload 5, 2) := by decide +kernel
theorem d_Search_tellWayTo_47 : decode b_Search_tellWayTo 47 = .ok (.invokevirtual 101, 3) := by decide +kernel
theorem d_Search_tellWayTo_50 : decode b_Search_tellWayTo 50 = .ok (.aload_n 0, 1) := by decide +kernel
theorem d_Search_tellWayTo_51 : decode b_Search_tellWayTo 51 = .ok (.getfield 19, 3) := by decide +kernel
theorem d_Search_tellWayTo_54 : decode b_Search_tellWayTo 54 = .ok (.iload 5, 2) := by decide +kernel
theorem d_Search_tellWayTo_56 : decode b_Search_tellWayTo 56 = .ok (.iload_n 3, 1) := by decide +kernel
theorem d_Search_tellWayTo_57 : decode b_Search_tellWayTo 57 = .ok (.invokevirtual 104, 3) := by decide +kernel
theorem d_Search_tellWayTo_60 : decode b_Search_tellWayTo 60 = .ok (.istore_n 3, 1) := by decide +kernel
theorem d_Search_tellWayTo_61 : decode b_Search_tellWayTo 61 = .ok (.iinc 4 1, 3) := by decide +kernel
theorem d_Search_tellWayTo_64 : decode b_Search_tellWayTo 64 = .ok (.goto (-49), 3) := by decide +kernel
theorem d_Search_tellWayTo_67 : decode b_Search_tellWayTo 67 = .ok (.return_, 1) := by decide +kernel
theorem d_Search_lowestDoorInto_0 : decode b_Search_lowestDoorInto 0 = .ok (.aload_n 0, 1) := by decide +kernel
theorem d_Search_lowestDoorInto_1 : decode b_Search_lowestDoorInto 1 = .ok (.iload_n 1, 1) := by decide +kernel
theorem d_Search_lowestDoorInto_2 : decode b_Search_lowestDoorInto 2 = .ok (.invokevirtual 74, 3) := by decide +kernel
theorem d_Search_lowestDoorInto_5 : decode b_Search_lowestDoorInto 5 = .ok (.ifCond .ne 5, 3) := by decide +kernel
theorem d_Search_lowestDoorInto_8 : decode b_Search_lowestDoorInto 8 = .ok (.iconst (-1), 1) := by decide +kernel
theorem d_Search_lowestDoorInto_9 : decode b_Search_lowestDoorInto 9 = .ok (.ireturn, 1) := by decide +kernel
theorem d_Search_lowestDoorInto_10 : decode b_Search_lowestDoorInto 10 = .ok (.iconst 0, 1) := by decide +kernel
theorem d_Search_lowestDoorInto_11 : decode b_Search_lowestDoorInto 11 = .ok (.istore_n 2, 1) := by decide +kernel
theorem d_Search_lowestDoorInto_12 : decode b_Search_lowestDoorInto 12 = .ok (.iload_n 2, 1) := by decide +kernel
theorem d_Search_lowestDoorInto_13 : decode b_Search_lowestDoorInto 13 = .ok (.aload_n 0, 1) := by decide +kernel
theorem d_Search_lowestDoorInto_14 : decode b_Search_lowestDoorInto 14 = .ok (.getfield 19, 3) := by decide +kernel
theorem d_Search_lowestDoorInto_17 : decode b_Search_lowestDoorInto 17 = .ok (.getfield 51, 3) := by decide +kernel
theorem d_Search_lowestDoorInto_20 : decode b_Search_lowestDoorInto 20 = .ok (.if_icmp .ge 61, 3) := by decide +kernel
theorem d_Search_lowestDoorInto_23 : decode b_Search_lowestDoorInto 23 = .ok (.aload_n 0, 1) := by decide +kernel
theorem d_Search_lowestDoorInto_24 : decode b_Search_lowestDoorInto 24 = .ok (.getfield 19, 3) := by decide +kernel
theorem d_Search_lowestDoorInto_27 : decode b_Search_lowestDoorInto 27 = .ok (.iload_n 2, 1) := by decide +kernel
theorem d_Search_lowestDoorInto_28 : decode b_Search_lowestDoorInto 28 = .ok (.iload_n 1, 1) := by decide +kernel
theorem d_Search_lowestDoorInto_29 : decode b_Search_lowestDoorInto 29 = .ok (.invokevirtual 104, 3) := by decide +kernel
theorem d_Search_lowestDoorInto_32 : decode b_Search_lowestDoorInto 32 = .ok (.istore_n 3, 1) := by decide +kernel
theorem d_Search_lowestDoorInto_33 : decode b_Search_lowestDoorInto 33 = .ok (.aload_n 0, 1) := by decide +kernel
theorem d_Search_lowestDoorInto_34 : decode b_Search_lowestDoorInto 34 = .ok (.iload_n 2, 1) := by decide +kernel
theorem d_Search_lowestDoorInto_35 : decode b_Search_lowestDoorInto 35 = .ok (.invokevirtual 57, 3) := by decide +kernel
theorem d_Search_lowestDoorInto_38 : decode b_Search_lowestDoorInto 38 = .ok (.ifCond .eq 37, 3) := by decide +kernel
theorem d_Search_lowestDoorInto_41 : decode b_Search_lowestDoorInto 41 = .ok (.aload_n 0, 1) := by decide +kernel
theorem d_Search_lowestDoorInto_42 : decode b_Search_lowestDoorInto 42 = .ok (.iload_n 3, 1) := by decide +kernel
theorem d_Search_lowestDoorInto_43 : decode b_Search_lowestDoorInto 43 = .ok (.invokevirtual 74, 3) := by decide +kernel
theorem d_Search_lowestDoorInto_46 : decode b_Search_lowestDoorInto 46 = .ok (.ifCond .eq 29, 3) := by decide +kernel
theorem d_Search_lowestDoorInto_49 : decode b_Search_lowestDoorInto 49 = .ok (.aload_n 0, 1) := by decide +kernel
theorem d_Search_lowestDoorInto_50 : decode b_Search_lowestDoorInto 50 = .ok (.getfield 9, 3) := by decide +kernel
theorem d_Search_lowestDoorInto_53 : decode b_Search_lowestDoorInto 53 = .ok (.iload_n 3, 1) := by decide +kernel
theorem d_Search_lowestDoorInto_54 : decode b_Search_lowestDoorInto 54 = .ok (.iaload, 1) := by decide +kernel
theorem d_Search_lowestDoorInto_55 : decode b_Search_lowestDoorInto 55 = .ok (.aload_n 0, 1) := by decide +kernel
theorem d_Search_lowestDoorInto_56 : decode b_Search_lowestDoorInto 56 = .ok (.getfield 19, 3) := by decide +kernel
theorem d_Search_lowestDoorInto_59 : decode b_Search_lowestDoorInto 59 = .ok (.iload_n 2, 1) := by decide +kernel
theorem d_Search_lowestDoorInto_60 : decode b_Search_lowestDoorInto 60 = .ok (.invokevirtual 67, 3) := by decide +kernel
theorem d_Search_lowestDoorInto_63 : decode b_Search_lowestDoorInto 63 = .ok (.iadd, 1) := by decide +kernel
theorem d_Search_lowestDoorInto_64 : decode b_Search_lowestDoorInto 64 = .ok (.aload_n 0, 1) := by decide +kernel
theorem d_Search_lowestDoorInto_65 : decode b_Search_lowestDoorInto 65 = .ok (.getfield 9, 3) := by decide +kernel
theorem d_Search_lowestDoorInto_68 : decode b_Search_lowestDoorInto 68 = .ok (.iload_n 1, 1) := by decide +kernel
theorem d_Search_lowestDoorInto_69 : decode b_Search_lowestDoorInto 69 = .ok (.iaload, 1) := by decide +kernel
theorem d_Search_lowestDoorInto_70 : decode b_Search_lowestDoorInto 70 = .ok (.if_icmp .ne 5, 3) := by decide +kernel
theorem d_Search_lowestDoorInto_73 : decode b_Search_lowestDoorInto 73 = .ok (.iload_n 2, 1) := by decide +kernel
theorem d_Search_lowestDoorInto_74 : decode b_Search_lowestDoorInto 74 = .ok (.ireturn, 1) := by decide +kernel
theorem d_Search_lowestDoorInto_75 : decode b_Search_lowestDoorInto 75 = .ok (.iinc 2 1, 3) := by decide +kernel
theorem d_Search_lowestDoorInto_78 : decode b_Search_lowestDoorInto 78 = .ok (.goto (-66), 3) := by decide +kernel
theorem d_Search_lowestDoorInto_81 : decode b_Search_lowestDoorInto 81 = .ok (.iconst (-1), 1) := by decide +kernel
theorem d_Search_lowestDoorInto_82 : decode b_Search_lowestDoorInto 82 = .ok (.ireturn, 1) := by decide +kernel
theorem d_Search_unreachedAt_0 : decode b_Search_unreachedAt 0 = .ok (.iload_n 1, 1) := by decide +kernel
theorem d_Search_unreachedAt_1 : decode b_Search_unreachedAt 1 = .ok (.istore_n 2, 1) := by decide +kernel
theorem d_Search_unreachedAt_2 : decode b_Search_unreachedAt 2 = .ok (.iconst 0, 1) := by decide +kernel
theorem d_Search_unreachedAt_3 : decode b_Search_unreachedAt 3 = .ok (.istore_n 3, 1) := by decide +kernel
theorem d_Search_unreachedAt_4 : decode b_Search_unreachedAt 4 = .ok (.iload_n 3, 1) := by decide +kernel
theorem d_Search_unreachedAt_5 : decode b_Search_unreachedAt 5 = .ok (.aload_n 0, 1) := by decide +kernel
theorem d_Search_unreachedAt_6 : decode b_Search_unreachedAt 6 = .ok (.getfield 15, 3) := by decide +kernel
theorem d_Search_unreachedAt_9 : decode b_Search_unreachedAt 9 = .ok (.getfield 88, 3) := by decide +kernel
theorem d_Search_unreachedAt_12 : decode b_Search_unreachedAt 12 = .ok (.if_icmp .ge 26, 3) := by decide +kernel
theorem d_Search_unreachedAt_15 : decode b_Search_unreachedAt 15 = .ok (.aload_n 0, 1) := by decide +kernel
theorem d_Search_unreachedAt_16 : decode b_Search_unreachedAt 16 = .ok (.iload_n 3, 1) := by decide +kernel
theorem d_Search_unreachedAt_17 : decode b_Search_unreachedAt 17 = .ok (.invokevirtual 74, 3) := by decide +kernel
theorem d_Search_unreachedAt_20 : decode b_Search_unreachedAt 20 = .ok (.ifCond .ne 12, 3) := by decide +kernel
theorem d_Search_unreachedAt_23 : decode b_Search_unreachedAt 23 = .ok (.iload_n 2, 1) := by decide +kernel
theorem d_Search_unreachedAt_24 : decode b_Search_unreachedAt 24 = .ok (.ifCond .ne 5, 3) := by decide +kernel
theorem d_Search_unreachedAt_27 : decode b_Search_unreachedAt 27 = .ok (.iload_n 3, 1) := by decide +kernel
theorem d_Search_unreachedAt_28 : decode b_Search_unreachedAt 28 = .ok (.ireturn, 1) := by decide +kernel
theorem d_Search_unreachedAt_29 : decode b_Search_unreachedAt 29 = .ok (.iinc 2 (-1), 3) := by decide +kernel
theorem d_Search_unreachedAt_32 : decode b_Search_unreachedAt 32 = .ok (.iinc 3 1, 3) := by decide +kernel
theorem d_Search_unreachedAt_35 : decode b_Search_unreachedAt 35 = .ok (.goto (-31), 3) := by decide +kernel
theorem d_Search_unreachedAt_38 : decode b_Search_unreachedAt 38 = .ok (.iconst (-1), 1) := by decide +kernel
theorem d_Search_unreachedAt_39 : decode b_Search_unreachedAt 39 = .ok (.ireturn, 1) := by decide +kernel
theorem d_Win_init_0 : decode b_Win_init 0 = .ok (.aload_n 0, 1) := by decide +kernel
theorem d_Win_init_1 : decode b_Win_init 1 = .ok (.invokespecial 3, 3) := by decide +kernel
theorem d_Win_init_4 : decode b_Win_init 4 = .ok (.aload_n 0, 1) := by decide +kernel
theorem d_Win_init_5 : decode b_Win_init 5 = .ok (.bipush 30, 2) := by decide +kernel
theorem d_Win_init_7 : decode b_Win_init 7 = .ok (.newarray .int, 2) := by decide +kernel
theorem d_Win_init_9 : decode b_Win_init 9 = .ok (.putfield 9, 3) := by decide +kernel
theorem d_Win_init_12 : decode b_Win_init 12 = .ok (.aload_n 0, 1) := by decide +kernel
theorem d_Win_init_13 : decode b_Win_init 13 = .ok (.bipush 30, 2) := by decide +kernel
theorem d_Win_init_15 : decode b_Win_init 15 = .ok (.newarray .int, 2) := by decide +kernel
theorem d_Win_init_17 : decode b_Win_init 17 = .ok (.putfield 15, 3) := by decide +kernel
theorem d_Win_init_20 : decode b_Win_init 20 = .ok (.aload_n 0, 1) := by decide +kernel
theorem d_Win_init_21 : decode b_Win_init 21 = .ok (.bipush 30, 2) := by decide +kernel
theorem d_Win_init_23 : decode b_Win_init 23 = .ok (.newarray .int, 2) := by decide +kernel
theorem d_Win_init_25 : decode b_Win_init 25 = .ok (.putfield 18, 3) := by decide +kernel
theorem d_Win_init_28 : decode b_Win_init 28 = .ok (.return_, 1) := by decide +kernel
theorem d_Win_add_0 : decode b_Win_add 0 = .ok (.aload_n 0, 1) := by decide +kernel
theorem d_Win_add_1 : decode b_Win_add 1 = .ok (.getfield 21, 3) := by decide +kernel
theorem d_Win_add_4 : decode b_Win_add 4 = .ok (.bipush 30, 2) := by decide +kernel
theorem d_Win_add_6 : decode b_Win_add 6 = .ok (.if_icmp .lt 5, 3) := by decide +kernel
theorem d_Win_add_9 : decode b_Win_add 9 = .ok (.iconst (-1), 1) := by decide +kernel
theorem d_Win_add_10 : decode b_Win_add 10 = .ok (.ireturn, 1) := by decide +kernel
theorem d_Win_add_11 : decode b_Win_add 11 = .ok (.aload_n 0, 1) := by decide +kernel
theorem d_Win_add_12 : decode b_Win_add 12 = .ok (.getfield 9, 3) := by decide +kernel
theorem d_Win_add_15 : decode b_Win_add 15 = .ok (.aload_n 0, 1) := by decide +kernel
theorem d_Win_add_16 : decode b_Win_add 16 = .ok (.getfield 21, 3) := by decide +kernel
theorem d_Win_add_19 : decode b_Win_add 19 = .ok (.iload_n 1, 1) := by decide +kernel
theorem d_Win_add_20 : decode b_Win_add 20 = .ok (.iastore, 1) := by decide +kernel
theorem d_Win_add_21 : decode b_Win_add 21 = .ok (.aload_n 0, 1) := by decide +kernel
theorem d_Win_add_22 : decode b_Win_add 22 = .ok (.getfield 15, 3) := by decide +kernel
theorem d_Win_add_25 : decode b_Win_add 25 = .ok (.aload_n 0, 1) := by decide +kernel
theorem d_Win_add_26 : decode b_Win_add 26 = .ok (.getfield 21, 3) := by decide +kernel
theorem d_Win_add_29 : decode b_Win_add 29 = .ok (.iload_n 2, 1) := by decide +kernel
theorem d_Win_add_30 : decode b_Win_add 30 = .ok (.iastore, 1) := by decide +kernel
theorem d_Win_add_31 : decode b_Win_add 31 = .ok (.aload_n 0, 1) := by decide +kernel
theorem d_Win_add_32 : decode b_Win_add 32 = .ok (.getfield 18, 3) := by decide +kernel
theorem d_Win_add_35 : decode b_Win_add 35 = .ok (.aload_n 0, 1) := by decide +kernel
theorem d_Win_add_36 : decode b_Win_add 36 = .ok (.getfield 21, 3) := by decide +kernel
theorem d_Win_add_39 : decode b_Win_add 39 = .ok (.iload_n 3, 1) := by decide +kernel
theorem d_Win_add_40 : decode b_Win_add 40 = .ok (.iastore, 1) := by decide +kernel
theorem d_Win_add_41 : decode b_Win_add 41 = .ok (.aload_n 0, 1) := by decide +kernel
theorem d_Win_add_42 : decode b_Win_add 42 = .ok (.dup, 1) := by decide +kernel
theorem d_Win_add_43 : decode b_Win_add 43 = .ok (.getfield 21, 3) := by decide +kernel
theorem d_Win_add_46 : decode b_Win_add 46 = .ok (.iconst 1, 1) := by decide +kernel
theorem d_Win_add_47 : decode b_Win_add 47 = .ok (.iadd, 1) := by decide +kernel
theorem d_Win_add_48 : decode b_Win_add 48 = .ok (.putfield 21, 3) := by decide +kernel
theorem d_Win_add_51 : decode b_Win_add 51 = .ok (.aload_n 0, 1) := by decide +kernel
theorem d_Win_add_52 : decode b_Win_add 52 = .ok (.getfield 21, 3) := by decide +kernel
theorem d_Win_add_55 : decode b_Win_add 55 = .ok (.iconst 1, 1) := by decide +kernel
theorem d_Win_add_56 : decode b_Win_add 56 = .ok (.isub, 1) := by decide +kernel
theorem d_Win_add_57 : decode b_Win_add 57 = .ok (.ireturn, 1) := by decide +kernel
theorem d_Win_has_0 : decode b_Win_has 0 = .ok (.iload_n 1, 1) := by decide +kernel
theorem d_Win_has_1 : decode b_Win_has 1 = .ok (.ifCond .lt 15, 3) := by decide +kernel
theorem d_Win_has_4 : decode b_Win_has 4 = .ok (.iload_n 1, 1) := by decide +kernel
theorem d_Win_has_5 : decode b_Win_has 5 = .ok (.aload_n 0, 1) := by decide +kernel
theorem d_Win_has_6 : decode b_Win_has 6 = .ok (.getfield 21, 3) := by decide +kernel
theorem d_Win_has_9 : decode b_Win_has 9 = .ok (.if_icmp .ge 7, 3) := by decide +kernel
theorem d_Win_has_12 : decode b_Win_has 12 = .ok (.iconst 1, 1) := by decide +kernel
theorem d_Win_has_13 : decode b_Win_has 13 = .ok (.goto 4, 3) := by decide +kernel
theorem d_Win_has_16 : decode b_Win_has 16 = .ok (.iconst 0, 1) := by decide +kernel
theorem d_Win_has_17 : decode b_Win_has 17 = .ok (.ireturn, 1) := by decide +kernel
theorem d_Win_isReached_0 : decode b_Win_isReached 0 = .ok (.aload_n 0, 1) := by decide +kernel
theorem d_Win_isReached_1 : decode b_Win_isReached 1 = .ok (.iload_n 1, 1) := by decide +kernel
theorem d_Win_isReached_2 : decode b_Win_isReached 2 = .ok (.invokevirtual 25, 3) := by decide +kernel
theorem d_Win_isReached_5 : decode b_Win_isReached 5 = .ok (.ifCond .eq 14, 3) := by decide +kernel
theorem d_Win_isReached_8 : decode b_Win_isReached 8 = .ok (.aload_n 0, 1) := by decide +kernel
theorem d_Win_isReached_9 : decode b_Win_isReached 9 = .ok (.getfield 18, 3) := by decide +kernel
theorem d_Win_isReached_12 : decode b_Win_isReached 12 = .ok (.iload_n 1, 1) := by decide +kernel
theorem d_Win_isReached_13 : decode b_Win_isReached 13 = .ok (.iaload, 1) := by decide +kernel
theorem d_Win_isReached_14 : decode b_Win_isReached 14 = .ok (.iload 4, 2) := by decide +kernel
theorem d_Win_isReached_16 : decode b_Win_isReached 16 = .ok (.if_icmp .ge 5, 3) := by decide +kernel
theorem d_Win_isReached_19 : decode b_Win_isReached 19 = .ok (.iconst 0, 1) := by decide +kernel
theorem d_Win_isReached_20 : decode b_Win_isReached 20 = .ok (.ireturn, 1) := by decide +kernel
theorem d_Win_isReached_21 : decode b_Win_isReached 21 = .ok (.aload_n 0, 1) := by decide +kernel
theorem d_Win_isReached_22 : decode b_Win_isReached 22 = .ok (.getfield 9, 3) := by decide +kernel
theorem d_Win_isReached_25 : decode b_Win_isReached 25 = .ok (.iload_n 1, 1) := by decide +kernel
theorem d_Win_isReached_26 : decode b_Win_isReached 26 = .ok (.iaload, 1) := by decide +kernel
theorem d_Win_isReached_27 : decode b_Win_isReached 27 = .ok (.iload_n 2, 1) := by decide +kernel
theorem d_Win_isReached_28 : decode b_Win_isReached 28 = .ok (.isub, 1) := by decide +kernel
theorem d_Win_isReached_29 : decode b_Win_isReached 29 = .ok (.i2l, 1) := by decide +kernel
theorem d_Win_isReached_30 : decode b_Win_isReached 30 = .ok (.lstore 6, 2) := by decide +kernel
theorem d_Win_isReached_32 : decode b_Win_isReached 32 = .ok (.aload_n 0, 1) := by decide +kernel
theorem d_Win_isReached_33 : decode b_Win_isReached 33 = .ok (.getfield 15, 3) := by decide +kernel
theorem d_Win_isReached_36 : decode b_Win_isReached 36 = .ok (.iload_n 1, 1) := by decide +kernel
theorem d_Win_isReached_37 : decode b_Win_isReached 37 = .ok (.iaload, 1) := by decide +kernel
theorem d_Win_isReached_38 : decode b_Win_isReached 38 = .ok (.iload_n 3, 1) := by decide +kernel
theorem d_Win_isReached_39 : decode b_Win_isReached 39 = .ok (.isub, 1) := by decide +kernel
theorem d_Win_isReached_40 : decode b_Win_isReached 40 = .ok (.i2l, 1) := by decide +kernel
theorem d_Win_isReached_41 : decode b_Win_isReached 41 = .ok (.lstore 8, 2) := by decide +kernel
theorem d_Win_isReached_43 : decode b_Win_isReached 43 = .ok (.aload_n 0, 1) := by decide +kernel
theorem d_Win_isReached_44 : decode b_Win_isReached 44 = .ok (.getfield 18, 3) := by decide +kernel
theorem d_Win_isReached_47 : decode b_Win_isReached 47 = .ok (.iload_n 1, 1) := by decide +kernel
theorem d_Win_isReached_48 : decode b_Win_isReached 48 = .ok (.iaload, 1) := by decide +kernel
theorem d_Win_isReached_49 : decode b_Win_isReached 49 = .ok (.iload 4, 2) := by decide +kernel
theorem d_Win_isReached_51 : decode b_Win_isReached 51 = .ok (.isub, 1) := by decide +kernel
theorem d_Win_isReached_52 : decode b_Win_isReached 52 = .ok (.i2l, 1) := by decide +kernel
theorem d_Win_isReached_53 : decode b_Win_isReached 53 = .ok (.lstore 10, 2) := by decide +kernel
theorem d_Win_isReached_55 : decode b_Win_isReached 55 = .ok (.lload 6, 2) := by decide +kernel
theorem d_Win_isReached_57 : decode b_Win_isReached 57 = .ok (.lload 6, 2) := by decide +kernel
theorem d_Win_isReached_59 : decode b_Win_isReached 59 = .ok (.lmul, 1) := by decide +kernel
theorem d_Win_isReached_60 : decode b_Win_isReached 60 = .ok (.lload 8, 2) := by decide +kernel
theorem d_Win_isReached_62 : decode b_Win_isReached 62 = .ok (.lload 8, 2) := by decide +kernel
theorem d_Win_isReached_64 : decode b_Win_isReached 64 = .ok (.lmul, 1) := by decide +kernel
theorem d_Win_isReached_65 : decode b_Win_isReached 65 = .ok (.ladd, 1) := by decide +kernel
theorem d_Win_isReached_66 : decode b_Win_isReached 66 = .ok (.lload 10, 2) := by decide +kernel
theorem d_Win_isReached_68 : decode b_Win_isReached 68 = .ok (.lload 10, 2) := by decide +kernel
theorem d_Win_isReached_70 : decode b_Win_isReached 70 = .ok (.lmul, 1) := by decide +kernel
theorem d_Win_isReached_71 : decode b_Win_isReached 71 = .ok (.ladd, 1) := by decide +kernel
theorem d_Win_isReached_72 : decode b_Win_isReached 72 = .ok (.iload 5, 2) := by decide +kernel
theorem d_Win_isReached_74 : decode b_Win_isReached 74 = .ok (.i2l, 1) := by decide +kernel
theorem d_Win_isReached_75 : decode b_Win_isReached 75 = .ok (.iload 5, 2) := by decide +kernel
theorem d_Win_isReached_77 : decode b_Win_isReached 77 = .ok (.i2l, 1) := by decide +kernel
theorem d_Win_isReached_78 : decode b_Win_isReached 78 = .ok (.lmul, 1) := by decide +kernel
theorem d_Win_isReached_79 : decode b_Win_isReached 79 = .ok (.lcmp, 1) := by decide +kernel
theorem d_Win_isReached_80 : decode b_Win_isReached 80 = .ok (.ifCond .gt 7, 3) := by decide +kernel
theorem d_Win_isReached_83 : decode b_Win_isReached 83 = .ok (.iconst 1, 1) := by decide +kernel
theorem d_Win_isReached_84 : decode b_Win_isReached 84 = .ok (.goto 4, 3) := by decide +kernel
theorem d_Win_isReached_87 : decode b_Win_isReached 87 = .ok (.iconst 0, 1) := by decide +kernel
theorem d_Win_isReached_88 : decode b_Win_isReached 88 = .ok (.ireturn, 1) := by decide +kernel
theorem d_Win_leastLength_0 : decode b_Win_leastLength 0 = .ok (.aload_n 0, 1) := by decide +kernel
theorem d_Win_leastLength_1 : decode b_Win_leastLength 1 = .ok (.iload_n 1, 1) := by decide +kernel
theorem d_Win_leastLength_2 : decode b_Win_leastLength 2 = .ok (.iload_n 2, 1) := by decide +kernel
theorem d_Win_leastLength_3 : decode b_Win_leastLength 3 = .ok (.iload_n 3, 1) := by decide +kernel
theorem d_Win_leastLength_4 : decode b_Win_leastLength 4 = .ok (.iload 4, 2) := by decide +kernel
theorem d_Win_leastLength_6 : decode b_Win_leastLength 6 = .ok (.ldc 29, 2) := by decide +kernel
theorem d_Win_leastLength_8 : decode b_Win_leastLength 8 = .ok (.invokevirtual 30, 3) := by decide +kernel
theorem d_Win_leastLength_11 : decode b_Win_leastLength 11 = .ok (.ifCond .ne 5, 3) := by decide +kernel
theorem d_Win_leastLength_14 : decode b_Win_leastLength 14 = .ok (.iconst (-1), 1) := by decide +kernel
theorem d_Win_leastLength_15 : decode b_Win_leastLength 15 = .ok (.ireturn, 1) := by decide +kernel
theorem d_Win_leastLength_16 : decode b_Win_leastLength 16 = .ok (.iconst 0, 1) := by decide +kernel
theorem d_Win_leastLength_17 : decode b_Win_leastLength 17 = .ok (.istore 5, 2) := by decide +kernel
theorem d_Win_leastLength_19 : decode b_Win_leastLength 19 = .ok (.ldc 34, 2) := by decide +kernel
theorem d_Win_leastLength_21 : decode b_Win_leastLength 21 = .ok (.istore 6, 2) := by decide +kernel
theorem d_Win_leastLength_23 : decode b_Win_leastLength 23 = .ok (.iload 6, 2) := by decide +kernel
theorem d_Win_leastLength_25 : decode b_Win_leastLength 25 = .ok (.ifCond .le 36, 3) := by decide +kernel
theorem d_Win_leastLength_28 : decode b_Win_leastLength 28 = .ok (.aload_n 0, 1) := by decide +kernel
theorem d_Win_leastLength_29 : decode b_Win_leastLength 29 = .ok (.iload_n 1, 1) := by decide +kernel
theorem d_Win_leastLength_30 : decode b_Win_leastLength 30 = .ok (.iload_n 2, 1) := by decide +kernel
theorem d_Win_leastLength_31 : decode b_Win_leastLength 31 = .ok (.iload_n 3, 1) := by decide +kernel
theorem d_Win_leastLength_32 : decode b_Win_leastLength 32 = .ok (.iload 4, 2) := by decide +kernel
theorem d_Win_leastLength_34 : decode b_Win_leastLength 34 = .ok (.iload 5, 2) := by decide +kernel
theorem d_Win_leastLength_36 : decode b_Win_leastLength 36 = .ok (.iload 6, 2) := by decide +kernel
theorem d_Win_leastLength_38 : decode b_Win_leastLength 38 = .ok (.iadd, 1) := by decide +kernel
theorem d_Win_leastLength_39 : decode b_Win_leastLength 39 = .ok (.invokevirtual 30, 3) := by decide +kernel
theorem d_Win_leastLength_42 : decode b_Win_leastLength 42 = .ok (.ifCond .ne 10, 3) := by decide +kernel
theorem d_Win_leastLength_45 : decode b_Win_leastLength 45 = .ok (.iload 5, 2) := by decide +kernel
theorem d_Win_leastLength_47 : decode b_Win_leastLength 47 = .ok (.iload 6, 2) := by decide +kernel
theorem d_Win_leastLength_49 : decode b_Win_leastLength 49 = .ok (.iadd, 1) := by decide +kernel
theorem d_Win_leastLength_50 : decode b_Win_leastLength 50 = .ok (.istore 5, 2) := by decide +kernel
theorem d_Win_leastLength_52 : decode b_Win_leastLength 52 = .ok (.iload 6, 2) := by decide +kernel
theorem d_Win_leastLength_54 : decode b_Win_leastLength 54 = .ok (.iconst 1, 1) := by decide +kernel
theorem d_Win_leastLength_55 : decode b_Win_leastLength 55 = .ok (.ishr, 1) := by decide +kernel
theorem d_Win_leastLength_56 : decode b_Win_leastLength 56 = .ok (.istore 6, 2) := by decide +kernel
theorem d_Win_leastLength_58 : decode b_Win_leastLength 58 = .ok (.goto (-35), 3) := by decide +kernel
theorem d_Win_leastLength_61 : decode b_Win_leastLength 61 = .ok (.iload 5, 2) := by decide +kernel
theorem d_Win_leastLength_63 : decode b_Win_leastLength 63 = .ok (.iconst 1, 1) := by decide +kernel
theorem d_Win_leastLength_64 : decode b_Win_leastLength 64 = .ok (.iadd, 1) := by decide +kernel
theorem d_Win_leastLength_65 : decode b_Win_leastLength 65 = .ok (.ireturn, 1) := by decide +kernel
theorem d_Arr_fill_0 : decode b_Arr_fill 0 = .ok (.iconst 0, 1) := by decide +kernel
theorem d_Arr_fill_1 : decode b_Arr_fill 1 = .ok (.istore_n 2, 1) := by decide +kernel
theorem d_Arr_fill_2 : decode b_Arr_fill 2 = .ok (.aload_n 0, 1) := by decide +kernel
theorem d_Arr_fill_3 : decode b_Arr_fill 3 = .ok (.arraylength, 1) := by decide +kernel
theorem d_Arr_fill_4 : decode b_Arr_fill 4 = .ok (.istore_n 3, 1) := by decide +kernel
theorem d_Arr_fill_5 : decode b_Arr_fill 5 = .ok (.iload_n 2, 1) := by decide +kernel
theorem d_Arr_fill_6 : decode b_Arr_fill 6 = .ok (.iload_n 3, 1) := by decide +kernel
theorem d_Arr_fill_7 : decode b_Arr_fill 7 = .ok (.if_icmp .ge 13, 3) := by decide +kernel
theorem d_Arr_fill_10 : decode b_Arr_fill 10 = .ok (.aload_n 0, 1) := by decide +kernel
theorem d_Arr_fill_11 : decode b_Arr_fill 11 = .ok (.iload_n 2, 1) := by decide +kernel
theorem d_Arr_fill_12 : decode b_Arr_fill 12 = .ok (.iload_n 1, 1) := by decide +kernel
theorem d_Arr_fill_13 : decode b_Arr_fill 13 = .ok (.iastore, 1) := by decide +kernel
theorem d_Arr_fill_14 : decode b_Arr_fill 14 = .ok (.iinc 2 1, 3) := by decide +kernel
theorem d_Arr_fill_17 : decode b_Arr_fill 17 = .ok (.goto (-12), 3) := by decide +kernel
theorem d_Arr_fill_20 : decode b_Arr_fill 20 = .ok (.return_, 1) := by decide +kernel
end
section
/-! the state of the class and of the reference, and their cells (by wip/whole/mkstate.py) -/
def ST : Type := (Nat → Int32) × (Nat → Int32) × (Nat → Int32) × (Nat → Int32) × (Nat → Int32) × (Nat → Int32) × (Nat → Int32) × (Nat → Int32) × (Nat → Int32) × (Nat → Int32) × (Nat → Int32) × (Nat → Int32) × (Nat → Int32) × (Nat → Int32) × (Nat → Int32) × (Nat → Int32) × (Nat → Int32) × (Nat → Int32) × (Nat → Int32) × (Nat → Int32) × Int32 × Int32 × Int32 × Int32 × Int32 × Int32 × Int32 × Int32 × Int32 × Int32 × Int32
def q_fl (x : ST) : Nat → Int32 := x.1
def s_fl (x : ST) (v : Nat → Int32) : ST := (v, x.2)
def q_kd (x : ST) : Nat → Int32 := x.2.1
def s_kd (x : ST) (v : Nat → Int32) : ST := (x.1, v, x.2.2)
def q_hz (x : ST) : Nat → Int32 := x.2.2.1
def s_hz (x : ST) (v : Nat → Int32) : ST := (x.1, x.2.1, v, x.2.2.2)
def q_da (x : ST) : Nat → Int32 := x.2.2.2.1
def s_da (x : ST) (v : Nat → Int32) : ST := (x.1, x.2.1, x.2.2.1, v, x.2.2.2.2)
def q_db (x : ST) : Nat → Int32 := x.2.2.2.2.1
def s_db (x : ST) (v : Nat → Int32) : ST := (x.1, x.2.1, x.2.2.1, x.2.2.2.1, v, x.2.2.2.2.2)
def q_dc (x : ST) : Nat → Int32 := x.2.2.2.2.2.1
def s_dc (x : ST) (v : Nat → Int32) : ST := (x.1, x.2.1, x.2.2.1, x.2.2.2.1, x.2.2.2.2.1, v, x.2.2.2.2.2.2)
def q_dk (x : ST) : Nat → Int32 := x.2.2.2.2.2.2.1
def s_dk (x : ST) (v : Nat → Int32) : ST := (x.1, x.2.1, x.2.2.1, x.2.2.2.1, x.2.2.2.2.1, x.2.2.2.2.2.1, v, x.2.2.2.2.2.2.2)
def q_kh (x : ST) : Nat → Int32 := x.2.2.2.2.2.2.2.1
def s_kh (x : ST) (v : Nat → Int32) : ST := (x.1, x.2.1, x.2.2.1, x.2.2.2.1, x.2.2.2.2.1, x.2.2.2.2.2.1, x.2.2.2.2.2.2.1, v, x.2.2.2.2.2.2.2.2)
def q_co (x : ST) : Nat → Int32 := x.2.2.2.2.2.2.2.2.1
def s_co (x : ST) (v : Nat → Int32) : ST := (x.1, x.2.1, x.2.2.1, x.2.2.2.1, x.2.2.2.2.1, x.2.2.2.2.2.1, x.2.2.2.2.2.2.1, x.2.2.2.2.2.2.2.1, v, x.2.2.2.2.2.2.2.2.2)
def q_rd (x : ST) : Nat → Int32 := x.2.2.2.2.2.2.2.2.2.1
def s_rd (x : ST) (v : Nat → Int32) : ST := (x.1, x.2.1, x.2.2.1, x.2.2.2.1, x.2.2.2.2.1, x.2.2.2.2.2.1, x.2.2.2.2.2.2.1, x.2.2.2.2.2.2.2.1, x.2.2.2.2.2.2.2.2.1, v, x.2.2.2.2.2.2.2.2.2.2)
def q_tl (x : ST) : Nat → Int32 := x.2.2.2.2.2.2.2.2.2.2.1
def s_tl (x : ST) (v : Nat → Int32) : ST := (x.1, x.2.1, x.2.2.1, x.2.2.2.1, x.2.2.2.2.1, x.2.2.2.2.2.1, x.2.2.2.2.2.2.1, x.2.2.2.2.2.2.2.1, x.2.2.2.2.2.2.2.2.1, x.2.2.2.2.2.2.2.2.2.1, v, x.2.2.2.2.2.2.2.2.2.2.2)
def q_tn (x : ST) : Nat → Int32 := x.2.2.2.2.2.2.2.2.2.2.2.1
def s_tn (x : ST) (v : Nat → Int32) : ST := (x.1, x.2.1, x.2.2.1, x.2.2.2.1, x.2.2.2.2.1, x.2.2.2.2.2.1, x.2.2.2.2.2.2.1, x.2.2.2.2.2.2.2.1, x.2.2.2.2.2.2.2.2.1, x.2.2.2.2.2.2.2.2.2.1, x.2.2.2.2.2.2.2.2.2.2.1, v, x.2.2.2.2.2.2.2.2.2.2.2.2)
def q_tr (x : ST) : Nat → Int32 := x.2.2.2.2.2.2.2.2.2.2.2.2.1
def s_tr (x : ST) (v : Nat → Int32) : ST := (x.1, x.2.1, x.2.2.1, x.2.2.2.1, x.2.2.2.2.1, x.2.2.2.2.2.1, x.2.2.2.2.2.2.1, x.2.2.2.2.2.2.2.1, x.2.2.2.2.2.2.2.2.1, x.2.2.2.2.2.2.2.2.2.1, x.2.2.2.2.2.2.2.2.2.2.1, x.2.2.2.2.2.2.2.2.2.2.2.1, v, x.2.2.2.2.2.2.2.2.2.2.2.2.2)
def q_pf (x : ST) : Nat → Int32 := x.2.2.2.2.2.2.2.2.2.2.2.2.2.1
def s_pf (x : ST) (v : Nat → Int32) : ST := (x.1, x.2.1, x.2.2.1, x.2.2.2.1, x.2.2.2.2.1, x.2.2.2.2.2.1, x.2.2.2.2.2.2.1, x.2.2.2.2.2.2.2.1, x.2.2.2.2.2.2.2.2.1, x.2.2.2.2.2.2.2.2.2.1, x.2.2.2.2.2.2.2.2.2.2.1, x.2.2.2.2.2.2.2.2.2.2.2.1, x.2.2.2.2.2.2.2.2.2.2.2.2.1, v, x.2.2.2.2.2.2.2.2.2.2.2.2.2.2)
def q_pa (x : ST) : Nat → Int32 := x.2.2.2.2.2.2.2.2.2.2.2.2.2.2.1
def s_pa (x : ST) (v : Nat → Int32) : ST := (x.1, x.2.1, x.2.2.1, x.2.2.2.1, x.2.2.2.2.1, x.2.2.2.2.2.1, x.2.2.2.2.2.2.1, x.2.2.2.2.2.2.2.1, x.2.2.2.2.2.2.2.2.1, x.2.2.2.2.2.2.2.2.2.1, x.2.2.2.2.2.2.2.2.2.2.1, x.2.2.2.2.2.2.2.2.2.2.2.1, x.2.2.2.2.2.2.2.2.2.2.2.2.1, x.2.2.2.2.2.2.2.2.2.2.2.2.2.1, v, x.2.2.2.2.2.2.2.2.2.2.2.2.2.2.2)
def q_pb (x : ST) : Nat → Int32 := x.2.2.2.2.2.2.2.2.2.2.2.2.2.2.2.1
def s_pb (x : ST) (v : Nat → Int32) : ST := (x.1, x.2.1, x.2.2.1, x.2.2.2.1, x.2.2.2.2.1, x.2.2.2.2.2.1, x.2.2.2.2.2.2.1, x.2.2.2.2.2.2.2.1, x.2.2.2.2.2.2.2.2.1, x.2.2.2.2.2.2.2.2.2.1, x.2.2.2.2.2.2.2.2.2.2.1, x.2.2.2.2.2.2.2.2.2.2.2.1, x.2.2.2.2.2.2.2.2.2.2.2.2.1, x.2.2.2.2.2.2.2.2.2.2.2.2.2.1, x.2.2.2.2.2.2.2.2.2.2.2.2.2.2.1, v, x.2.2.2.2.2.2.2.2.2.2.2.2.2.2.2.2)
def q_pn (x : ST) : Nat → Int32 := x.2.2.2.2.2.2.2.2.2.2.2.2.2.2.2.2.1
def s_pn (x : ST) (v : Nat → Int32) : ST := (x.1, x.2.1, x.2.2.1, x.2.2.2.1, x.2.2.2.2.1, x.2.2.2.2.2.1, x.2.2.2.2.2.2.1, x.2.2.2.2.2.2.2.1, x.2.2.2.2.2.2.2.2.1, x.2.2.2.2.2.2.2.2.2.1, x.2.2.2.2.2.2.2.2.2.2.1, x.2.2.2.2.2.2.2.2.2.2.2.1, x.2.2.2.2.2.2.2.2.2.2.2.2.1, x.2.2.2.2.2.2.2.2.2.2.2.2.2.1, x.2.2.2.2.2.2.2.2.2.2.2.2.2.2.1, x.2.2.2.2.2.2.2.2.2.2.2.2.2.2.2.1, v, x.2.2.2.2.2.2.2.2.2.2.2.2.2.2.2.2.2)
def q_wx (x : ST) : Nat → Int32 := x.2.2.2.2.2.2.2.2.2.2.2.2.2.2.2.2.2.1
def s_wx (x : ST) (v : Nat → Int32) : ST := (x.1, x.2.1, x.2.2.1, x.2.2.2.1, x.2.2.2.2.1, x.2.2.2.2.2.1, x.2.2.2.2.2.2.1, x.2.2.2.2.2.2.2.1, x.2.2.2.2.2.2.2.2.1, x.2.2.2.2.2.2.2.2.2.1, x.2.2.2.2.2.2.2.2.2.2.1, x.2.2.2.2.2.2.2.2.2.2.2.1, x.2.2.2.2.2.2.2.2.2.2.2.2.1, x.2.2.2.2.2.2.2.2.2.2.2.2.2.1, x.2.2.2.2.2.2.2.2.2.2.2.2.2.2.1, x.2.2.2.2.2.2.2.2.2.2.2.2.2.2.2.1, x.2.2.2.2.2.2.2.2.2.2.2.2.2.2.2.2.1, v, x.2.2.2.2.2.2.2.2.2.2.2.2.2.2.2.2.2.2)
def q_wy (x : ST) : Nat → Int32 := x.2.2.2.2.2.2.2.2.2.2.2.2.2.2.2.2.2.2.1
def s_wy (x : ST) (v : Nat → Int32) : ST := (x.1, x.2.1, x.2.2.1, x.2.2.2.1, x.2.2.2.2.1, x.2.2.2.2.2.1, x.2.2.2.2.2.2.1, x.2.2.2.2.2.2.2.1, x.2.2.2.2.2.2.2.2.1, x.2.2.2.2.2.2.2.2.2.1, x.2.2.2.2.2.2.2.2.2.2.1, x.2.2.2.2.2.2.2.2.2.2.2.1, x.2.2.2.2.2.2.2.2.2.2.2.2.1, x.2.2.2.2.2.2.2.2.2.2.2.2.2.1, x.2.2.2.2.2.2.2.2.2.2.2.2.2.2.1, x.2.2.2.2.2.2.2.2.2.2.2.2.2.2.2.1, x.2.2.2.2.2.2.2.2.2.2.2.2.2.2.2.2.1, x.2.2.2.2.2.2.2.2.2.2.2.2.2.2.2.2.2.1, v, x.2.2.2.2.2.2.2.2.2.2.2.2.2.2.2.2.2.2.2)
def q_wz (x : ST) : Nat → Int32 := x.2.2.2.2.2.2.2.2.2.2.2.2.2.2.2.2.2.2.2.1
def s_wz (x : ST) (v : Nat → Int32) : ST := (x.1, x.2.1, x.2.2.1, x.2.2.2.1, x.2.2.2.2.1, x.2.2.2.2.2.1, x.2.2.2.2.2.2.1, x.2.2.2.2.2.2.2.1, x.2.2.2.2.2.2.2.2.1, x.2.2.2.2.2.2.2.2.2.1, x.2.2.2.2.2.2.2.2.2.2.1, x.2.2.2.2.2.2.2.2.2.2.2.1, x.2.2.2.2.2.2.2.2.2.2.2.2.1, x.2.2.2.2.2.2.2.2.2.2.2.2.2.1, x.2.2.2.2.2.2.2.2.2.2.2.2.2.2.1, x.2.2.2.2.2.2.2.2.2.2.2.2.2.2.2.1, x.2.2.2.2.2.2.2.2.2.2.2.2.2.2.2.2.1, x.2.2.2.2.2.2.2.2.2.2.2.2.2.2.2.2.2.1, x.2.2.2.2.2.2.2.2.2.2.2.2.2.2.2.2.2.2.1, v, x.2.2.2.2.2.2.2.2.2.2.2.2.2.2.2.2.2.2.2.2)
def q_rn (x : ST) : Int32 := x.2.2.2.2.2.2.2.2.2.2.2.2.2.2.2.2.2.2.2.2.1
def s_rn (x : ST) (v : Int32) : ST := (x.1, x.2.1, x.2.2.1, x.2.2.2.1, x.2.2.2.2.1, x.2.2.2.2.2.1, x.2.2.2.2.2.2.1, x.2.2.2.2.2.2.2.1, x.2.2.2.2.2.2.2.2.1, x.2.2.2.2.2.2.2.2.2.1, x.2.2.2.2.2.2.2.2.2.2.1, x.2.2.2.2.2.2.2.2.2.2.2.1, x.2.2.2.2.2.2.2.2.2.2.2.2.1, x.2.2.2.2.2.2.2.2.2.2.2.2.2.1, x.2.2.2.2.2.2.2.2.2.2.2.2.2.2.1, x.2.2.2.2.2.2.2.2.2.2.2.2.2.2.2.1, x.2.2.2.2.2.2.2.2.2.2.2.2.2.2.2.2.1, x.2.2.2.2.2.2.2.2.2.2.2.2.2.2.2.2.2.1, x.2.2.2.2.2.2.2.2.2.2.2.2.2.2.2.2.2.2.1, x.2.2.2.2.2.2.2.2.2.2.2.2.2.2.2.2.2.2.2.1, v, x.2.2.2.2.2.2.2.2.2.2.2.2.2.2.2.2.2.2.2.2.2)
def q_dn (x : ST) : Int32 := x.2.2.2.2.2.2.2.2.2.2.2.2.2.2.2.2.2.2.2.2.2.1
def s_dn (x : ST) (v : Int32) : ST := (x.1, x.2.1, x.2.2.1, x.2.2.2.1, x.2.2.2.2.1, x.2.2.2.2.2.1, x.2.2.2.2.2.2.1, x.2.2.2.2.2.2.2.1, x.2.2.2.2.2.2.2.2.1, x.2.2.2.2.2.2.2.2.2.1, x.2.2.2.2.2.2.2.2.2.2.1, x.2.2.2.2.2.2.2.2.2.2.2.1, x.2.2.2.2.2.2.2.2.2.2.2.2.1, x.2.2.2.2.2.2.2.2.2.2.2.2.2.1, x.2.2.2.2.2.2.2.2.2.2.2.2.2.2.1, x.2.2.2.2.2.2.2.2.2.2.2.2.2.2.2.1, x.2.2.2.2.2.2.2.2.2.2.2.2.2.2.2.2.1, x.2.2.2.2.2.2.2.2.2.2.2.2.2.2.2.2.2.1, x.2.2.2.2.2.2.2.2.2.2.2.2.2.2.2.2.2.2.1, x.2.2.2.2.2.2.2.2.2.2.2.2.2.2.2.2.2.2.2.1, x.2.2.2.2.2.2.2.2.2.2.2.2.2.2.2.2.2.2.2.2.1, v, x.2.2.2.2.2.2.2.2.2.2.2.2.2.2.2.2.2.2.2.2.2.2)
def q_kn (x : ST) : Int32 := x.2.2.2.2.2.2.2.2.2.2.2.2.2.2.2.2.2.2.2.2.2.2.1
def s_kn (x : ST) (v : Int32) : ST := (x.1, x.2.1, x.2.2.1, x.2.2.2.1, x.2.2.2.2.1, x.2.2.2.2.2.1, x.2.2.2.2.2.2.1, x.2.2.2.2.2.2.2.1, x.2.2.2.2.2.2.2.2.1, x.2.2.2.2.2.2.2.2.2.1, x.2.2.2.2.2.2.2.2.2.2.1, x.2.2.2.2.2.2.2.2.2.2.2.1, x.2.2.2.2.2.2.2.2.2.2.2.2.1, x.2.2.2.2.2.2.2.2.2.2.2.2.2.1, x.2.2.2.2.2.2.2.2.2.2.2.2.2.2.1, x.2.2.2.2.2.2.2.2.2.2.2.2.2.2.2.1, x.2.2.2.2.2.2.2.2.2.2.2.2.2.2.2.2.1, x.2.2.2.2.2.2.2.2.2.2.2.2.2.2.2.2.2.1, x.2.2.2.2.2.2.2.2.2.2.2.2.2.2.2.2.2.2.1, x.2.2.2.2.2.2.2.2.2.2.2.2.2.2.2.2.2.2.2.1, x.2.2.2.2.2.2.2.2.2.2.2.2.2.2.2.2.2.2.2.2.1, x.2.2.2.2.2.2.2.2.2.2.2.2.2.2.2.2.2.2.2.2.2.1, v, x.2.2.2.2.2.2.2.2.2.2.2.2.2.2.2.2.2.2.2.2.2.2.2)
def q_rl (x : ST) : Int32 := x.2.2.2.2.2.2.2.2.2.2.2.2.2.2.2.2.2.2.2.2.2.2.2.1
def s_rl (x : ST) (v : Int32) : ST := (x.1, x.2.1, x.2.2.1, x.2.2.2.1, x.2.2.2.2.1, x.2.2.2.2.2.1, x.2.2.2.2.2.2.1, x.2.2.2.2.2.2.2.1, x.2.2.2.2.2.2.2.2.1, x.2.2.2.2.2.2.2.2.2.1, x.2.2.2.2.2.2.2.2.2.2.1, x.2.2.2.2.2.2.2.2.2.2.2.1, x.2.2.2.2.2.2.2.2.2.2.2.2.1, x.2.2.2.2.2.2.2.2.2.2.2.2.2.1, x.2.2.2.2.2.2.2.2.2.2.2.2.2.2.1, x.2.2.2.2.2.2.2.2.2.2.2.2.2.2.2.1, x.2.2.2.2.2.2.2.2.2.2.2.2.2.2.2.2.1, x.2.2.2.2.2.2.2.2.2.2.2.2.2.2.2.2.2.1, x.2.2.2.2.2.2.2.2.2.2.2.2.2.2.2.2.2.2.1, x.2.2.2.2.2.2.2.2.2.2.2.2.2.2.2.2.2.2.2.1, x.2.2.2.2.2.2.2.2.2.2.2.2.2.2.2.2.2.2.2.2.1, x.2.2.2.2.2.2.2.2.2.2.2.2.2.2.2.2.2.2.2.2.2.1, x.2.2.2.2.2.2.2.2.2.2.2.2.2.2.2.2.2.2.2.2.2.2.1, v, x.2.2.2.2.2.2.2.2.2.2.2.2.2.2.2.2.2.2.2.2.2.2.2.2)
def q_rs (x : ST) : Int32 := x.2.2.2.2.2.2.2.2.2.2.2.2.2.2.2.2.2.2.2.2.2.2.2.2.1
def s_rs (x : ST) (v : Int32) : ST := (x.1, x.2.1, x.2.2.1, x.2.2.2.1, x.2.2.2.2.1, x.2.2.2.2.2.1, x.2.2.2.2.2.2.1, x.2.2.2.2.2.2.2.1, x.2.2.2.2.2.2.2.2.1, x.2.2.2.2.2.2.2.2.2.1, x.2.2.2.2.2.2.2.2.2.2.1, x.2.2.2.2.2.2.2.2.2.2.2.1, x.2.2.2.2.2.2.2.2.2.2.2.2.1, x.2.2.2.2.2.2.2.2.2.2.2.2.2.1, x.2.2.2.2.2.2.2.2.2.2.2.2.2.2.1, x.2.2.2.2.2.2.2.2.2.2.2.2.2.2.2.1, x.2.2.2.2.2.2.2.2.2.2.2.2.2.2.2.2.1, x.2.2.2.2.2.2.2.2.2.2.2.2.2.2.2.2.2.1, x.2.2.2.2.2.2.2.2.2.2.2.2.2.2.2.2.2.2.1, x.2.2.2.2.2.2.2.2.2.2.2.2.2.2.2.2.2.2.2.1, x.2.2.2.2.2.2.2.2.2.2.2.2.2.2.2.2.2.2.2.2.1, x.2.2.2.2.2.2.2.2.2.2.2.2.2.2.2.2.2.2.2.2.2.1, x.2.2.2.2.2.2.2.2.2.2.2.2.2.2.2.2.2.2.2.2.2.2.1, x.2.2.2.2.2.2.2.2.2.2.2.2.2.2.2.2.2.2.2.2.2.2.2.1, v, x.2.2.2.2.2.2.2.2.2.2.2.2.2.2.2.2.2.2.2.2.2.2.2.2.2)
def q_re (x : ST) : Int32 := x.2.2.2.2.2.2.2.2.2.2.2.2.2.2.2.2.2.2.2.2.2.2.2.2.2.1
def s_re (x : ST) (v : Int32) : ST := (x.1, x.2.1, x.2.2.1, x.2.2.2.1, x.2.2.2.2.1, x.2.2.2.2.2.1, x.2.2.2.2.2.2.1, x.2.2.2.2.2.2.2.1, x.2.2.2.2.2.2.2.2.1, x.2.2.2.2.2.2.2.2.2.1, x.2.2.2.2.2.2.2.2.2.2.1, x.2.2.2.2.2.2.2.2.2.2.2.1, x.2.2.2.2.2.2.2.2.2.2.2.2.1, x.2.2.2.2.2.2.2.2.2.2.2.2.2.1, x.2.2.2.2.2.2.2.2.2.2.2.2.2.2.1, x.2.2.2.2.2.2.2.2.2.2.2.2.2.2.2.1, x.2.2.2.2.2.2.2.2.2.2.2.2.2.2.2.2.1, x.2.2.2.2.2.2.2.2.2.2.2.2.2.2.2.2.2.1, x.2.2.2.2.2.2.2.2.2.2.2.2.2.2.2.2.2.2.1, x.2.2.2.2.2.2.2.2.2.2.2.2.2.2.2.2.2.2.2.1, x.2.2.2.2.2.2.2.2.2.2.2.2.2.2.2.2.2.2.2.2.1, x.2.2.2.2.2.2.2.2.2.2.2.2.2.2.2.2.2.2.2.2.2.1, x.2.2.2.2.2.2.2.2.2.2.2.2.2.2.2.2.2.2.2.2.2.2.1, x.2.2.2.2.2.2.2.2.2.2.2.2.2.2.2.2.2.2.2.2.2.2.2.1, x.2.2.2.2.2.2.2.2.2.2.2.2.2.2.2.2.2.2.2.2.2.2.2.2.1, v, x.2.2.2.2.2.2.2.2.2.2.2.2.2.2.2.2.2.2.2.2.2.2.2.2.2.2)
def q_tc (x : ST) : Int32 := x.2.2.2.2.2.2.2.2.2.2.2.2.2.2.2.2.2.2.2.2.2.2.2.2.2.2.1
def s_tc (x : ST) (v : Int32) : ST := (x.1, x.2.1, x.2.2.1, x.2.2.2.1, x.2.2.2.2.1, x.2.2.2.2.2.1, x.2.2.2.2.2.2.1, x.2.2.2.2.2.2.2.1, x.2.2.2.2.2.2.2.2.1, x.2.2.2.2.2.2.2.2.2.1, x.2.2.2.2.2.2.2.2.2.2.1, x.2.2.2.2.2.2.2.2.2.2.2.1, x.2.2.2.2.2.2.2.2.2.2.2.2.1, x.2.2.2.2.2.2.2.2.2.2.2.2.2.1, x.2.2.2.2.2.2.2.2.2.2.2.2.2.2.1, x.2.2.2.2.2.2.2.2.2.2.2.2.2.2.2.1, x.2.2.2.2.2.2.2.2.2.2.2.2.2.2.2.2.1, x.2.2.2.2.2.2.2.2.2.2.2.2.2.2.2.2.2.1, x.2.2.2.2.2.2.2.2.2.2.2.2.2.2.2.2.2.2.1, x.2.2.2.2.2.2.2.2.2.2.2.2.2.2.2.2.2.2.2.1, x.2.2.2.2.2.2.2.2.2.2.2.2.2.2.2.2.2.2.2.2.1, x.2.2.2.2.2.2.2.2.2.2.2.2.2.2.2.2.2.2.2.2.2.1, x.2.2.2.2.2.2.2.2.2.2.2.2.2.2.2.2.2.2.2.2.2.2.1, x.2.2.2.2.2.2.2.2.2.2.2.2.2.2.2.2.2.2.2.2.2.2.2.1, x.2.2.2.2.2.2.2.2.2.2.2.2.2.2.2.2.2.2.2.2.2.2.2.2.1, x.2.2.2.2.2.2.2.2.2.2.2.2.2.2.2.2.2.2.2.2.2.2.2.2.2.1, v, x.2.2.2.2.2.2.2.2.2.2.2.2.2.2.2.2.2.2.2.2.2.2.2.2.2.2.2)
def q_pc (x : ST) : Int32 := x.2.2.2.2.2.2.2.2.2.2.2.2.2.2.2.2.2.2.2.2.2.2.2.2.2.2.2.1
def s_pc (x : ST) (v : Int32) : ST := (x.1, x.2.1, x.2.2.1, x.2.2.2.1, x.2.2.2.2.1, x.2.2.2.2.2.1, x.2.2.2.2.2.2.1, x.2.2.2.2.2.2.2.1, x.2.2.2.2.2.2.2.2.1, x.2.2.2.2.2.2.2.2.2.1, x.2.2.2.2.2.2.2.2.2.2.1, x.2.2.2.2.2.2.2.2.2.2.2.1, x.2.2.2.2.2.2.2.2.2.2.2.2.1, x.2.2.2.2.2.2.2.2.2.2.2.2.2.1, x.2.2.2.2.2.2.2.2.2.2.2.2.2.2.1, x.2.2.2.2.2.2.2.2.2.2.2.2.2.2.2.1, x.2.2.2.2.2.2.2.2.2.2.2.2.2.2.2.2.1, x.2.2.2.2.2.2.2.2.2.2.2.2.2.2.2.2.2.1, x.2.2.2.2.2.2.2.2.2.2.2.2.2.2.2.2.2.2.1, x.2.2.2.2.2.2.2.2.2.2.2.2.2.2.2.2.2.2.2.1, x.2.2.2.2.2.2.2.2.2.2.2.2.2.2.2.2.2.2.2.2.1, x.2.2.2.2.2.2.2.2.2.2.2.2.2.2.2.2.2.2.2.2.2.1, x.2.2.2.2.2.2.2.2.2.2.2.2.2.2.2.2.2.2.2.2.2.2.1, x.2.2.2.2.2.2.2.2.2.2.2.2.2.2.2.2.2.2.2.2.2.2.2.1, x.2.2.2.2.2.2.2.2.2.2.2.2.2.2.2.2.2.2.2.2.2.2.2.2.1, x.2.2.2.2.2.2.2.2.2.2.2.2.2.2.2.2.2.2.2.2.2.2.2.2.2.1, x.2.2.2.2.2.2.2.2.2.2.2.2.2.2.2.2.2.2.2.2.2.2.2.2.2.2.1, v, x.2.2.2.2.2.2.2.2.2.2.2.2.2.2.2.2.2.2.2.2.2.2.2.2.2.2.2.2)
def q_wc (x : ST) : Int32 := x.2.2.2.2.2.2.2.2.2.2.2.2.2.2.2.2.2.2.2.2.2.2.2.2.2.2.2.2.1
def s_wc (x : ST) (v : Int32) : ST := (x.1, x.2.1, x.2.2.1, x.2.2.2.1, x.2.2.2.2.1, x.2.2.2.2.2.1, x.2.2.2.2.2.2.1, x.2.2.2.2.2.2.2.1, x.2.2.2.2.2.2.2.2.1, x.2.2.2.2.2.2.2.2.2.1, x.2.2.2.2.2.2.2.2.2.2.1, x.2.2.2.2.2.2.2.2.2.2.2.1, x.2.2.2.2.2.2.2.2.2.2.2.2.1, x.2.2.2.2.2.2.2.2.2.2.2.2.2.1, x.2.2.2.2.2.2.2.2.2.2.2.2.2.2.1, x.2.2.2.2.2.2.2.2.2.2.2.2.2.2.2.1, x.2.2.2.2.2.2.2.2.2.2.2.2.2.2.2.2.1, x.2.2.2.2.2.2.2.2.2.2.2.2.2.2.2.2.2.1, x.2.2.2.2.2.2.2.2.2.2.2.2.2.2.2.2.2.2.1, x.2.2.2.2.2.2.2.2.2.2.2.2.2.2.2.2.2.2.2.1, x.2.2.2.2.2.2.2.2.2.2.2.2.2.2.2.2.2.2.2.2.1, x.2.2.2.2.2.2.2.2.2.2.2.2.2.2.2.2.2.2.2.2.2.1, x.2.2.2.2.2.2.2.2.2.2.2.2.2.2.2.2.2.2.2.2.2.2.1, x.2.2.2.2.2.2.2.2.2.2.2.2.2.2.2.2.2.2.2.2.2.2.2.1, x.2.2.2.2.2.2.2.2.2.2.2.2.2.2.2.2.2.2.2.2.2.2.2.2.1, x.2.2.2.2.2.2.2.2.2.2.2.2.2.2.2.2.2.2.2.2.2.2.2.2.2.1, x.2.2.2.2.2.2.2.2.2.2.2.2.2.2.2.2.2.2.2.2.2.2.2.2.2.2.1, x.2.2.2.2.2.2.2.2.2.2.2.2.2.2.2.2.2.2.2.2.2.2.2.2.2.2.2.1, v, x.2.2.2.2.2.2.2.2.2.2.2.2.2.2.2.2.2.2.2.2.2.2.2.2.2.2.2.2.2)
def q_ld (x : ST) : Int32 := x.2.2.2.2.2.2.2.2.2.2.2.2.2.2.2.2.2.2.2.2.2.2.2.2.2.2.2.2.2.1
def s_ld (x : ST) (v : Int32) : ST := (x.1, x.2.1, x.2.2.1, x.2.2.2.1, x.2.2.2.2.1, x.2.2.2.2.2.1, x.2.2.2.2.2.2.1, x.2.2.2.2.2.2.2.1, x.2.2.2.2.2.2.2.2.1, x.2.2.2.2.2.2.2.2.2.1, x.2.2.2.2.2.2.2.2.2.2.1, x.2.2.2.2.2.2.2.2.2.2.2.1, x.2.2.2.2.2.2.2.2.2.2.2.2.1, x.2.2.2.2.2.2.2.2.2.2.2.2.2.1, x.2.2.2.2.2.2.2.2.2.2.2.2.2.2.1, x.2.2.2.2.2.2.2.2.2.2.2.2.2.2.2.1, x.2.2.2.2.2.2.2.2.2.2.2.2.2.2.2.2.1, x.2.2.2.2.2.2.2.2.2.2.2.2.2.2.2.2.2.1, x.2.2.2.2.2.2.2.2.2.2.2.2.2.2.2.2.2.2.1, x.2.2.2.2.2.2.2.2.2.2.2.2.2.2.2.2.2.2.2.1, x.2.2.2.2.2.2.2.2.2.2.2.2.2.2.2.2.2.2.2.2.1, x.2.2.2.2.2.2.2.2.2.2.2.2.2.2.2.2.2.2.2.2.2.1, x.2.2.2.2.2.2.2.2.2.2.2.2.2.2.2.2.2.2.2.2.2.2.1, x.2.2.2.2.2.2.2.2.2.2.2.2.2.2.2.2.2.2.2.2.2.2.2.1, x.2.2.2.2.2.2.2.2.2.2.2.2.2.2.2.2.2.2.2.2.2.2.2.2.1, x.2.2.2.2.2.2.2.2.2.2.2.2.2.2.2.2.2.2.2.2.2.2.2.2.2.1, x.2.2.2.2.2.2.2.2.2.2.2.2.2.2.2.2.2.2.2.2.2.2.2.2.2.2.1, x.2.2.2.2.2.2.2.2.2.2.2.2.2.2.2.2.2.2.2.2.2.2.2.2.2.2.2.1, x.2.2.2.2.2.2.2.2.2.2.2.2.2.2.2.2.2.2.2.2.2.2.2.2.2.2.2.2.1, v, x.2.2.2.2.2.2.2.2.2.2.2.2.2.2.2.2.2.2.2.2.2.2.2.2.2.2.2.2.2.2)
def q_lt (x : ST) : Int32 := x.2.2.2.2.2.2.2.2.2.2.2.2.2.2.2.2.2.2.2.2.2.2.2.2.2.2.2.2.2.2
def s_lt (x : ST) (v : Int32) : ST := (x.1, x.2.1, x.2.2.1, x.2.2.2.1, x.2.2.2.2.1, x.2.2.2.2.2.1, x.2.2.2.2.2.2.1, x.2.2.2.2.2.2.2.1, x.2.2.2.2.2.2.2.2.1, x.2.2.2.2.2.2.2.2.2.1, x.2.2.2.2.2.2.2.2.2.2.1, x.2.2.2.2.2.2.2.2.2.2.2.1, x.2.2.2.2.2.2.2.2.2.2.2.2.1, x.2.2.2.2.2.2.2.2.2.2.2.2.2.1, x.2.2.2.2.2.2.2.2.2.2.2.2.2.2.1, x.2.2.2.2.2.2.2.2.2.2.2.2.2.2.2.1, x.2.2.2.2.2.2.2.2.2.2.2.2.2.2.2.2.1, x.2.2.2.2.2.2.2.2.2.2.2.2.2.2.2.2.2.1, x.2.2.2.2.2.2.2.2.2.2.2.2.2.2.2.2.2.2.1, x.2.2.2.2.2.2.2.2.2.2.2.2.2.2.2.2.2.2.2.1, x.2.2.2.2.2.2.2.2.2.2.2.2.2.2.2.2.2.2.2.2.1, x.2.2.2.2.2.2.2.2.2.2.2.2.2.2.2.2.2.2.2.2.2.1, x.2.2.2.2.2.2.2.2.2.2.2.2.2.2.2.2.2.2.2.2.2.2.1, x.2.2.2.2.2.2.2.2.2.2.2.2.2.2.2.2.2.2.2.2.2.2.2.1, x.2.2.2.2.2.2.2.2.2.2.2.2.2.2.2.2.2.2.2.2.2.2.2.2.1, x.2.2.2.2.2.2.2.2.2.2.2.2.2.2.2.2.2.2.2.2.2.2.2.2.2.1, x.2.2.2.2.2.2.2.2.2.2.2.2.2.2.2.2.2.2.2.2.2.2.2.2.2.2.1, x.2.2.2.2.2.2.2.2.2.2.2.2.2.2.2.2.2.2.2.2.2.2.2.2.2.2.2.1, x.2.2.2.2.2.2.2.2.2.2.2.2.2.2.2.2.2.2.2.2.2.2.2.2.2.2.2.2.1, x.2.2.2.2.2.2.2.2.2.2.2.2.2.2.2.2.2.2.2.2.2.2.2.2.2.2.2.2.2.1, v)
def wC (cI cZ : ClassId) (ad : Nat → Nat) (x : ST) : va_W := [(ad 0, .inr (8, [.ref (ad 1), .ref (ad 2), .ref (ad 3), .ref (ad 4), .ref (ad 5), .ref (ad 6), .ref (ad 7), .ref (ad 8), .int (q_ld x), .int (q_lt x)])), (ad 1, .inr (4, [.ref (ad 9), .ref (ad 10), .ref (ad 11), .int (q_rn x)])), (ad 2, .inr (2, [.ref (ad 12), .ref (ad 13), .ref (ad 14), .ref (ad 15), .int (q_dn x)])), (ad 3, .inr (3, [.ref (ad 16), .int (q_kn x)])), (ad 4, .inr (6, [.ref (ad 1), .ref (ad 2), .ref (ad 3), .ref (ad 17)])), (ad 5, .inr (5, [.ref (ad 18), .int (q_rl x), .int (q_rs x), .int (q_re x)])), (ad 6, .inr (1, [.ref (ad 19), .ref (ad 20), .ref (ad 21), .int (q_tc x)])), (ad 7, .inr (0, [.ref (ad 22), .ref (ad 23), .ref (ad 24), .ref (ad 25), .int (q_pc x)])), (ad 8, .inr (7, [.ref (ad 26), .ref (ad 27), .ref (ad 28), .int (q_wc x)])), (ad 9, .inl (cI, 40, .inl (q_fl x))), (ad 10, .inl (cI, 40, .inl (q_kd x))), (ad 11, .inl (cI, 40, .inl (q_hz x))), (ad 12, .inl (cI, 80, .inl (q_da x))), (ad 13, .inl (cI, 80, .inl (q_db x))), (ad 14, .inl (cI, 80, .inl (q_dc x))), (ad 15, .inl (cI, 80, .inl (q_dk x))), (ad 16, .inl (cZ, 31, .inl (q_kh x))), (ad 17, .inl (cI, 40, .inl (q_co x))), (ad 18, .inl (cI, 40, .inl (q_rd x))), (ad 19, .inl (cI, 100, .inl (q_tl x))), (ad 20, .inl (cI, 100, .inl (q_tn x))), (ad 21, .inl (cI, 100, .inl (q_tr x))), (ad 22, .inl (cI, 60, .inl (q_pf x))), (ad 23, .inl (cI, 60, .inl (q_pa x))), (ad 24, .inl (cI, 60, .inl (q_pb x))), (ad 25, .inl (cI, 60, .inl (q_pn x))), (ad 26, .inl (cI, 30, .inl (q_wx x))), (ad 27, .inl (cI, 30, .inl (q_wy x))), (ad 28, .inl (cI, 30, .inl (q_wz x)))]
theorem wC_s_ld (cI cZ : ClassId) (ad : Nat → Nat) (x : ST) (v : Int32) : (wC cI cZ ad x).set 0 (ad 0, .inr (8, [.ref (ad 1), .ref (ad 2), .ref (ad 3), .ref (ad 4), .ref (ad 5), .ref (ad 6), .ref (ad 7), .ref (ad 8), .int (q_ld x), .int (q_lt x)].set 8 (.int v))) = wC cI cZ ad (s_ld x v) := rfl
theorem wC_s_lt (cI cZ : ClassId) (ad : Nat → Nat) (x : ST) (v : Int32) : (wC cI cZ ad x).set 0 (ad 0, .inr (8, [.ref (ad 1), .ref (ad 2), .ref (ad 3), .ref (ad 4), .ref (ad 5), .ref (ad 6), .ref (ad 7), .ref (ad 8), .int (q_ld x), .int (q_lt x)].set 9 (.int v))) = wC cI cZ ad (s_lt x v) := rfl
theorem wC_s_rn (cI cZ : ClassId) (ad : Nat → Nat) (x : ST) (v : Int32) : (wC cI cZ ad x).set 1 (ad 1, .inr (4, [.ref (ad 9), .ref (ad 10), .ref (ad 11), .int (q_rn x)].set 3 (.int v))) = wC cI cZ ad (s_rn x v) := rfl
theorem wC_s_dn (cI cZ : ClassId) (ad : Nat → Nat) (x : ST) (v : Int32) : (wC cI cZ ad x).set 2 (ad 2, .inr (2, [.ref (ad 12), .ref (ad 13), .ref (ad 14), .ref (ad 15), .int (q_dn x)].set 4 (.int v))) = wC cI cZ ad (s_dn x v) := rfl
theorem wC_s_kn (cI cZ : ClassId) (ad : Nat → Nat) (x : ST) (v : Int32) : (wC cI cZ ad x).set 3 (ad 3, .inr (3, [.ref (ad 16), .int (q_kn x)].set 1 (.int v))) = wC cI cZ ad (s_kn x v) := rfl
theorem wC_s_rl (cI cZ : ClassId) (ad : Nat → Nat) (x : ST) (v : Int32) : (wC cI cZ ad x).set 5 (ad 5, .inr (5, [.ref (ad 18), .int (q_rl x), .int (q_rs x), .int (q_re x)].set 1 (.int v))) = wC cI cZ ad (s_rl x v) := rfl
theorem wC_s_rs (cI cZ : ClassId) (ad : Nat → Nat) (x : ST) (v : Int32) : (wC cI cZ ad x).set 5 (ad 5, .inr (5, [.ref (ad 18), .int (q_rl x), .int (q_rs x), .int (q_re x)].set 2 (.int v))) = wC cI cZ ad (s_rs x v) := rfl
theorem wC_s_re (cI cZ : ClassId) (ad : Nat → Nat) (x : ST) (v : Int32) : (wC cI cZ ad x).set 5 (ad 5, .inr (5, [.ref (ad 18), .int (q_rl x), .int (q_rs x), .int (q_re x)].set 3 (.int v))) = wC cI cZ ad (s_re x v) := rfl
theorem wC_s_tc (cI cZ : ClassId) (ad : Nat → Nat) (x : ST) (v : Int32) : (wC cI cZ ad x).set 6 (ad 6, .inr (1, [.ref (ad 19), .ref (ad 20), .ref (ad 21), .int (q_tc x)].set 3 (.int v))) = wC cI cZ ad (s_tc x v) := rfl
theorem wC_s_pc (cI cZ : ClassId) (ad : Nat → Nat) (x : ST) (v : Int32) : (wC cI cZ ad x).set 7 (ad 7, .inr (0, [.ref (ad 22), .ref (ad 23), .ref (ad 24), .ref (ad 25), .int (q_pc x)].set 4 (.int v))) = wC cI cZ ad (s_pc x v) := rfl
theorem wC_s_wc (cI cZ : ClassId) (ad : Nat → Nat) (x : ST) (v : Int32) : (wC cI cZ ad x).set 8 (ad 8, .inr (7, [.ref (ad 26), .ref (ad 27), .ref (ad 28), .int (q_wc x)].set 3 (.int v))) = wC cI cZ ad (s_wc x v) := rfl
theorem wC_s_fl (cI cZ : ClassId) (ad : Nat → Nat) (x : ST) (v : Nat → Int32) : (wC cI cZ ad x).set 9 (ad 9, .inl (cI, 40, .inl v)) = wC cI cZ ad (s_fl x v) := rfl
theorem wC_s_kd (cI cZ : ClassId) (ad : Nat → Nat) (x : ST) (v : Nat → Int32) : (wC cI cZ ad x).set 10 (ad 10, .inl (cI, 40, .inl v)) = wC cI cZ ad (s_kd x v) := rfl
theorem wC_s_hz (cI cZ : ClassId) (ad : Nat → Nat) (x : ST) (v : Nat → Int32) : (wC cI cZ ad x).set 11 (ad 11, .inl (cI, 40, .inl v)) = wC cI cZ ad (s_hz x v) := rfl
theorem wC_s_da (cI cZ : ClassId) (ad : Nat → Nat) (x : ST) (v : Nat → Int32) : (wC cI cZ ad x).set 12 (ad 12, .inl (cI, 80, .inl v)) = wC cI cZ ad (s_da x v) := rfl
theorem wC_s_db (cI cZ : ClassId) (ad : Nat → Nat) (x : ST) (v : Nat → Int32) : (wC cI cZ ad x).set 13 (ad 13, .inl (cI, 80, .inl v)) = wC cI cZ ad (s_db x v) := rfl
theorem wC_s_dc (cI cZ : ClassId) (ad : Nat → Nat) (x : ST) (v : Nat → Int32) : (wC cI cZ ad x).set 14 (ad 14, .inl (cI, 80, .inl v)) = wC cI cZ ad (s_dc x v) := rfl
theorem wC_s_dk (cI cZ : ClassId) (ad : Nat → Nat) (x : ST) (v : Nat → Int32) : (wC cI cZ ad x).set 15 (ad 15, .inl (cI, 80, .inl v)) = wC cI cZ ad (s_dk x v) := rfl
theorem wC_s_kh (cI cZ : ClassId) (ad : Nat → Nat) (x : ST) (v : Nat → Int32) : (wC cI cZ ad x).set 16 (ad 16, .inl (cZ, 31, .inl v)) = wC cI cZ ad (s_kh x v) := rfl
theorem wC_s_co (cI cZ : ClassId) (ad : Nat → Nat) (x : ST) (v : Nat → Int32) : (wC cI cZ ad x).set 17 (ad 17, .inl (cI, 40, .inl v)) = wC cI cZ ad (s_co x v) := rfl
theorem wC_s_rd (cI cZ : ClassId) (ad : Nat → Nat) (x : ST) (v : Nat → Int32) : (wC cI cZ ad x).set 18 (ad 18, .inl (cI, 40, .inl v)) = wC cI cZ ad (s_rd x v) := rfl
theorem wC_s_tl (cI cZ : ClassId) (ad : Nat → Nat) (x : ST) (v : Nat → Int32) : (wC cI cZ ad x).set 19 (ad 19, .inl (cI, 100, .inl v)) = wC cI cZ ad (s_tl x v) := rfl
theorem wC_s_tn (cI cZ : ClassId) (ad : Nat → Nat) (x : ST) (v : Nat → Int32) : (wC cI cZ ad x).set 20 (ad 20, .inl (cI, 100, .inl v)) = wC cI cZ ad (s_tn x v) := rfl
theorem wC_s_tr (cI cZ : ClassId) (ad : Nat → Nat) (x : ST) (v : Nat → Int32) : (wC cI cZ ad x).set 21 (ad 21, .inl (cI, 100, .inl v)) = wC cI cZ ad (s_tr x v) := rfl
theorem wC_s_pf (cI cZ : ClassId) (ad : Nat → Nat) (x : ST) (v : Nat → Int32) : (wC cI cZ ad x).set 22 (ad 22, .inl (cI, 60, .inl v)) = wC cI cZ ad (s_pf x v) := rfl
theorem wC_s_pa (cI cZ : ClassId) (ad : Nat → Nat) (x : ST) (v : Nat → Int32) : (wC cI cZ ad x).set 23 (ad 23, .inl (cI, 60, .inl v)) = wC cI cZ ad (s_pa x v) := rfl
theorem wC_s_pb (cI cZ : ClassId) (ad : Nat → Nat) (x : ST) (v : Nat → Int32) : (wC cI cZ ad x).set 24 (ad 24, .inl (cI, 60, .inl v)) = wC cI cZ ad (s_pb x v) := rfl
theorem wC_s_pn (cI cZ : ClassId) (ad : Nat → Nat) (x : ST) (v : Nat → Int32) : (wC cI cZ ad x).set 25 (ad 25, .inl (cI, 60, .inl v)) = wC cI cZ ad (s_pn x v) := rfl
theorem wC_s_wx (cI cZ : ClassId) (ad : Nat → Nat) (x : ST) (v : Nat → Int32) : (wC cI cZ ad x).set 26 (ad 26, .inl (cI, 30, .inl v)) = wC cI cZ ad (s_wx x v) := rfl
theorem wC_s_wy (cI cZ : ClassId) (ad : Nat → Nat) (x : ST) (v : Nat → Int32) : (wC cI cZ ad x).set 27 (ad 27, .inl (cI, 30, .inl v)) = wC cI cZ ad (s_wy x v) := rfl
theorem wC_s_wz (cI cZ : ClassId) (ad : Nat → Nat) (x : ST) (v : Nat → Int32) : (wC cI cZ ad x).set 28 (ad 28, .inl (cI, 30, .inl v)) = wC cI cZ ad (s_wz x v) := rfl
theorem wC_ad (cI cZ : ClassId) (ad : Nat → Nat) (x : ST) : (wC cI cZ ad x).map (·.1) = (List.range 29).map ad := rfl
def RT : Type := (Nat → Int32) × (Nat → Int32) × (Nat → Int32) × (Nat → Int32) × (Nat → Int32) × (Nat → Int32) × (Nat → Int32) × (Nat → Int32) × (Nat → Int32) × (Nat → Int32) × (Nat → Int32) × (Nat → Int32) × (Nat → Int32) × (Nat → Int32) × (Nat → Int32) × (Nat → Int32) × (Nat → Int32) × (Nat → Int32) × (Nat → Int32) × (Nat → Int32) × Int32 × Int32 × Int32 × Int32 × Int32 × Int32 × Int32 × Int32 × Int32 × Int32 × Int32
def q_m_floor (x : RT) : Nat → Int32 := x.1
def s_m_floor (x : RT) (v : Nat → Int32) : RT := (v, x.2)
def q_m_kind (x : RT) : Nat → Int32 := x.2.1
def s_m_kind (x : RT) (v : Nat → Int32) : RT := (x.1, v, x.2.2)
def q_m_hazard (x : RT) : Nat → Int32 := x.2.2.1
def s_m_hazard (x : RT) (v : Nat → Int32) : RT := (x.1, x.2.1, v, x.2.2.2)
def q_m_from (x : RT) : Nat → Int32 := x.2.2.2.1
def s_m_from (x : RT) (v : Nat → Int32) : RT := (x.1, x.2.1, x.2.2.1, v, x.2.2.2.2)
def q_m_to (x : RT) : Nat → Int32 := x.2.2.2.2.1
def s_m_to (x : RT) (v : Nat → Int32) : RT := (x.1, x.2.1, x.2.2.1, x.2.2.2.1, v, x.2.2.2.2.2)
def q_m_metres (x : RT) : Nat → Int32 := x.2.2.2.2.2.1
def s_m_metres (x : RT) (v : Nat → Int32) : RT := (x.1, x.2.1, x.2.2.1, x.2.2.2.1, x.2.2.2.2.1, v, x.2.2.2.2.2.2)
def q_m_lock (x : RT) : Nat → Int32 := x.2.2.2.2.2.2.1
def s_m_lock (x : RT) (v : Nat → Int32) : RT := (x.1, x.2.1, x.2.2.1, x.2.2.2.1, x.2.2.2.2.1, x.2.2.2.2.2.1, v, x.2.2.2.2.2.2.2)
def q_m_hand (x : RT) : Nat → Int32 := x.2.2.2.2.2.2.2.1
def s_m_hand (x : RT) (v : Nat → Int32) : RT := (x.1, x.2.1, x.2.2.1, x.2.2.2.1, x.2.2.2.2.1, x.2.2.2.2.2.1, x.2.2.2.2.2.2.1, v, x.2.2.2.2.2.2.2.2)
def q_m_least (x : RT) : Nat → Int32 := x.2.2.2.2.2.2.2.2.1
def s_m_least (x : RT) (v : Nat → Int32) : RT := (x.1, x.2.1, x.2.2.1, x.2.2.2.1, x.2.2.2.2.1, x.2.2.2.2.2.1, x.2.2.2.2.2.2.1, x.2.2.2.2.2.2.2.1, v, x.2.2.2.2.2.2.2.2.2)
def q_m_way (x : RT) : Nat → Int32 := x.2.2.2.2.2.2.2.2.2.1
def s_m_way (x : RT) (v : Nat → Int32) : RT := (x.1, x.2.1, x.2.2.1, x.2.2.2.1, x.2.2.2.2.1, x.2.2.2.2.2.1, x.2.2.2.2.2.2.1, x.2.2.2.2.2.2.2.1, x.2.2.2.2.2.2.2.2.1, v, x.2.2.2.2.2.2.2.2.2.2)
def q_m_loop (x : RT) : Nat → Int32 := x.2.2.2.2.2.2.2.2.2.2.1
def s_m_loop (x : RT) (v : Nat → Int32) : RT := (x.1, x.2.1, x.2.2.1, x.2.2.2.1, x.2.2.2.2.1, x.2.2.2.2.2.1, x.2.2.2.2.2.2.1, x.2.2.2.2.2.2.2.1, x.2.2.2.2.2.2.2.2.1, x.2.2.2.2.2.2.2.2.2.1, v, x.2.2.2.2.2.2.2.2.2.2.2)
def q_m_number (x : RT) : Nat → Int32 := x.2.2.2.2.2.2.2.2.2.2.2.1
def s_m_number (x : RT) (v : Nat → Int32) : RT := (x.1, x.2.1, x.2.2.1, x.2.2.2.1, x.2.2.2.2.1, x.2.2.2.2.2.1, x.2.2.2.2.2.2.1, x.2.2.2.2.2.2.2.1, x.2.2.2.2.2.2.2.2.1, x.2.2.2.2.2.2.2.2.2.1, x.2.2.2.2.2.2.2.2.2.2.1, v, x.2.2.2.2.2.2.2.2.2.2.2.2)
def q_m_watched (x : RT) : Nat → Int32 := x.2.2.2.2.2.2.2.2.2.2.2.2.1
def s_m_watched (x : RT) (v : Nat → Int32) : RT := (x.1, x.2.1, x.2.2.1, x.2.2.2.1, x.2.2.2.2.1, x.2.2.2.2.2.1, x.2.2.2.2.2.2.1, x.2.2.2.2.2.2.2.1, x.2.2.2.2.2.2.2.2.1, x.2.2.2.2.2.2.2.2.2.1, x.2.2.2.2.2.2.2.2.2.2.1, x.2.2.2.2.2.2.2.2.2.2.2.1, v, x.2.2.2.2.2.2.2.2.2.2.2.2.2)
def q_m_rowRoom (x : RT) : Nat → Int32 := x.2.2.2.2.2.2.2.2.2.2.2.2.2.1
def s_m_rowRoom (x : RT) (v : Nat → Int32) : RT := (x.1, x.2.1, x.2.2.1, x.2.2.2.1, x.2.2.2.2.1, x.2.2.2.2.2.1, x.2.2.2.2.2.2.1, x.2.2.2.2.2.2.2.1, x.2.2.2.2.2.2.2.2.1, x.2.2.2.2.2.2.2.2.2.1, x.2.2.2.2.2.2.2.2.2.2.1, x.2.2.2.2.2.2.2.2.2.2.2.1, x.2.2.2.2.2.2.2.2.2.2.2.2.1, v, x.2.2.2.2.2.2.2.2.2.2.2.2.2.2)
def q_m_rowFrom (x : RT) : Nat → Int32 := x.2.2.2.2.2.2.2.2.2.2.2.2.2.2.1
def s_m_rowFrom (x : RT) (v : Nat → Int32) : RT := (x.1, x.2.1, x.2.2.1, x.2.2.2.1, x.2.2.2.2.1, x.2.2.2.2.2.1, x.2.2.2.2.2.2.1, x.2.2.2.2.2.2.2.1, x.2.2.2.2.2.2.2.2.1, x.2.2.2.2.2.2.2.2.2.1, x.2.2.2.2.2.2.2.2.2.2.1, x.2.2.2.2.2.2.2.2.2.2.2.1, x.2.2.2.2.2.2.2.2.2.2.2.2.1, x.2.2.2.2.2.2.2.2.2.2.2.2.2.1, v, x.2.2.2.2.2.2.2.2.2.2.2.2.2.2.2)
def q_m_rowTo (x : RT) : Nat → Int32 := x.2.2.2.2.2.2.2.2.2.2.2.2.2.2.2.1
def s_m_rowTo (x : RT) (v : Nat → Int32) : RT := (x.1, x.2.1, x.2.2.1, x.2.2.2.1, x.2.2.2.2.1, x.2.2.2.2.2.1, x.2.2.2.2.2.2.1, x.2.2.2.2.2.2.2.1, x.2.2.2.2.2.2.2.2.1, x.2.2.2.2.2.2.2.2.2.1, x.2.2.2.2.2.2.2.2.2.2.1, x.2.2.2.2.2.2.2.2.2.2.2.1, x.2.2.2.2.2.2.2.2.2.2.2.2.1, x.2.2.2.2.2.2.2.2.2.2.2.2.2.1, x.2.2.2.2.2.2.2.2.2.2.2.2.2.2.1, v, x.2.2.2.2.2.2.2.2.2.2.2.2.2.2.2.2)
def q_m_rowMany (x : RT) : Nat → Int32 := x.2.2.2.2.2.2.2.2.2.2.2.2.2.2.2.2.1
def s_m_rowMany (x : RT) (v : Nat → Int32) : RT := (x.1, x.2.1, x.2.2.1, x.2.2.2.1, x.2.2.2.2.1, x.2.2.2.2.2.1, x.2.2.2.2.2.2.1, x.2.2.2.2.2.2.2.1, x.2.2.2.2.2.2.2.2.1, x.2.2.2.2.2.2.2.2.2.1, x.2.2.2.2.2.2.2.2.2.2.1, x.2.2.2.2.2.2.2.2.2.2.2.1, x.2.2.2.2.2.2.2.2.2.2.2.2.1, x.2.2.2.2.2.2.2.2.2.2.2.2.2.1, x.2.2.2.2.2.2.2.2.2.2.2.2.2.2.1, x.2.2.2.2.2.2.2.2.2.2.2.2.2.2.2.1, v, x.2.2.2.2.2.2.2.2.2.2.2.2.2.2.2.2.2)
def q_m_windowX (x : RT) : Nat → Int32 := x.2.2.2.2.2.2.2.2.2.2.2.2.2.2.2.2.2.1
def s_m_windowX (x : RT) (v : Nat → Int32) : RT := (x.1, x.2.1, x.2.2.1, x.2.2.2.1, x.2.2.2.2.1, x.2.2.2.2.2.1, x.2.2.2.2.2.2.1, x.2.2.2.2.2.2.2.1, x.2.2.2.2.2.2.2.2.1, x.2.2.2.2.2.2.2.2.2.1, x.2.2.2.2.2.2.2.2.2.2.1, x.2.2.2.2.2.2.2.2.2.2.2.1, x.2.2.2.2.2.2.2.2.2.2.2.2.1, x.2.2.2.2.2.2.2.2.2.2.2.2.2.1, x.2.2.2.2.2.2.2.2.2.2.2.2.2.2.1, x.2.2.2.2.2.2.2.2.2.2.2.2.2.2.2.1, x.2.2.2.2.2.2.2.2.2.2.2.2.2.2.2.2.1, v, x.2.2.2.2.2.2.2.2.2.2.2.2.2.2.2.2.2.2)
def q_m_windowY (x : RT) : Nat → Int32 := x.2.2.2.2.2.2.2.2.2.2.2.2.2.2.2.2.2.2.1
def s_m_windowY (x : RT) (v : Nat → Int32) : RT := (x.1, x.2.1, x.2.2.1, x.2.2.2.1, x.2.2.2.2.1, x.2.2.2.2.2.1, x.2.2.2.2.2.2.1, x.2.2.2.2.2.2.2.1, x.2.2.2.2.2.2.2.2.1, x.2.2.2.2.2.2.2.2.2.1, x.2.2.2.2.2.2.2.2.2.2.1, x.2.2.2.2.2.2.2.2.2.2.2.1, x.2.2.2.2.2.2.2.2.2.2.2.2.1, x.2.2.2.2.2.2.2.2.2.2.2.2.2.1, x.2.2.2.2.2.2.2.2.2.2.2.2.2.2.1, x.2.2.2.2.2.2.2.2.2.2.2.2.2.2.2.1, x.2.2.2.2.2.2.2.2.2.2.2.2.2.2.2.2.1, x.2.2.2.2.2.2.2.2.2.2.2.2.2.2.2.2.2.1, v, x.2.2.2.2.2.2.2.2.2.2.2.2.2.2.2.2.2.2.2)
def q_m_windowZ (x : RT) : Nat → Int32 := x.2.2.2.2.2.2.2.2.2.2.2.2.2.2.2.2.2.2.2.1
def s_m_windowZ (x : RT) (v : Nat → Int32) : RT := (x.1, x.2.1, x.2.2.1, x.2.2.2.1, x.2.2.2.2.1, x.2.2.2.2.2.1, x.2.2.2.2.2.2.1, x.2.2.2.2.2.2.2.1, x.2.2.2.2.2.2.2.2.1, x.2.2.2.2.2.2.2.2.2.1, x.2.2.2.2.2.2.2.2.2.2.1, x.2.2.2.2.2.2.2.2.2.2.2.1, x.2.2.2.2.2.2.2.2.2.2.2.2.1, x.2.2.2.2.2.2.2.2.2.2.2.2.2.1, x.2.2.2.2.2.2.2.2.2.2.2.2.2.2.1, x.2.2.2.2.2.2.2.2.2.2.2.2.2.2.2.1, x.2.2.2.2.2.2.2.2.2.2.2.2.2.2.2.2.1, x.2.2.2.2.2.2.2.2.2.2.2.2.2.2.2.2.2.1, x.2.2.2.2.2.2.2.2.2.2.2.2.2.2.2.2.2.2.1, v, x.2.2.2.2.2.2.2.2.2.2.2.2.2.2.2.2.2.2.2.2)
def q_m_thrown (x : RT) : Int32 := x.2.2.2.2.2.2.2.2.2.2.2.2.2.2.2.2.2.2.2.2.1
def s_m_thrown (x : RT) (v : Int32) : RT := (x.1, x.2.1, x.2.2.1, x.2.2.2.1, x.2.2.2.2.1, x.2.2.2.2.2.1, x.2.2.2.2.2.2.1, x.2.2.2.2.2.2.2.1, x.2.2.2.2.2.2.2.2.1, x.2.2.2.2.2.2.2.2.2.1, x.2.2.2.2.2.2.2.2.2.2.1, x.2.2.2.2.2.2.2.2.2.2.2.1, x.2.2.2.2.2.2.2.2.2.2.2.2.1, x.2.2.2.2.2.2.2.2.2.2.2.2.2.1, x.2.2.2.2.2.2.2.2.2.2.2.2.2.2.1, x.2.2.2.2.2.2.2.2.2.2.2.2.2.2.2.1, x.2.2.2.2.2.2.2.2.2.2.2.2.2.2.2.2.1, x.2.2.2.2.2.2.2.2.2.2.2.2.2.2.2.2.2.1, x.2.2.2.2.2.2.2.2.2.2.2.2.2.2.2.2.2.2.1, x.2.2.2.2.2.2.2.2.2.2.2.2.2.2.2.2.2.2.2.1, v, x.2.2.2.2.2.2.2.2.2.2.2.2.2.2.2.2.2.2.2.2.2)
def q_m_rooms (x : RT) : Int32 := x.2.2.2.2.2.2.2.2.2.2.2.2.2.2.2.2.2.2.2.2.2.1
def s_m_rooms (x : RT) (v : Int32) : RT := (x.1, x.2.1, x.2.2.1, x.2.2.2.1, x.2.2.2.2.1, x.2.2.2.2.2.1, x.2.2.2.2.2.2.1, x.2.2.2.2.2.2.2.1, x.2.2.2.2.2.2.2.2.1, x.2.2.2.2.2.2.2.2.2.1, x.2.2.2.2.2.2.2.2.2.2.1, x.2.2.2.2.2.2.2.2.2.2.2.1, x.2.2.2.2.2.2.2.2.2.2.2.2.1, x.2.2.2.2.2.2.2.2.2.2.2.2.2.1, x.2.2.2.2.2.2.2.2.2.2.2.2.2.2.1, x.2.2.2.2.2.2.2.2.2.2.2.2.2.2.2.1, x.2.2.2.2.2.2.2.2.2.2.2.2.2.2.2.2.1, x.2.2.2.2.2.2.2.2.2.2.2.2.2.2.2.2.2.1, x.2.2.2.2.2.2.2.2.2.2.2.2.2.2.2.2.2.2.1, x.2.2.2.2.2.2.2.2.2.2.2.2.2.2.2.2.2.2.2.1, x.2.2.2.2.2.2.2.2.2.2.2.2.2.2.2.2.2.2.2.2.1, v, x.2.2.2.2.2.2.2.2.2.2.2.2.2.2.2.2.2.2.2.2.2.2)
def q_m_doors (x : RT) : Int32 := x.2.2.2.2.2.2.2.2.2.2.2.2.2.2.2.2.2.2.2.2.2.2.1
def s_m_doors (x : RT) (v : Int32) : RT := (x.1, x.2.1, x.2.2.1, x.2.2.2.1, x.2.2.2.2.1, x.2.2.2.2.2.1, x.2.2.2.2.2.2.1, x.2.2.2.2.2.2.2.1, x.2.2.2.2.2.2.2.2.1, x.2.2.2.2.2.2.2.2.2.1, x.2.2.2.2.2.2.2.2.2.2.1, x.2.2.2.2.2.2.2.2.2.2.2.1, x.2.2.2.2.2.2.2.2.2.2.2.2.1, x.2.2.2.2.2.2.2.2.2.2.2.2.2.1, x.2.2.2.2.2.2.2.2.2.2.2.2.2.2.1, x.2.2.2.2.2.2.2.2.2.2.2.2.2.2.2.1, x.2.2.2.2.2.2.2.2.2.2.2.2.2.2.2.2.1, x.2.2.2.2.2.2.2.2.2.2.2.2.2.2.2.2.2.1, x.2.2.2.2.2.2.2.2.2.2.2.2.2.2.2.2.2.2.1, x.2.2.2.2.2.2.2.2.2.2.2.2.2.2.2.2.2.2.2.1, x.2.2.2.2.2.2.2.2.2.2.2.2.2.2.2.2.2.2.2.2.1, x.2.2.2.2.2.2.2.2.2.2.2.2.2.2.2.2.2.2.2.2.2.1, v, x.2.2.2.2.2.2.2.2.2.2.2.2.2.2.2.2.2.2.2.2.2.2.2)
def q_m_steps (x : RT) : Int32 := x.2.2.2.2.2.2.2.2.2.2.2.2.2.2.2.2.2.2.2.2.2.2.2.1
def s_m_steps (x : RT) (v : Int32) : RT := (x.1, x.2.1, x.2.2.1, x.2.2.2.1, x.2.2.2.2.1, x.2.2.2.2.2.1, x.2.2.2.2.2.2.1, x.2.2.2.2.2.2.2.1, x.2.2.2.2.2.2.2.2.1, x.2.2.2.2.2.2.2.2.2.1, x.2.2.2.2.2.2.2.2.2.2.1, x.2.2.2.2.2.2.2.2.2.2.2.1, x.2.2.2.2.2.2.2.2.2.2.2.2.1, x.2.2.2.2.2.2.2.2.2.2.2.2.2.1, x.2.2.2.2.2.2.2.2.2.2.2.2.2.2.1, x.2.2.2.2.2.2.2.2.2.2.2.2.2.2.2.1, x.2.2.2.2.2.2.2.2.2.2.2.2.2.2.2.2.1, x.2.2.2.2.2.2.2.2.2.2.2.2.2.2.2.2.2.1, x.2.2.2.2.2.2.2.2.2.2.2.2.2.2.2.2.2.2.1, x.2.2.2.2.2.2.2.2.2.2.2.2.2.2.2.2.2.2.2.1, x.2.2.2.2.2.2.2.2.2.2.2.2.2.2.2.2.2.2.2.2.1, x.2.2.2.2.2.2.2.2.2.2.2.2.2.2.2.2.2.2.2.2.2.1, x.2.2.2.2.2.2.2.2.2.2.2.2.2.2.2.2.2.2.2.2.2.2.1, v, x.2.2.2.2.2.2.2.2.2.2.2.2.2.2.2.2.2.2.2.2.2.2.2.2)
def q_m_stairs (x : RT) : Int32 := x.2.2.2.2.2.2.2.2.2.2.2.2.2.2.2.2.2.2.2.2.2.2.2.2.1
def s_m_stairs (x : RT) (v : Int32) : RT := (x.1, x.2.1, x.2.2.1, x.2.2.2.1, x.2.2.2.2.1, x.2.2.2.2.2.1, x.2.2.2.2.2.2.1, x.2.2.2.2.2.2.2.1, x.2.2.2.2.2.2.2.2.1, x.2.2.2.2.2.2.2.2.2.1, x.2.2.2.2.2.2.2.2.2.2.1, x.2.2.2.2.2.2.2.2.2.2.2.1, x.2.2.2.2.2.2.2.2.2.2.2.2.1, x.2.2.2.2.2.2.2.2.2.2.2.2.2.1, x.2.2.2.2.2.2.2.2.2.2.2.2.2.2.1, x.2.2.2.2.2.2.2.2.2.2.2.2.2.2.2.1, x.2.2.2.2.2.2.2.2.2.2.2.2.2.2.2.2.1, x.2.2.2.2.2.2.2.2.2.2.2.2.2.2.2.2.2.1, x.2.2.2.2.2.2.2.2.2.2.2.2.2.2.2.2.2.2.1, x.2.2.2.2.2.2.2.2.2.2.2.2.2.2.2.2.2.2.2.1, x.2.2.2.2.2.2.2.2.2.2.2.2.2.2.2.2.2.2.2.2.1, x.2.2.2.2.2.2.2.2.2.2.2.2.2.2.2.2.2.2.2.2.2.1, x.2.2.2.2.2.2.2.2.2.2.2.2.2.2.2.2.2.2.2.2.2.2.1, x.2.2.2.2.2.2.2.2.2.2.2.2.2.2.2.2.2.2.2.2.2.2.2.1, v, x.2.2.2.2.2.2.2.2.2.2.2.2.2.2.2.2.2.2.2.2.2.2.2.2.2)
def q_m_end (x : RT) : Int32 := x.2.2.2.2.2.2.2.2.2.2.2.2.2.2.2.2.2.2.2.2.2.2.2.2.2.1
def s_m_end (x : RT) (v : Int32) : RT := (x.1, x.2.1, x.2.2.1, x.2.2.2.1, x.2.2.2.2.1, x.2.2.2.2.2.1, x.2.2.2.2.2.2.1, x.2.2.2.2.2.2.2.1, x.2.2.2.2.2.2.2.2.1, x.2.2.2.2.2.2.2.2.2.1, x.2.2.2.2.2.2.2.2.2.2.1, x.2.2.2.2.2.2.2.2.2.2.2.1, x.2.2.2.2.2.2.2.2.2.2.2.2.1, x.2.2.2.2.2.2.2.2.2.2.2.2.2.1, x.2.2.2.2.2.2.2.2.2.2.2.2.2.2.1, x.2.2.2.2.2.2.2.2.2.2.2.2.2.2.2.1, x.2.2.2.2.2.2.2.2.2.2.2.2.2.2.2.2.1, x.2.2.2.2.2.2.2.2.2.2.2.2.2.2.2.2.2.1, x.2.2.2.2.2.2.2.2.2.2.2.2.2.2.2.2.2.2.1, x.2.2.2.2.2.2.2.2.2.2.2.2.2.2.2.2.2.2.2.1, x.2.2.2.2.2.2.2.2.2.2.2.2.2.2.2.2.2.2.2.2.1, x.2.2.2.2.2.2.2.2.2.2.2.2.2.2.2.2.2.2.2.2.2.1, x.2.2.2.2.2.2.2.2.2.2.2.2.2.2.2.2.2.2.2.2.2.2.1, x.2.2.2.2.2.2.2.2.2.2.2.2.2.2.2.2.2.2.2.2.2.2.2.1, x.2.2.2.2.2.2.2.2.2.2.2.2.2.2.2.2.2.2.2.2.2.2.2.2.1, v, x.2.2.2.2.2.2.2.2.2.2.2.2.2.2.2.2.2.2.2.2.2.2.2.2.2.2)
def q_m_detectors (x : RT) : Int32 := x.2.2.2.2.2.2.2.2.2.2.2.2.2.2.2.2.2.2.2.2.2.2.2.2.2.2.1
def s_m_detectors (x : RT) (v : Int32) : RT := (x.1, x.2.1, x.2.2.1, x.2.2.2.1, x.2.2.2.2.1, x.2.2.2.2.2.1, x.2.2.2.2.2.2.1, x.2.2.2.2.2.2.2.1, x.2.2.2.2.2.2.2.2.1, x.2.2.2.2.2.2.2.2.2.1, x.2.2.2.2.2.2.2.2.2.2.1, x.2.2.2.2.2.2.2.2.2.2.2.1, x.2.2.2.2.2.2.2.2.2.2.2.2.1, x.2.2.2.2.2.2.2.2.2.2.2.2.2.1, x.2.2.2.2.2.2.2.2.2.2.2.2.2.2.1, x.2.2.2.2.2.2.2.2.2.2.2.2.2.2.2.1, x.2.2.2.2.2.2.2.2.2.2.2.2.2.2.2.2.1, x.2.2.2.2.2.2.2.2.2.2.2.2.2.2.2.2.2.1, x.2.2.2.2.2.2.2.2.2.2.2.2.2.2.2.2.2.2.1, x.2.2.2.2.2.2.2.2.2.2.2.2.2.2.2.2.2.2.2.1, x.2.2.2.2.2.2.2.2.2.2.2.2.2.2.2.2.2.2.2.2.1, x.2.2.2.2.2.2.2.2.2.2.2.2.2.2.2.2.2.2.2.2.2.1, x.2.2.2.2.2.2.2.2.2.2.2.2.2.2.2.2.2.2.2.2.2.2.1, x.2.2.2.2.2.2.2.2.2.2.2.2.2.2.2.2.2.2.2.2.2.2.2.1, x.2.2.2.2.2.2.2.2.2.2.2.2.2.2.2.2.2.2.2.2.2.2.2.2.1, x.2.2.2.2.2.2.2.2.2.2.2.2.2.2.2.2.2.2.2.2.2.2.2.2.2.1, v, x.2.2.2.2.2.2.2.2.2.2.2.2.2.2.2.2.2.2.2.2.2.2.2.2.2.2.2)
def q_m_rows (x : RT) : Int32 := x.2.2.2.2.2.2.2.2.2.2.2.2.2.2.2.2.2.2.2.2.2.2.2.2.2.2.2.1
def s_m_rows (x : RT) (v : Int32) : RT := (x.1, x.2.1, x.2.2.1, x.2.2.2.1, x.2.2.2.2.1, x.2.2.2.2.2.1, x.2.2.2.2.2.2.1, x.2.2.2.2.2.2.2.1, x.2.2.2.2.2.2.2.2.1, x.2.2.2.2.2.2.2.2.2.1, x.2.2.2.2.2.2.2.2.2.2.1, x.2.2.2.2.2.2.2.2.2.2.2.1, x.2.2.2.2.2.2.2.2.2.2.2.2.1, x.2.2.2.2.2.2.2.2.2.2.2.2.2.1, x.2.2.2.2.2.2.2.2.2.2.2.2.2.2.1, x.2.2.2.2.2.2.2.2.2.2.2.2.2.2.2.1, x.2.2.2.2.2.2.2.2.2.2.2.2.2.2.2.2.1, x.2.2.2.2.2.2.2.2.2.2.2.2.2.2.2.2.2.1, x.2.2.2.2.2.2.2.2.2.2.2.2.2.2.2.2.2.2.1, x.2.2.2.2.2.2.2.2.2.2.2.2.2.2.2.2.2.2.2.1, x.2.2.2.2.2.2.2.2.2.2.2.2.2.2.2.2.2.2.2.2.1, x.2.2.2.2.2.2.2.2.2.2.2.2.2.2.2.2.2.2.2.2.2.1, x.2.2.2.2.2.2.2.2.2.2.2.2.2.2.2.2.2.2.2.2.2.2.1, x.2.2.2.2.2.2.2.2.2.2.2.2.2.2.2.2.2.2.2.2.2.2.2.1, x.2.2.2.2.2.2.2.2.2.2.2.2.2.2.2.2.2.2.2.2.2.2.2.2.1, x.2.2.2.2.2.2.2.2.2.2.2.2.2.2.2.2.2.2.2.2.2.2.2.2.2.1, x.2.2.2.2.2.2.2.2.2.2.2.2.2.2.2.2.2.2.2.2.2.2.2.2.2.2.1, v, x.2.2.2.2.2.2.2.2.2.2.2.2.2.2.2.2.2.2.2.2.2.2.2.2.2.2.2.2)
def q_m_windows (x : RT) : Int32 := x.2.2.2.2.2.2.2.2.2.2.2.2.2.2.2.2.2.2.2.2.2.2.2.2.2.2.2.2.1
def s_m_windows (x : RT) (v : Int32) : RT := (x.1, x.2.1, x.2.2.1, x.2.2.2.1, x.2.2.2.2.1, x.2.2.2.2.2.1, x.2.2.2.2.2.2.1, x.2.2.2.2.2.2.2.1, x.2.2.2.2.2.2.2.2.1, x.2.2.2.2.2.2.2.2.2.1, x.2.2.2.2.2.2.2.2.2.2.1, x.2.2.2.2.2.2.2.2.2.2.2.1, x.2.2.2.2.2.2.2.2.2.2.2.2.1, x.2.2.2.2.2.2.2.2.2.2.2.2.2.1, x.2.2.2.2.2.2.2.2.2.2.2.2.2.2.1, x.2.2.2.2.2.2.2.2.2.2.2.2.2.2.2.1, x.2.2.2.2.2.2.2.2.2.2.2.2.2.2.2.2.1, x.2.2.2.2.2.2.2.2.2.2.2.2.2.2.2.2.2.1, x.2.2.2.2.2.2.2.2.2.2.2.2.2.2.2.2.2.2.1, x.2.2.2.2.2.2.2.2.2.2.2.2.2.2.2.2.2.2.2.1, x.2.2.2.2.2.2.2.2.2.2.2.2.2.2.2.2.2.2.2.2.1, x.2.2.2.2.2.2.2.2.2.2.2.2.2.2.2.2.2.2.2.2.2.1, x.2.2.2.2.2.2.2.2.2.2.2.2.2.2.2.2.2.2.2.2.2.2.1, x.2.2.2.2.2.2.2.2.2.2.2.2.2.2.2.2.2.2.2.2.2.2.2.1, x.2.2.2.2.2.2.2.2.2.2.2.2.2.2.2.2.2.2.2.2.2.2.2.2.1, x.2.2.2.2.2.2.2.2.2.2.2.2.2.2.2.2.2.2.2.2.2.2.2.2.2.1, x.2.2.2.2.2.2.2.2.2.2.2.2.2.2.2.2.2.2.2.2.2.2.2.2.2.2.1, x.2.2.2.2.2.2.2.2.2.2.2.2.2.2.2.2.2.2.2.2.2.2.2.2.2.2.2.1, v, x.2.2.2.2.2.2.2.2.2.2.2.2.2.2.2.2.2.2.2.2.2.2.2.2.2.2.2.2.2)
def q_m_looked (x : RT) : Int32 := x.2.2.2.2.2.2.2.2.2.2.2.2.2.2.2.2.2.2.2.2.2.2.2.2.2.2.2.2.2.1
def s_m_looked (x : RT) (v : Int32) : RT := (x.1, x.2.1, x.2.2.1, x.2.2.2.1, x.2.2.2.2.1, x.2.2.2.2.2.1, x.2.2.2.2.2.2.1, x.2.2.2.2.2.2.2.1, x.2.2.2.2.2.2.2.2.1, x.2.2.2.2.2.2.2.2.2.1, x.2.2.2.2.2.2.2.2.2.2.1, x.2.2.2.2.2.2.2.2.2.2.2.1, x.2.2.2.2.2.2.2.2.2.2.2.2.1, x.2.2.2.2.2.2.2.2.2.2.2.2.2.1, x.2.2.2.2.2.2.2.2.2.2.2.2.2.2.1, x.2.2.2.2.2.2.2.2.2.2.2.2.2.2.2.1, x.2.2.2.2.2.2.2.2.2.2.2.2.2.2.2.2.1, x.2.2.2.2.2.2.2.2.2.2.2.2.2.2.2.2.2.1, x.2.2.2.2.2.2.2.2.2.2.2.2.2.2.2.2.2.2.1, x.2.2.2.2.2.2.2.2.2.2.2.2.2.2.2.2.2.2.2.1, x.2.2.2.2.2.2.2.2.2.2.2.2.2.2.2.2.2.2.2.2.1, x.2.2.2.2.2.2.2.2.2.2.2.2.2.2.2.2.2.2.2.2.2.1, x.2.2.2.2.2.2.2.2.2.2.2.2.2.2.2.2.2.2.2.2.2.2.1, x.2.2.2.2.2.2.2.2.2.2.2.2.2.2.2.2.2.2.2.2.2.2.2.1, x.2.2.2.2.2.2.2.2.2.2.2.2.2.2.2.2.2.2.2.2.2.2.2.2.1, x.2.2.2.2.2.2.2.2.2.2.2.2.2.2.2.2.2.2.2.2.2.2.2.2.2.1, x.2.2.2.2.2.2.2.2.2.2.2.2.2.2.2.2.2.2.2.2.2.2.2.2.2.2.1, x.2.2.2.2.2.2.2.2.2.2.2.2.2.2.2.2.2.2.2.2.2.2.2.2.2.2.2.1, x.2.2.2.2.2.2.2.2.2.2.2.2.2.2.2.2.2.2.2.2.2.2.2.2.2.2.2.2.1, v, x.2.2.2.2.2.2.2.2.2.2.2.2.2.2.2.2.2.2.2.2.2.2.2.2.2.2.2.2.2.2)
def q_m_term (x : RT) : Int32 := x.2.2.2.2.2.2.2.2.2.2.2.2.2.2.2.2.2.2.2.2.2.2.2.2.2.2.2.2.2.2
def s_m_term (x : RT) (v : Int32) : RT := (x.1, x.2.1, x.2.2.1, x.2.2.2.1, x.2.2.2.2.1, x.2.2.2.2.2.1, x.2.2.2.2.2.2.1, x.2.2.2.2.2.2.2.1, x.2.2.2.2.2.2.2.2.1, x.2.2.2.2.2.2.2.2.2.1, x.2.2.2.2.2.2.2.2.2.2.1, x.2.2.2.2.2.2.2.2.2.2.2.1, x.2.2.2.2.2.2.2.2.2.2.2.2.1, x.2.2.2.2.2.2.2.2.2.2.2.2.2.1, x.2.2.2.2.2.2.2.2.2.2.2.2.2.2.1, x.2.2.2.2.2.2.2.2.2.2.2.2.2.2.2.1, x.2.2.2.2.2.2.2.2.2.2.2.2.2.2.2.2.1, x.2.2.2.2.2.2.2.2.2.2.2.2.2.2.2.2.2.1, x.2.2.2.2.2.2.2.2.2.2.2.2.2.2.2.2.2.2.1, x.2.2.2.2.2.2.2.2.2.2.2.2.2.2.2.2.2.2.2.1, x.2.2.2.2.2.2.2.2.2.2.2.2.2.2.2.2.2.2.2.2.1, x.2.2.2.2.2.2.2.2.2.2.2.2.2.2.2.2.2.2.2.2.2.1, x.2.2.2.2.2.2.2.2.2.2.2.2.2.2.2.2.2.2.2.2.2.2.1, x.2.2.2.2.2.2.2.2.2.2.2.2.2.2.2.2.2.2.2.2.2.2.2.1, x.2.2.2.2.2.2.2.2.2.2.2.2.2.2.2.2.2.2.2.2.2.2.2.2.1, x.2.2.2.2.2.2.2.2.2.2.2.2.2.2.2.2.2.2.2.2.2.2.2.2.2.1, x.2.2.2.2.2.2.2.2.2.2.2.2.2.2.2.2.2.2.2.2.2.2.2.2.2.2.1, x.2.2.2.2.2.2.2.2.2.2.2.2.2.2.2.2.2.2.2.2.2.2.2.2.2.2.2.1, x.2.2.2.2.2.2.2.2.2.2.2.2.2.2.2.2.2.2.2.2.2.2.2.2.2.2.2.2.1, x.2.2.2.2.2.2.2.2.2.2.2.2.2.2.2.2.2.2.2.2.2.2.2.2.2.2.2.2.2.1, v)
def wR (cI cZ : ClassId) (ad : Nat → Nat) (x : RT) : va_W := [(ad 0, .inr (9, [.int (q_m_thrown x), .int (q_m_rooms x), .ref (ad 1), .ref (ad 2), .ref (ad 3), .int (q_m_doors x), .ref (ad 4), .ref (ad 5), .ref (ad 6), .ref (ad 7), .ref (ad 8), .ref (ad 9), .ref (ad 10), .int (q_m_steps x), .int (q_m_stairs x), .int (q_m_end x), .int (q_m_detectors x), .ref (ad 11), .ref (ad 12), .ref (ad 13), .int (q_m_rows x), .ref (ad 14), .ref (ad 15), .ref (ad 16), .ref (ad 17), .int (q_m_windows x), .ref (ad 18), .ref (ad 19), .ref (ad 20), .int (q_m_looked x), .int (q_m_term x)])), (ad 1, .inl (cI, 40, .inl (q_m_floor x))), (ad 2, .inl (cI, 40, .inl (q_m_kind x))), (ad 3, .inl (cI, 40, .inl (q_m_hazard x))), (ad 4, .inl (cI, 80, .inl (q_m_from x))), (ad 5, .inl (cI, 80, .inl (q_m_to x))), (ad 6, .inl (cI, 80, .inl (q_m_metres x))), (ad 7, .inl (cI, 80, .inl (q_m_lock x))), (ad 8, .inl (cZ, 31, .inl (q_m_hand x))), (ad 9, .inl (cI, 40, .inl (q_m_least x))), (ad 10, .inl (cI, 40, .inl (q_m_way x))), (ad 11, .inl (cI, 100, .inl (q_m_loop x))), (ad 12, .inl (cI, 100, .inl (q_m_number x))), (ad 13, .inl (cI, 100, .inl (q_m_watched x))), (ad 14, .inl (cI, 60, .inl (q_m_rowRoom x))), (ad 15, .inl (cI, 60, .inl (q_m_rowFrom x))), (ad 16, .inl (cI, 60, .inl (q_m_rowTo x))), (ad 17, .inl (cI, 60, .inl (q_m_rowMany x))), (ad 18, .inl (cI, 30, .inl (q_m_windowX x))), (ad 19, .inl (cI, 30, .inl (q_m_windowY x))), (ad 20, .inl (cI, 30, .inl (q_m_windowZ x)))]
theorem wR_s_m_thrown (cI cZ : ClassId) (ad : Nat → Nat) (x : RT) (v : Int32) : (wR cI cZ ad x).set 0 (ad 0, .inr (9, [.int (q_m_thrown x), .int (q_m_rooms x), .ref (ad 1), .ref (ad 2), .ref (ad 3), .int (q_m_doors x), .ref (ad 4), .ref (ad 5), .ref (ad 6), .ref (ad 7), .ref (ad 8), .ref (ad 9), .ref (ad 10), .int (q_m_steps x), .int (q_m_stairs x), .int (q_m_end x), .int (q_m_detectors x), .ref (ad 11), .ref (ad 12), .ref (ad 13), .int (q_m_rows x), .ref (ad 14), .ref (ad 15), .ref (ad 16), .ref (ad 17), .int (q_m_windows x), .ref (ad 18), .ref (ad 19), .ref (ad 20), .int (q_m_looked x), .int (q_m_term x)].set 0 (.int v))) = wR cI cZ ad (s_m_thrown x v) := rfl
theorem wR_s_m_rooms (cI cZ : ClassId) (ad : Nat → Nat) (x : RT) (v : Int32) : (wR cI cZ ad x).set 0 (ad 0, .inr (9, [.int (q_m_thrown x), .int (q_m_rooms x), .ref (ad 1), .ref (ad 2), .ref (ad 3), .int (q_m_doors x), .ref (ad 4), .ref (ad 5), .ref (ad 6), .ref (ad 7), .ref (ad 8), .ref (ad 9), .ref (ad 10), .int (q_m_steps x), .int (q_m_stairs x), .int (q_m_end x), .int (q_m_detectors x), .ref (ad 11), .ref (ad 12), .ref (ad 13), .int (q_m_rows x), .ref (ad 14), .ref (ad 15), .ref (ad 16), .ref (ad 17), .int (q_m_windows x), .ref (ad 18), .ref (ad 19), .ref (ad 20), .int (q_m_looked x), .int (q_m_term x)].set 1 (.int v))) = wR cI cZ ad (s_m_rooms x v) := rfl
theorem wR_s_m_doors (cI cZ : ClassId) (ad : Nat → Nat) (x : RT) (v : Int32) : (wR cI cZ ad x).set 0 (ad 0, .inr (9, [.int (q_m_thrown x), .int (q_m_rooms x), .ref (ad 1), .ref (ad 2), .ref (ad 3), .int (q_m_doors x), .ref (ad 4), .ref (ad 5), .ref (ad 6), .ref (ad 7), .ref (ad 8), .ref (ad 9), .ref (ad 10), .int (q_m_steps x), .int (q_m_stairs x), .int (q_m_end x), .int (q_m_detectors x), .ref (ad 11), .ref (ad 12), .ref (ad 13), .int (q_m_rows x), .ref (ad 14), .ref (ad 15), .ref (ad 16), .ref (ad 17), .int (q_m_windows x), .ref (ad 18), .ref (ad 19), .ref (ad 20), .int (q_m_looked x), .int (q_m_term x)].set 5 (.int v))) = wR cI cZ ad (s_m_doors x v) := rfl
theorem wR_s_m_steps (cI cZ : ClassId) (ad : Nat → Nat) (x : RT) (v : Int32) : (wR cI cZ ad x).set 0 (ad 0, .inr (9, [.int (q_m_thrown x), .int (q_m_rooms x), .ref (ad 1), .ref (ad 2), .ref (ad 3), .int (q_m_doors x), .ref (ad 4), .ref (ad 5), .ref (ad 6), .ref (ad 7), .ref (ad 8), .ref (ad 9), .ref (ad 10), .int (q_m_steps x), .int (q_m_stairs x), .int (q_m_end x), .int (q_m_detectors x), .ref (ad 11), .ref (ad 12), .ref (ad 13), .int (q_m_rows x), .ref (ad 14), .ref (ad 15), .ref (ad 16), .ref (ad 17), .int (q_m_windows x), .ref (ad 18), .ref (ad 19), .ref (ad 20), .int (q_m_looked x), .int (q_m_term x)].set 13 (.int v))) = wR cI cZ ad (s_m_steps x v) := rfl
theorem wR_s_m_stairs (cI cZ : ClassId) (ad : Nat → Nat) (x : RT) (v : Int32) : (wR cI cZ ad x).set 0 (ad 0, .inr (9, [.int (q_m_thrown x), .int (q_m_rooms x), .ref (ad 1), .ref (ad 2), .ref (ad 3), .int (q_m_doors x), .ref (ad 4), .ref (ad 5), .ref (ad 6), .ref (ad 7), .ref (ad 8), .ref (ad 9), .ref (ad 10), .int (q_m_steps x), .int (q_m_stairs x), .int (q_m_end x), .int (q_m_detectors x), .ref (ad 11), .ref (ad 12), .ref (ad 13), .int (q_m_rows x), .ref (ad 14), .ref (ad 15), .ref (ad 16), .ref (ad 17), .int (q_m_windows x), .ref (ad 18), .ref (ad 19), .ref (ad 20), .int (q_m_looked x), .int (q_m_term x)].set 14 (.int v))) = wR cI cZ ad (s_m_stairs x v) := rfl
theorem wR_s_m_end (cI cZ : ClassId) (ad : Nat → Nat) (x : RT) (v : Int32) : (wR cI cZ ad x).set 0 (ad 0, .inr (9, [.int (q_m_thrown x), .int (q_m_rooms x), .ref (ad 1), .ref (ad 2), .ref (ad 3), .int (q_m_doors x), .ref (ad 4), .ref (ad 5), .ref (ad 6), .ref (ad 7), .ref (ad 8), .ref (ad 9), .ref (ad 10), .int (q_m_steps x), .int (q_m_stairs x), .int (q_m_end x), .int (q_m_detectors x), .ref (ad 11), .ref (ad 12), .ref (ad 13), .int (q_m_rows x), .ref (ad 14), .ref (ad 15), .ref (ad 16), .ref (ad 17), .int (q_m_windows x), .ref (ad 18), .ref (ad 19), .ref (ad 20), .int (q_m_looked x), .int (q_m_term x)].set 15 (.int v))) = wR cI cZ ad (s_m_end x v) := rfl
theorem wR_s_m_detectors (cI cZ : ClassId) (ad : Nat → Nat) (x : RT) (v : Int32) : (wR cI cZ ad x).set 0 (ad 0, .inr (9, [.int (q_m_thrown x), .int (q_m_rooms x), .ref (ad 1), .ref (ad 2), .ref (ad 3), .int (q_m_doors x), .ref (ad 4), .ref (ad 5), .ref (ad 6), .ref (ad 7), .ref (ad 8), .ref (ad 9), .ref (ad 10), .int (q_m_steps x), .int (q_m_stairs x), .int (q_m_end x), .int (q_m_detectors x), .ref (ad 11), .ref (ad 12), .ref (ad 13), .int (q_m_rows x), .ref (ad 14), .ref (ad 15), .ref (ad 16), .ref (ad 17), .int (q_m_windows x), .ref (ad 18), .ref (ad 19), .ref (ad 20), .int (q_m_looked x), .int (q_m_term x)].set 16 (.int v))) = wR cI cZ ad (s_m_detectors x v) := rfl
theorem wR_s_m_rows (cI cZ : ClassId) (ad : Nat → Nat) (x : RT) (v : Int32) : (wR cI cZ ad x).set 0 (ad 0, .inr (9, [.int (q_m_thrown x), .int (q_m_rooms x), .ref (ad 1), .ref (ad 2), .ref (ad 3), .int (q_m_doors x), .ref (ad 4), .ref (ad 5), .ref (ad 6), .ref (ad 7), .ref (ad 8), .ref (ad 9), .ref (ad 10), .int (q_m_steps x), .int (q_m_stairs x), .int (q_m_end x), .int (q_m_detectors x), .ref (ad 11), .ref (ad 12), .ref (ad 13), .int (q_m_rows x), .ref (ad 14), .ref (ad 15), .ref (ad 16), .ref (ad 17), .int (q_m_windows x), .ref (ad 18), .ref (ad 19), .ref (ad 20), .int (q_m_looked x), .int (q_m_term x)].set 20 (.int v))) = wR cI cZ ad (s_m_rows x v) := rfl
theorem wR_s_m_windows (cI cZ : ClassId) (ad : Nat → Nat) (x : RT) (v : Int32) : (wR cI cZ ad x).set 0 (ad 0, .inr (9, [.int (q_m_thrown x), .int (q_m_rooms x), .ref (ad 1), .ref (ad 2), .ref (ad 3), .int (q_m_doors x), .ref (ad 4), .ref (ad 5), .ref (ad 6), .ref (ad 7), .ref (ad 8), .ref (ad 9), .ref (ad 10), .int (q_m_steps x), .int (q_m_stairs x), .int (q_m_end x), .int (q_m_detectors x), .ref (ad 11), .ref (ad 12), .ref (ad 13), .int (q_m_rows x), .ref (ad 14), .ref (ad 15), .ref (ad 16), .ref (ad 17), .int (q_m_windows x), .ref (ad 18), .ref (ad 19), .ref (ad 20), .int (q_m_looked x), .int (q_m_term x)].set 25 (.int v))) = wR cI cZ ad (s_m_windows x v) := rfl
theorem wR_s_m_looked (cI cZ : ClassId) (ad : Nat → Nat) (x : RT) (v : Int32) : (wR cI cZ ad x).set 0 (ad 0, .inr (9, [.int (q_m_thrown x), .int (q_m_rooms x), .ref (ad 1), .ref (ad 2), .ref (ad 3), .int (q_m_doors x), .ref (ad 4), .ref (ad 5), .ref (ad 6), .ref (ad 7), .ref (ad 8), .ref (ad 9), .ref (ad 10), .int (q_m_steps x), .int (q_m_stairs x), .int (q_m_end x), .int (q_m_detectors x), .ref (ad 11), .ref (ad 12), .ref (ad 13), .int (q_m_rows x), .ref (ad 14), .ref (ad 15), .ref (ad 16), .ref (ad 17), .int (q_m_windows x), .ref (ad 18), .ref (ad 19), .ref (ad 20), .int (q_m_looked x), .int (q_m_term x)].set 29 (.int v))) = wR cI cZ ad (s_m_looked x v) := rfl
theorem wR_s_m_term (cI cZ : ClassId) (ad : Nat → Nat) (x : RT) (v : Int32) : (wR cI cZ ad x).set 0 (ad 0, .inr (9, [.int (q_m_thrown x), .int (q_m_rooms x), .ref (ad 1), .ref (ad 2), .ref (ad 3), .int (q_m_doors x), .ref (ad 4), .ref (ad 5), .ref (ad 6), .ref (ad 7), .ref (ad 8), .ref (ad 9), .ref (ad 10), .int (q_m_steps x), .int (q_m_stairs x), .int (q_m_end x), .int (q_m_detectors x), .ref (ad 11), .ref (ad 12), .ref (ad 13), .int (q_m_rows x), .ref (ad 14), .ref (ad 15), .ref (ad 16), .ref (ad 17), .int (q_m_windows x), .ref (ad 18), .ref (ad 19), .ref (ad 20), .int (q_m_looked x), .int (q_m_term x)].set 30 (.int v))) = wR cI cZ ad (s_m_term x v) := rfl
theorem wR_s_m_floor (cI cZ : ClassId) (ad : Nat → Nat) (x : RT) (v : Nat → Int32) : (wR cI cZ ad x).set 1 (ad 1, .inl (cI, 40, .inl v)) = wR cI cZ ad (s_m_floor x v) := rfl
theorem wR_s_m_kind (cI cZ : ClassId) (ad : Nat → Nat) (x : RT) (v : Nat → Int32) : (wR cI cZ ad x).set 2 (ad 2, .inl (cI, 40, .inl v)) = wR cI cZ ad (s_m_kind x v) := rfl
theorem wR_s_m_hazard (cI cZ : ClassId) (ad : Nat → Nat) (x : RT) (v : Nat → Int32) : (wR cI cZ ad x).set 3 (ad 3, .inl (cI, 40, .inl v)) = wR cI cZ ad (s_m_hazard x v) := rfl
theorem wR_s_m_from (cI cZ : ClassId) (ad : Nat → Nat) (x : RT) (v : Nat → Int32) : (wR cI cZ ad x).set 4 (ad 4, .inl (cI, 80, .inl v)) = wR cI cZ ad (s_m_from x v) := rfl
theorem wR_s_m_to (cI cZ : ClassId) (ad : Nat → Nat) (x : RT) (v : Nat → Int32) : (wR cI cZ ad x).set 5 (ad 5, .inl (cI, 80, .inl v)) = wR cI cZ ad (s_m_to x v) := rfl
theorem wR_s_m_metres (cI cZ : ClassId) (ad : Nat → Nat) (x : RT) (v : Nat → Int32) : (wR cI cZ ad x).set 6 (ad 6, .inl (cI, 80, .inl v)) = wR cI cZ ad (s_m_metres x v) := rfl
theorem wR_s_m_lock (cI cZ : ClassId) (ad : Nat → Nat) (x : RT) (v : Nat → Int32) : (wR cI cZ ad x).set 7 (ad 7, .inl (cI, 80, .inl v)) = wR cI cZ ad (s_m_lock x v) := rfl
theorem wR_s_m_hand (cI cZ : ClassId) (ad : Nat → Nat) (x : RT) (v : Nat → Int32) : (wR cI cZ ad x).set 8 (ad 8, .inl (cZ, 31, .inl v)) = wR cI cZ ad (s_m_hand x v) := rfl
theorem wR_s_m_least (cI cZ : ClassId) (ad : Nat → Nat) (x : RT) (v : Nat → Int32) : (wR cI cZ ad x).set 9 (ad 9, .inl (cI, 40, .inl v)) = wR cI cZ ad (s_m_least x v) := rfl
theorem wR_s_m_way (cI cZ : ClassId) (ad : Nat → Nat) (x : RT) (v : Nat → Int32) : (wR cI cZ ad x).set 10 (ad 10, .inl (cI, 40, .inl v)) = wR cI cZ ad (s_m_way x v) := rfl
theorem wR_s_m_loop (cI cZ : ClassId) (ad : Nat → Nat) (x : RT) (v : Nat → Int32) : (wR cI cZ ad x).set 11 (ad 11, .inl (cI, 100, .inl v)) = wR cI cZ ad (s_m_loop x v) := rfl
theorem wR_s_m_number (cI cZ : ClassId) (ad : Nat → Nat) (x : RT) (v : Nat → Int32) : (wR cI cZ ad x).set 12 (ad 12, .inl (cI, 100, .inl v)) = wR cI cZ ad (s_m_number x v) := rfl
theorem wR_s_m_watched (cI cZ : ClassId) (ad : Nat → Nat) (x : RT) (v : Nat → Int32) : (wR cI cZ ad x).set 13 (ad 13, .inl (cI, 100, .inl v)) = wR cI cZ ad (s_m_watched x v) := rfl
theorem wR_s_m_rowRoom (cI cZ : ClassId) (ad : Nat → Nat) (x : RT) (v : Nat → Int32) : (wR cI cZ ad x).set 14 (ad 14, .inl (cI, 60, .inl v)) = wR cI cZ ad (s_m_rowRoom x v) := rfl
theorem wR_s_m_rowFrom (cI cZ : ClassId) (ad : Nat → Nat) (x : RT) (v : Nat → Int32) : (wR cI cZ ad x).set 15 (ad 15, .inl (cI, 60, .inl v)) = wR cI cZ ad (s_m_rowFrom x v) := rfl
theorem wR_s_m_rowTo (cI cZ : ClassId) (ad : Nat → Nat) (x : RT) (v : Nat → Int32) : (wR cI cZ ad x).set 16 (ad 16, .inl (cI, 60, .inl v)) = wR cI cZ ad (s_m_rowTo x v) := rfl
theorem wR_s_m_rowMany (cI cZ : ClassId) (ad : Nat → Nat) (x : RT) (v : Nat → Int32) : (wR cI cZ ad x).set 17 (ad 17, .inl (cI, 60, .inl v)) = wR cI cZ ad (s_m_rowMany x v) := rfl
theorem wR_s_m_windowX (cI cZ : ClassId) (ad : Nat → Nat) (x : RT) (v : Nat → Int32) : (wR cI cZ ad x).set 18 (ad 18, .inl (cI, 30, .inl v)) = wR cI cZ ad (s_m_windowX x v) := rfl
theorem wR_s_m_windowY (cI cZ : ClassId) (ad : Nat → Nat) (x : RT) (v : Nat → Int32) : (wR cI cZ ad x).set 19 (ad 19, .inl (cI, 30, .inl v)) = wR cI cZ ad (s_m_windowY x v) := rfl
theorem wR_s_m_windowZ (cI cZ : ClassId) (ad : Nat → Nat) (x : RT) (v : Nat → Int32) : (wR cI cZ ad x).set 20 (ad 20, .inl (cI, 30, .inl v)) = wR cI cZ ad (s_m_windowZ x v) := rfl
theorem wR_ad (cI cZ : ClassId) (ad : Nat → Nat) (x : RT) : (wR cI cZ ad x).map (·.1) = (List.range 21).map ad := rfl
def nestW : List Cond := [Cond.methodLinkNest "PlanRows" 9 y_Rooms_init "PlanRows", Cond.fieldLinkNest "PlanRows$Search" 88 "PlanRows$Rooms" "size" "I" "PlanRows", Cond.fieldLinkNest "PlanRows" 202 "PlanRows$Rooms" "size" "I" "PlanRows", Cond.methodLinkNest "PlanRows" 18 y_Doors_init "PlanRows", Cond.fieldLinkNest "PlanRows$Search" 51 "PlanRows$Doors" "size" "I" "PlanRows", Cond.fieldLinkNest "PlanRows" 205 "PlanRows$Doors" "size" "I" "PlanRows", Cond.methodLinkNest "PlanRows" 25 y_Keys_init "PlanRows", Cond.fieldLinkNest "PlanRows" 208 "PlanRows$KeyRing" "size" "I" "PlanRows", Cond.methodLinkNest "PlanRows" 41 y_Route_init "PlanRows", Cond.fieldLinkNest "PlanRows" 152 "PlanRows$Route" "length" "I" "PlanRows", Cond.fieldLinkNest "PlanRows" 155 "PlanRows$Route" "stairs" "I" "PlanRows", Cond.fieldLinkNest "PlanRows" 158 "PlanRows$Route" "end" "I" "PlanRows", Cond.methodLinkNest "PlanRows" 48 y_Det_init "PlanRows", Cond.fieldLinkNest "PlanRows" 206 "PlanRows$Detectors" "size" "I" "PlanRows", Cond.methodLinkNest "PlanRows" 55 y_Crowd_init "PlanRows", Cond.methodLinkNest "PlanRows" 62 y_Win_init "PlanRows", Cond.fieldLinkNest "PlanRows" 207 "PlanRows$Windows" "size" "I" "PlanRows"]
def NW (U : State) : Prop := ∀ w ∈ nestW, va_Nw w U
theorem NW.warm {s U : State} (hW : s.WarmedH U.vm) (h : NW s) : NW U := by
  intro w hw
  have h1 := h w hw
  simp only [nestW, List.mem_cons, List.not_mem_nil, or_false] at hw
  rcases hw with rfl | rfl | rfl | rfl | rfl | rfl | rfl | rfl | rfl | rfl | rfl | rfl | rfl | rfl | rfl | rfl | rfl <;> first | exact va_Nw.warmF hW h1 | exact va_Nw.warmM hW h1
theorem nw_0 : Cond.methodLinkNest "PlanRows" 9 y_Rooms_init "PlanRows" ∈ nestW := List.mem_of_getElem? (i := 0) rfl
theorem nw_1 : Cond.fieldLinkNest "PlanRows$Search" 88 "PlanRows$Rooms" "size" "I" "PlanRows" ∈ nestW := List.mem_of_getElem? (i := 1) rfl
theorem nw_2 : Cond.fieldLinkNest "PlanRows" 202 "PlanRows$Rooms" "size" "I" "PlanRows" ∈ nestW := List.mem_of_getElem? (i := 2) rfl
theorem nw_3 : Cond.methodLinkNest "PlanRows" 18 y_Doors_init "PlanRows" ∈ nestW := List.mem_of_getElem? (i := 3) rfl
theorem nw_4 : Cond.fieldLinkNest "PlanRows$Search" 51 "PlanRows$Doors" "size" "I" "PlanRows" ∈ nestW := List.mem_of_getElem? (i := 4) rfl
theorem nw_5 : Cond.fieldLinkNest "PlanRows" 205 "PlanRows$Doors" "size" "I" "PlanRows" ∈ nestW := List.mem_of_getElem? (i := 5) rfl
theorem nw_6 : Cond.methodLinkNest "PlanRows" 25 y_Keys_init "PlanRows" ∈ nestW := List.mem_of_getElem? (i := 6) rfl
theorem nw_7 : Cond.fieldLinkNest "PlanRows" 208 "PlanRows$KeyRing" "size" "I" "PlanRows" ∈ nestW := List.mem_of_getElem? (i := 7) rfl
theorem nw_8 : Cond.methodLinkNest "PlanRows" 41 y_Route_init "PlanRows" ∈ nestW := List.mem_of_getElem? (i := 8) rfl
theorem nw_9 : Cond.fieldLinkNest "PlanRows" 152 "PlanRows$Route" "length" "I" "PlanRows" ∈ nestW := List.mem_of_getElem? (i := 9) rfl
theorem nw_10 : Cond.fieldLinkNest "PlanRows" 155 "PlanRows$Route" "stairs" "I" "PlanRows" ∈ nestW := List.mem_of_getElem? (i := 10) rfl
theorem nw_11 : Cond.fieldLinkNest "PlanRows" 158 "PlanRows$Route" "end" "I" "PlanRows" ∈ nestW := List.mem_of_getElem? (i := 11) rfl
theorem nw_12 : Cond.methodLinkNest "PlanRows" 48 y_Det_init "PlanRows" ∈ nestW := List.mem_of_getElem? (i := 12) rfl
theorem nw_13 : Cond.fieldLinkNest "PlanRows" 206 "PlanRows$Detectors" "size" "I" "PlanRows" ∈ nestW := List.mem_of_getElem? (i := 13) rfl
theorem nw_14 : Cond.methodLinkNest "PlanRows" 55 y_Crowd_init "PlanRows" ∈ nestW := List.mem_of_getElem? (i := 14) rfl
theorem nw_15 : Cond.methodLinkNest "PlanRows" 62 y_Win_init "PlanRows" ∈ nestW := List.mem_of_getElem? (i := 15) rfl
theorem nw_16 : Cond.fieldLinkNest "PlanRows" 207 "PlanRows$Windows" "size" "I" "PlanRows" ∈ nestW := List.mem_of_getElem? (i := 16) rfl
/-- a contract's start: the arguments, the cells, the tables -/
def PC (D : va_G) (tys : List (ClassId × FieldType)) (ww : va_W) (av : List Value) : Array Value → State → Prop := fun v U => v = av.toArray ∧ va_P D clsA ww U.heap ∧ va_K D clsA tys U ∧ NW U
theorem PC.blind {D : va_G} {tys : List (ClassId × FieldType)} {ww : va_W} {av : List Value} : FrameBlind (PC D tys ww av) := fun a U g mk q =>
  ⟨q.1, q.2.1, va_K.moved (u := U) (U := U.calling g mk a) (Vm.Alike.refl U.vm) q.2.2.1, NW.warm (s := U) (U := U.calling g mk a) (State.WarmedH.refl U) q.2.2.2⟩
theorem PC.at {s : State} {D : va_G} {tys : List (ClassId × FieldType)} {ww : va_W} {av : List Value} {H : Heap} (hK : va_K D clsA tys s) (hN : NW s) (hP : va_P D clsA ww H) : ∀ U : State, U.heap = H → s.WarmedH U.vm → PC D tys ww av av.toArray U := fun U hU hW => ⟨rfl, by rw [hU]; exact hP, va_K.moved hW.alike hK, hN.warm hW⟩
section XP
variable {p : Program} {l : Launch} {e : Env} {R : Room} {s : State} {m : MethodId} {args : Array Value} {below : List Frame} {meth : Method} {c : Code} {H : Heap} {locs : List Loc} {cells slots : Nat} {Q : State → Prop}
variable {pc nL n index maxL : Nat} {ls : Array Slot} {rest st0 As : List Value} {cc bytes : ByteArray} {Ts ws : List Cond} {own C : String} {y : MethodName} {D : va_G} {tys : List (ClassId × FieldType)} {ww : va_W} {b : Addr} {v : Option Value} {rm : Room} {ret : Option FieldType} {ci : Nat} {fs : List Value} {q : vw_C}
/-- a pure call on one of the cells -/
theorem xv (S : CallFix p m c cc nL s args Ts own) (hM : MX l y ws rm (PC D tys ww (.ref b :: As)) (PQ v) 0 0 (fun _ => False)) (cw : CallW R s args own C index y bytes maxL ret ws rm 0 0 n) (hK : va_K D clsA tys s) (hN : NW s) (hP : va_P D clsA ww H)
    (place : Nat) (he : ww[place]? = some (b, .inr (ci, fs))) (hc : clsA[ci]? = some q) (hC : q.1 = C) (hn : As.length = n) (hsize : ls.size = nL) (hst : st0 = As.reverse ++ .ref b :: rest) (hW : (rest.map fun v => v.category).sum ≤ 8) (hdg : decode cc pc = .ok (.invokevirtual index, 3)) (hf : cells ≤ R.cells ∧ slots ≤ R.slots)
    (kk : W p l e R s m args below meth c H locs cells slots Q (F0 m (pc + 3) ls (v.toList ++ rest))) : W p l e R s m args below meth c H locs cells slots Q (F0 m pc ls st0) :=
  x_pure (x_runV (C := C) (b := b) (As := As) (rest := rest) S hM cw ⟨PC.blind, by rw [← hC]; exact va_recv hK hP hc he, PC.at hK hN hP⟩ rfl hn hsize hst (lv_room hW) hdg hf) kk
theorem xs (S : CallFix p m c cc nL s args Ts own) (hM : MX l y ws rm (PC D tys ww As) (PQ v) 0 0 (fun _ => False)) (cw : CallB R s args own index y bytes maxL ret ws rm 0 0 n ∧ (Cond.static y).before args s = true) (hK : va_K D clsA tys s) (hN : NW s) (hP : va_P D clsA ww H)
    (hn : As.length = n) (hsize : ls.size = nL) (hst : st0 = As.reverse ++ rest) (hW : (rest.map fun v => v.category).sum ≤ 8) (hdg : decode cc pc = .ok (.invokestatic index, 3)) (hf : cells ≤ R.cells ∧ slots ≤ R.slots)
    (kk : W p l e R s m args below meth c H locs cells slots Q (F0 m (pc + 3) ls (v.toList ++ rest))) : W p l e R s m args below meth c H locs cells slots Q (F0 m pc ls st0) :=
  x_pure (x_runS (As := As) (rest := rest) S hM cw ⟨PC.blind, PC.at hK hN hP⟩ rfl hn hsize hst (lv_room hW) hdg hf) kk
end XP
theorem cw_Crowd_28 {R : Room} {s : State} {args : Array Value} {c0 : Cond} {rm : Room} {mc ms : Nat} (hts : ∀ w ∈ c0 :: BW, w.before args s = true) (hrc : rm.cells = mc) (hrs : rm.slots = ms) (hR : rm.frames + 1 ≤ R.frames ∧ 8 + (4 + 11) + rm.locals ≤ R.locals) : CallB R s args "PlanRows$Crowd" 28 y_Crowd_isBetween b_Crowd_isBetween 4 (some .boolean) (Cond.code y_Crowd_isBetween b_Crowd_isBetween 4 (some .boolean) :: BW) rm mc ms 3 ∧ (Cond.static y_Crowd_isBetween).before args s = true := ⟨callB_of 3 hts (gBW w_628) rfl hrc hrs (hts _ (List.mem_cons_of_mem _ w_8)) (hts _ (List.mem_cons_of_mem _ w_626)) (by decide +kernel) hR, hts _ (List.mem_cons_of_mem _ w_627)⟩
theorem cw_Doors_28 {R : Room} {s : State} {args : Array Value} {c0 : Cond} {rm : Room} {mc ms : Nat} (hts : ∀ w ∈ c0 :: BW, w.before args s = true) (hrc : rm.cells = mc) (hrs : rm.slots = ms) (hR : rm.frames + 1 ≤ R.frames ∧ 8 + (2 + 11) + rm.locals ≤ R.locals) : CallW R s args "PlanRows$Doors" "PlanRows$Doors" 28 y_Doors_has b_Doors_has 2 (some .boolean) (Cond.code y_Doors_has b_Doors_has 2 (some .boolean) :: BW) rm mc ms 1 := ⟨callB_of 1 hts (gBW w_460) rfl hrc hrs (hts _ (List.mem_cons_of_mem _ w_3)) (hts _ (List.mem_cons_of_mem _ w_457)) (by decide +kernel) hR, hts _ (List.mem_cons_of_mem _ w_458), hts _ (List.mem_cons_of_mem _ w_459)⟩
theorem cw_Doors_32 {R : Room} {s : State} {args : Array Value} {c0 : Cond} {rm : Room} {mc ms : Nat} (hts : ∀ w ∈ c0 :: BW, w.before args s = true) (hrc : rm.cells = mc) (hrs : rm.slots = ms) (hR : rm.frames + 1 ≤ R.frames ∧ 8 + (2 + 11) + rm.locals ≤ R.locals) : CallW R s args "PlanRows$Doors" "PlanRows$Doors" 32 y_Doors_firstRoomOf b_Doors_firstRoomOf 2 (some .int) (Cond.code y_Doors_firstRoomOf b_Doors_firstRoomOf 2 (some .int) :: BW) rm mc ms 1 := ⟨callB_of 1 hts (gBW w_465) rfl hrc hrs (hts _ (List.mem_cons_of_mem _ w_3)) (hts _ (List.mem_cons_of_mem _ w_514)) (by decide +kernel) hR, hts _ (List.mem_cons_of_mem _ w_463), hts _ (List.mem_cons_of_mem _ w_464)⟩
theorem cw_Doors_36 {R : Room} {s : State} {args : Array Value} {c0 : Cond} {rm : Room} {mc ms : Nat} (hts : ∀ w ∈ c0 :: BW, w.before args s = true) (hrc : rm.cells = mc) (hrs : rm.slots = ms) (hR : rm.frames + 1 ≤ R.frames ∧ 8 + (2 + 11) + rm.locals ≤ R.locals) : CallW R s args "PlanRows$Doors" "PlanRows$Doors" 36 y_Doors_secondRoomOf b_Doors_secondRoomOf 2 (some .int) (Cond.code y_Doors_secondRoomOf b_Doors_secondRoomOf 2 (some .int) :: BW) rm mc ms 1 := ⟨callB_of 1 hts (gBW w_469) rfl hrc hrs (hts _ (List.mem_cons_of_mem _ w_3)) (hts _ (List.mem_cons_of_mem _ w_515)) (by decide +kernel) hR, hts _ (List.mem_cons_of_mem _ w_467), hts _ (List.mem_cons_of_mem _ w_468)⟩
theorem cw_Keys_15 {R : Room} {s : State} {args : Array Value} {c0 : Cond} {rm : Room} {mc ms : Nat} (hts : ∀ w ∈ c0 :: BW, w.before args s = true) (hrc : rm.cells = mc) (hrs : rm.slots = ms) (hR : rm.frames + 1 ≤ R.frames ∧ 8 + (2 + 11) + rm.locals ≤ R.locals) : CallW R s args "PlanRows$KeyRing" "PlanRows$KeyRing" 15 y_Keys_has b_Keys_has 2 (some .boolean) (Cond.code y_Keys_has b_Keys_has 2 (some .boolean) :: BW) rm mc ms 1 := ⟨callB_of 1 hts (gBW w_402) rfl hrc hrs (hts _ (List.mem_cons_of_mem _ w_4)) (hts _ (List.mem_cons_of_mem _ w_408)) (by decide +kernel) hR, hts _ (List.mem_cons_of_mem _ w_400), hts _ (List.mem_cons_of_mem _ w_401)⟩
theorem cw_Rooms_25 {R : Room} {s : State} {args : Array Value} {c0 : Cond} {rm : Room} {mc ms : Nat} (hts : ∀ w ∈ c0 :: BW, w.before args s = true) (hrc : rm.cells = mc) (hrs : rm.slots = ms) (hR : rm.frames + 1 ≤ R.frames ∧ 8 + (2 + 11) + rm.locals ≤ R.locals) : CallW R s args "PlanRows$Rooms" "PlanRows$Rooms" 25 y_Rooms_has b_Rooms_has 2 (some .boolean) (Cond.code y_Rooms_has b_Rooms_has 2 (some .boolean) :: BW) rm mc ms 1 := ⟨callB_of 1 hts (gBW w_362) rfl hrc hrs (hts _ (List.mem_cons_of_mem _ w_2)) (hts _ (List.mem_cons_of_mem _ w_368)) (by decide +kernel) hR, hts _ (List.mem_cons_of_mem _ w_360), hts _ (List.mem_cons_of_mem _ w_361)⟩
theorem cw_Search_28 {R : Room} {s : State} {args : Array Value} {c0 : Cond} {rm : Room} {mc ms : Nat} (hts : ∀ w ∈ c0 :: BW, w.before args s = true) (hrc : rm.cells = mc) (hrs : rm.slots = ms) (hR : rm.frames + 1 ≤ R.frames ∧ 8 + (4 + 11) + rm.locals ≤ R.locals) : CallB R s args "PlanRows$Search" 28 y_Arr_fill b_Arr_fill 4 none (Cond.code y_Arr_fill b_Arr_fill 4 none :: BW) rm mc ms 2 ∧ (Cond.static y_Arr_fill).before args s = true := ⟨callB_of 2 hts (gBW w_439) rfl hrc hrs (hts _ (List.mem_cons_of_mem _ w_19)) (hts _ (List.mem_cons_of_mem _ w_437)) (by decide +kernel) hR, hts _ (List.mem_cons_of_mem _ w_438)⟩
theorem cw_Search_34 {R : Room} {s : State} {args : Array Value} {c0 : Cond} {rm : Room} {mc ms : Nat} (hts : ∀ w ∈ c0 :: BW, w.before args s = true) (hrc : rm.cells = mc) (hrs : rm.slots = ms) (hR : rm.frames + 1 ≤ R.frames ∧ 8 + (2 + 11) + rm.locals ≤ R.locals) : CallW R s args "PlanRows$Search" "PlanRows$Rooms" 34 y_Rooms_has b_Rooms_has 2 (some .boolean) (Cond.code y_Rooms_has b_Rooms_has 2 (some .boolean) :: BW) rm mc ms 1 := ⟨callB_of 1 hts (gBW w_362) rfl hrc hrs (hts _ (List.mem_cons_of_mem _ w_2)) (hts _ (List.mem_cons_of_mem _ w_440)) (by decide +kernel) hR, hts _ (List.mem_cons_of_mem _ w_360), hts _ (List.mem_cons_of_mem _ w_361)⟩
theorem cw_Search_40 {R : Room} {s : State} {args : Array Value} {c0 : Cond} {rm : Room} {mc ms : Nat} (hts : ∀ w ∈ c0 :: BW, w.before args s = true) (hrc : rm.cells = mc) (hrs : rm.slots = ms) (hR : rm.frames + 1 ≤ R.frames ∧ 8 + (4 + 11) + rm.locals ≤ R.locals) : CallW R s args "PlanRows$Search" "PlanRows$Search" 40 y_Search_spread b_Search_spread 4 none (Cond.code y_Search_spread b_Search_spread 4 none :: BW) rm mc ms 1 := ⟨callB_of 1 hts (gBW w_444) rfl hrc hrs (hts _ (List.mem_cons_of_mem _ w_5)) (hts _ (List.mem_cons_of_mem _ w_441)) (by decide +kernel) hR, hts _ (List.mem_cons_of_mem _ w_443), hts _ (List.mem_cons_of_mem _ ws_Search_spread)⟩
theorem cw_Search_44 {R : Room} {s : State} {args : Array Value} {c0 : Cond} {rm : Room} {mc ms : Nat} (hts : ∀ w ∈ c0 :: BW, w.before args s = true) (hrc : rm.cells = mc) (hrs : rm.slots = ms) (hR : rm.frames + 1 ≤ R.frames ∧ 8 + (3 + 11) + rm.locals ≤ R.locals) : CallW R s args "PlanRows$Search" "PlanRows$Rooms" 44 y_Rooms_isOfKind b_Rooms_isOfKind 3 (some .boolean) (Cond.code y_Rooms_isOfKind b_Rooms_isOfKind 3 (some .boolean) :: BW) rm mc ms 2 := ⟨callB_of 2 hts (gBW w_493) rfl hrc hrs (hts _ (List.mem_cons_of_mem _ w_2)) (hts _ (List.mem_cons_of_mem _ w_490)) (by decide +kernel) hR, hts _ (List.mem_cons_of_mem _ w_491), hts _ (List.mem_cons_of_mem _ w_492)⟩
theorem cw_Search_48 {R : Room} {s : State} {args : Array Value} {c0 : Cond} {rm : Room} {mc ms : Nat} (hts : ∀ w ∈ c0 :: BW, w.before args s = true) (hrc : rm.cells = mc) (hrs : rm.slots = ms) (hR : rm.frames + 1 ≤ R.frames ∧ 8 + (9 + 11) + rm.locals ≤ R.locals) : CallW R s args "PlanRows$Search" "PlanRows$Search" 48 y_Search_spreadOverAllDoors b_Search_spreadOverAllDoors 9 (some .boolean) (Cond.code y_Search_spreadOverAllDoors b_Search_spreadOverAllDoors 9 (some .boolean) :: BW) rm mc ms 1 := ⟨callB_of 1 hts (gBW w_448) rfl hrc hrs (hts _ (List.mem_cons_of_mem _ w_5)) (hts _ (List.mem_cons_of_mem _ w_445)) (by decide +kernel) hR, hts _ (List.mem_cons_of_mem _ w_447), hts _ (List.mem_cons_of_mem _ ws_Search_spreadOverAllDoors)⟩
theorem cw_Search_57 {R : Room} {s : State} {args : Array Value} {c0 : Cond} {rm : Room} {mc ms : Nat} (hts : ∀ w ∈ c0 :: BW, w.before args s = true) (hrc : rm.cells = mc) (hrs : rm.slots = ms) (hR : rm.frames + 1 ≤ R.frames ∧ 8 + (3 + 11) + rm.locals ≤ R.locals) : CallW R s args "PlanRows$Search" "PlanRows$Search" 57 y_Search_isPassed b_Search_isPassed 3 (some .boolean) (Cond.code y_Search_isPassed b_Search_isPassed 3 (some .boolean) :: BW) rm mc ms 1 := ⟨callB_of 1 hts (gBW w_452) rfl hrc hrs (hts _ (List.mem_cons_of_mem _ w_5)) (hts _ (List.mem_cons_of_mem _ w_449)) (by decide +kernel) hR, hts _ (List.mem_cons_of_mem _ w_451), hts _ (List.mem_cons_of_mem _ ws_Search_isPassed)⟩
theorem cw_Search_60 {R : Room} {s : State} {args : Array Value} {c0 : Cond} {rm : Room} {mc ms : Nat} (hts : ∀ w ∈ c0 :: BW, w.before args s = true) (hrc : rm.cells = mc) (hrs : rm.slots = ms) (hR : rm.frames + 1 ≤ R.frames ∧ 8 + (2 + 11) + rm.locals ≤ R.locals) : CallW R s args "PlanRows$Search" "PlanRows$Doors" 60 y_Doors_firstRoomOf b_Doors_firstRoomOf 2 (some .int) (Cond.code y_Doors_firstRoomOf b_Doors_firstRoomOf 2 (some .int) :: BW) rm mc ms 1 := ⟨callB_of 1 hts (gBW w_465) rfl hrc hrs (hts _ (List.mem_cons_of_mem _ w_3)) (hts _ (List.mem_cons_of_mem _ w_462)) (by decide +kernel) hR, hts _ (List.mem_cons_of_mem _ w_463), hts _ (List.mem_cons_of_mem _ w_464)⟩
theorem cw_Search_64 {R : Room} {s : State} {args : Array Value} {c0 : Cond} {rm : Room} {mc ms : Nat} (hts : ∀ w ∈ c0 :: BW, w.before args s = true) (hrc : rm.cells = mc) (hrs : rm.slots = ms) (hR : rm.frames + 1 ≤ R.frames ∧ 8 + (2 + 11) + rm.locals ≤ R.locals) : CallW R s args "PlanRows$Search" "PlanRows$Doors" 64 y_Doors_secondRoomOf b_Doors_secondRoomOf 2 (some .int) (Cond.code y_Doors_secondRoomOf b_Doors_secondRoomOf 2 (some .int) :: BW) rm mc ms 1 := ⟨callB_of 1 hts (gBW w_469) rfl hrc hrs (hts _ (List.mem_cons_of_mem _ w_3)) (hts _ (List.mem_cons_of_mem _ w_466)) (by decide +kernel) hR, hts _ (List.mem_cons_of_mem _ w_467), hts _ (List.mem_cons_of_mem _ w_468)⟩
theorem cw_Search_67 {R : Room} {s : State} {args : Array Value} {c0 : Cond} {rm : Room} {mc ms : Nat} (hts : ∀ w ∈ c0 :: BW, w.before args s = true) (hrc : rm.cells = mc) (hrs : rm.slots = ms) (hR : rm.frames + 1 ≤ R.frames ∧ 8 + (2 + 11) + rm.locals ≤ R.locals) : CallW R s args "PlanRows$Search" "PlanRows$Doors" 67 y_Doors_costOf b_Doors_costOf 2 (some .int) (Cond.code y_Doors_costOf b_Doors_costOf 2 (some .int) :: BW) rm mc ms 1 := ⟨callB_of 1 hts (gBW w_473) rfl hrc hrs (hts _ (List.mem_cons_of_mem _ w_3)) (hts _ (List.mem_cons_of_mem _ w_470)) (by decide +kernel) hR, hts _ (List.mem_cons_of_mem _ w_471), hts _ (List.mem_cons_of_mem _ w_472)⟩
theorem cw_Search_70 {R : Room} {s : State} {args : Array Value} {c0 : Cond} {rm : Room} {mc ms : Nat} (hts : ∀ w ∈ c0 :: BW, w.before args s = true) (hrc : rm.cells = mc) (hrs : rm.slots = ms) (hR : rm.frames + 1 ≤ R.frames ∧ 8 + (6 + 11) + rm.locals ≤ R.locals) : CallW R s args "PlanRows$Search" "PlanRows$Search" 70 y_Search_lowerCost b_Search_lowerCost 6 (some .boolean) (Cond.code y_Search_lowerCost b_Search_lowerCost 6 (some .boolean) :: BW) rm mc ms 4 := ⟨callB_of 4 hts (gBW w_477) rfl hrc hrs (hts _ (List.mem_cons_of_mem _ w_5)) (hts _ (List.mem_cons_of_mem _ w_474)) (by decide +kernel) hR, hts _ (List.mem_cons_of_mem _ w_476), hts _ (List.mem_cons_of_mem _ ws_Search_lowerCost)⟩
theorem cw_Search_74 {R : Room} {s : State} {args : Array Value} {c0 : Cond} {rm : Room} {mc ms : Nat} (hts : ∀ w ∈ c0 :: BW, w.before args s = true) (hrc : rm.cells = mc) (hrs : rm.slots = ms) (hR : rm.frames + 1 ≤ R.frames ∧ 8 + (2 + 11) + rm.locals ≤ R.locals) : CallW R s args "PlanRows$Search" "PlanRows$Search" 74 y_Search_isReached b_Search_isReached 2 (some .boolean) (Cond.code y_Search_isReached b_Search_isReached 2 (some .boolean) :: BW) rm mc ms 1 := ⟨callB_of 1 hts (gBW w_481) rfl hrc hrs (hts _ (List.mem_cons_of_mem _ w_5)) (hts _ (List.mem_cons_of_mem _ w_478)) (by decide +kernel) hR, hts _ (List.mem_cons_of_mem _ w_480), hts _ (List.mem_cons_of_mem _ ws_Search_isReached)⟩
theorem cw_Search_77 {R : Room} {s : State} {args : Array Value} {c0 : Cond} {rm : Room} {mc ms : Nat} (hts : ∀ w ∈ c0 :: BW, w.before args s = true) (hrc : rm.cells = mc) (hrs : rm.slots = ms) (hR : rm.frames + 1 ≤ R.frames ∧ 8 + (3 + 11) + rm.locals ≤ R.locals) : CallW R s args "PlanRows$Search" "PlanRows$Rooms" 77 y_Rooms_hasHazardOf b_Rooms_hasHazardOf 3 (some .boolean) (Cond.code y_Rooms_hasHazardOf b_Rooms_hasHazardOf 3 (some .boolean) :: BW) rm mc ms 2 := ⟨callB_of 2 hts (gBW w_485) rfl hrc hrs (hts _ (List.mem_cons_of_mem _ w_2)) (hts _ (List.mem_cons_of_mem _ w_482)) (by decide +kernel) hR, hts _ (List.mem_cons_of_mem _ w_483), hts _ (List.mem_cons_of_mem _ w_484)⟩
theorem cw_Search_80 {R : Room} {s : State} {args : Array Value} {c0 : Cond} {rm : Room} {mc ms : Nat} (hts : ∀ w ∈ c0 :: BW, w.before args s = true) (hrc : rm.cells = mc) (hrs : rm.slots = ms) (hR : rm.frames + 1 ≤ R.frames ∧ 8 + (2 + 11) + rm.locals ≤ R.locals) : CallW R s args "PlanRows$Search" "PlanRows$Doors" 80 y_Doors_keyOf b_Doors_keyOf 2 (some .int) (Cond.code y_Doors_keyOf b_Doors_keyOf 2 (some .int) :: BW) rm mc ms 1 := ⟨callB_of 1 hts (gBW w_456) rfl hrc hrs (hts _ (List.mem_cons_of_mem _ w_3)) (hts _ (List.mem_cons_of_mem _ w_453)) (by decide +kernel) hR, hts _ (List.mem_cons_of_mem _ w_454), hts _ (List.mem_cons_of_mem _ w_455)⟩
theorem cw_Search_83 {R : Room} {s : State} {args : Array Value} {c0 : Cond} {rm : Room} {mc ms : Nat} (hts : ∀ w ∈ c0 :: BW, w.before args s = true) (hrc : rm.cells = mc) (hrs : rm.slots = ms) (hR : rm.frames + 1 ≤ R.frames ∧ 8 + (2 + 11) + rm.locals ≤ R.locals) : CallW R s args "PlanRows$Search" "PlanRows$KeyRing" 83 y_Keys_isAtHand b_Keys_isAtHand 2 (some .boolean) (Cond.code y_Keys_isAtHand b_Keys_isAtHand 2 (some .boolean) :: BW) rm mc ms 1 := ⟨callB_of 1 hts (gBW w_407) rfl hrc hrs (hts _ (List.mem_cons_of_mem _ w_4)) (hts _ (List.mem_cons_of_mem _ w_461)) (by decide +kernel) hR, hts _ (List.mem_cons_of_mem _ w_405), hts _ (List.mem_cons_of_mem _ w_406)⟩
theorem cw_Search_89 {R : Room} {s : State} {args : Array Value} {c0 : Cond} {rm : Room} {mc ms : Nat} (hts : ∀ w ∈ c0 :: BW, w.before args s = true) (hrc : rm.cells = mc) (hrs : rm.slots = ms) (hR : rm.frames + 1 ≤ R.frames ∧ 8 + (2 + 11) + rm.locals ≤ R.locals) : CallW R s args "PlanRows$Search" "PlanRows$Search" 89 y_Search_stairsTo b_Search_stairsTo 2 (some .int) (Cond.code y_Search_stairsTo b_Search_stairsTo 2 (some .int) :: BW) rm mc ms 1 := ⟨callB_of 1 hts (gBW w_501) rfl hrc hrs (hts _ (List.mem_cons_of_mem _ w_5)) (hts _ (List.mem_cons_of_mem _ w_498)) (by decide +kernel) hR, hts _ (List.mem_cons_of_mem _ w_500), hts _ (List.mem_cons_of_mem _ ws_Search_stairsTo)⟩
theorem cw_Search_92 {R : Room} {s : State} {args : Array Value} {c0 : Cond} {rm : Room} {mc ms : Nat} (hts : ∀ w ∈ c0 :: BW, w.before args s = true) (hrc : rm.cells = mc) (hrs : rm.slots = ms) (hR : rm.frames + 1 ≤ R.frames ∧ 8 + (3 + 11) + rm.locals ≤ R.locals) : CallW R s args "PlanRows$Search" "PlanRows$Route" 92 y_Route_restart b_Route_restart 3 none (Cond.code y_Route_restart b_Route_restart 3 none :: BW) rm mc ms 2 := ⟨callB_of 2 hts (gBW w_505) rfl hrc hrs (hts _ (List.mem_cons_of_mem _ w_6)) (hts _ (List.mem_cons_of_mem _ w_502)) (by decide +kernel) hR, hts _ (List.mem_cons_of_mem _ w_503), hts _ (List.mem_cons_of_mem _ w_504)⟩
theorem cw_Search_98 {R : Room} {s : State} {args : Array Value} {c0 : Cond} {rm : Room} {mc ms : Nat} (hts : ∀ w ∈ c0 :: BW, w.before args s = true) (hrc : rm.cells = mc) (hrs : rm.slots = ms) (hR : rm.frames + 1 ≤ R.frames ∧ 8 + (4 + 11) + rm.locals ≤ R.locals) : CallW R s args "PlanRows$Search" "PlanRows$Search" 98 y_Search_lowestDoorInto b_Search_lowestDoorInto 4 (some .int) (Cond.code y_Search_lowestDoorInto b_Search_lowestDoorInto 4 (some .int) :: BW) rm mc ms 1 := ⟨callB_of 1 hts (gBW w_509) rfl hrc hrs (hts _ (List.mem_cons_of_mem _ w_5)) (hts _ (List.mem_cons_of_mem _ w_506)) (by decide +kernel) hR, hts _ (List.mem_cons_of_mem _ w_508), hts _ (List.mem_cons_of_mem _ ws_Search_lowestDoorInto)⟩
theorem cw_Search_101 {R : Room} {s : State} {args : Array Value} {c0 : Cond} {rm : Room} {mc ms : Nat} (hts : ∀ w ∈ c0 :: BW, w.before args s = true) (hrc : rm.cells = mc) (hrs : rm.slots = ms) (hR : rm.frames + 1 ≤ R.frames ∧ 8 + (2 + 11) + rm.locals ≤ R.locals) : CallW R s args "PlanRows$Search" "PlanRows$Route" 101 y_Route_addBefore b_Route_addBefore 2 none (Cond.code y_Route_addBefore b_Route_addBefore 2 none :: BW) rm mc ms 1 := ⟨callB_of 1 hts (gBW w_519) rfl hrc hrs (hts _ (List.mem_cons_of_mem _ w_6)) (hts _ (List.mem_cons_of_mem _ w_516)) (by decide +kernel) hR, hts _ (List.mem_cons_of_mem _ w_517), hts _ (List.mem_cons_of_mem _ w_518)⟩
theorem cw_Search_104 {R : Room} {s : State} {args : Array Value} {c0 : Cond} {rm : Room} {mc ms : Nat} (hts : ∀ w ∈ c0 :: BW, w.before args s = true) (hrc : rm.cells = mc) (hrs : rm.slots = ms) (hR : rm.frames + 1 ≤ R.frames ∧ 8 + (3 + 11) + rm.locals ≤ R.locals) : CallW R s args "PlanRows$Search" "PlanRows$Doors" 104 y_Doors_roomBehind b_Doors_roomBehind 3 (some .int) (Cond.code y_Doors_roomBehind b_Doors_roomBehind 3 (some .int) :: BW) rm mc ms 2 := ⟨callB_of 2 hts (gBW w_513) rfl hrc hrs (hts _ (List.mem_cons_of_mem _ w_3)) (hts _ (List.mem_cons_of_mem _ w_510)) (by decide +kernel) hR, hts _ (List.mem_cons_of_mem _ w_511), hts _ (List.mem_cons_of_mem _ w_512)⟩
theorem cw_Win_25 {R : Room} {s : State} {args : Array Value} {c0 : Cond} {rm : Room} {mc ms : Nat} (hts : ∀ w ∈ c0 :: BW, w.before args s = true) (hrc : rm.cells = mc) (hrs : rm.slots = ms) (hR : rm.frames + 1 ≤ R.frames ∧ 8 + (2 + 11) + rm.locals ≤ R.locals) : CallW R s args "PlanRows$Windows" "PlanRows$Windows" 25 y_Win_has b_Win_has 2 (some .boolean) (Cond.code y_Win_has b_Win_has 2 (some .boolean) :: BW) rm mc ms 1 := ⟨callB_of 1 hts (gBW w_659) rfl hrc hrs (hts _ (List.mem_cons_of_mem _ w_9)) (hts _ (List.mem_cons_of_mem _ w_665)) (by decide +kernel) hR, hts _ (List.mem_cons_of_mem _ w_657), hts _ (List.mem_cons_of_mem _ w_658)⟩
theorem cw_Win_30 {R : Room} {s : State} {args : Array Value} {c0 : Cond} {rm : Room} {mc ms : Nat} (hts : ∀ w ∈ c0 :: BW, w.before args s = true) (hrc : rm.cells = mc) (hrs : rm.slots = ms) (hR : rm.frames + 1 ≤ R.frames ∧ 8 + (12 + 11) + rm.locals ≤ R.locals) : CallW R s args "PlanRows$Windows" "PlanRows$Windows" 30 y_Win_isReached b_Win_isReached 12 (some .boolean) (Cond.code y_Win_isReached b_Win_isReached 12 (some .boolean) :: BW) rm mc ms 5 := ⟨callB_of 5 hts (gBW w_664) rfl hrc hrs (hts _ (List.mem_cons_of_mem _ w_9)) (hts _ (List.mem_cons_of_mem _ w_678)) (by decide +kernel) hR, hts _ (List.mem_cons_of_mem _ w_662), hts _ (List.mem_cons_of_mem _ w_663)⟩
theorem cw_Plan_74 {R : Room} {s : State} {args : Array Value} {c0 : Cond} {rm : Room} {mc ms : Nat} (hts : ∀ w ∈ c0 :: BW, w.before args s = true) (hrc : rm.cells = mc) (hrs : rm.slots = ms) (hR : rm.frames + 1 ≤ R.frames ∧ 8 + (1 + 11) + rm.locals ≤ R.locals) : CallB R s args "PlanRows" 74 y_Plan_wantKind b_Plan_wantKind 1 none (Cond.code y_Plan_wantKind b_Plan_wantKind 1 none :: BW) rm mc ms 1 ∧ (Cond.static y_Plan_wantKind).before args s = true := ⟨callB_of 1 hts (gBW w_235) rfl hrc hrs (hts _ (List.mem_cons_of_mem _ w_1)) (hts _ (List.mem_cons_of_mem _ w_233)) (by decide +kernel) hR, hts _ (List.mem_cons_of_mem _ w_234)⟩
theorem cw_Plan_78 {R : Room} {s : State} {args : Array Value} {c0 : Cond} {rm : Room} {mc ms : Nat} (hts : ∀ w ∈ c0 :: BW, w.before args s = true) (hrc : rm.cells = mc) (hrs : rm.slots = ms) (hR : rm.frames + 1 ≤ R.frames ∧ 8 + (3 + 11) + rm.locals ≤ R.locals) : CallB R s args "PlanRows" 78 y_Plan_wantWithin b_Plan_wantWithin 3 none (Cond.code y_Plan_wantWithin b_Plan_wantWithin 3 none :: BW) rm mc ms 3 ∧ (Cond.static y_Plan_wantWithin).before args s = true := ⟨callB_of 3 hts (gBW w_307) rfl hrc hrs (hts _ (List.mem_cons_of_mem _ w_1)) (hts _ (List.mem_cons_of_mem _ w_305)) (by decide +kernel) hR, hts _ (List.mem_cons_of_mem _ w_306)⟩
theorem cw_Plan_82 {R : Room} {s : State} {args : Array Value} {c0 : Cond} {rm : Room} {mc ms : Nat} (hts : ∀ w ∈ c0 :: BW, w.before args s = true) (hrc : rm.cells = mc) (hrs : rm.slots = ms) (hR : rm.frames + 1 ≤ R.frames ∧ 8 + (3 + 11) + rm.locals ≤ R.locals) : CallW R s args "PlanRows" "PlanRows$Rooms" 82 y_Rooms_add b_Rooms_add 3 (some .int) (Cond.code y_Rooms_add b_Rooms_add 3 (some .int) :: BW) rm mc ms 2 := ⟨callB_of 2 hts (gBW w_327) rfl hrc hrs (hts _ (List.mem_cons_of_mem _ w_2)) (hts _ (List.mem_cons_of_mem _ w_324)) (by decide +kernel) hR, hts _ (List.mem_cons_of_mem _ w_325), hts _ (List.mem_cons_of_mem _ w_326)⟩
theorem cw_Plan_86 {R : Room} {s : State} {args : Array Value} {c0 : Cond} {rm : Room} {mc ms : Nat} (hts : ∀ w ∈ c0 :: BW, w.before args s = true) (hrc : rm.cells = mc) (hrs : rm.slots = ms) (hR : rm.frames + 1 ≤ R.frames ∧ 8 + (1 + 11) + rm.locals ≤ R.locals) : CallB R s args "PlanRows" 86 y_Plan_wantAdded b_Plan_wantAdded 1 (some .int) (Cond.code y_Plan_wantAdded b_Plan_wantAdded 1 (some .int) :: BW) rm mc ms 1 ∧ (Cond.static y_Plan_wantAdded).before args s = true := ⟨callB_of 1 hts (gBW w_330) rfl hrc hrs (hts _ (List.mem_cons_of_mem _ w_1)) (hts _ (List.mem_cons_of_mem _ w_328)) (by decide +kernel) hR, hts _ (List.mem_cons_of_mem _ w_329)⟩
theorem cw_Plan_90 {R : Room} {s : State} {args : Array Value} {c0 : Cond} {rm : Room} {mc ms : Nat} (hts : ∀ w ∈ c0 :: BW, w.before args s = true) (hrc : rm.cells = mc) (hrs : rm.slots = ms) (hR : rm.frames + 1 ≤ R.frames ∧ 8 + (2 + 11) + rm.locals ≤ R.locals) : CallW R s args "PlanRows" "PlanRows" 90 y_Plan_wantRoom b_Plan_wantRoom 2 none (Cond.code y_Plan_wantRoom b_Plan_wantRoom 2 none :: BW) rm mc ms 1 := ⟨callB_of 1 hts (gBW w_358) rfl hrc hrs (hts _ (List.mem_cons_of_mem _ w_1)) (hts _ (List.mem_cons_of_mem _ w_355)) (by decide +kernel) hR, hts _ (List.mem_cons_of_mem _ w_357), hts _ (List.mem_cons_of_mem _ ws_Plan_wantRoom)⟩
theorem cw_Plan_93 {R : Room} {s : State} {args : Array Value} {c0 : Cond} {rm : Room} {mc ms : Nat} (hts : ∀ w ∈ c0 :: BW, w.before args s = true) (hrc : rm.cells = mc) (hrs : rm.slots = ms) (hR : rm.frames + 1 ≤ R.frames ∧ 8 + (2 + 11) + rm.locals ≤ R.locals) : CallW R s args "PlanRows" "PlanRows$Rooms" 93 y_Rooms_floorOf b_Rooms_floorOf 2 (some .int) (Cond.code y_Rooms_floorOf b_Rooms_floorOf 2 (some .int) :: BW) rm mc ms 1 := ⟨callB_of 1 hts (gBW w_367) rfl hrc hrs (hts _ (List.mem_cons_of_mem _ w_2)) (hts _ (List.mem_cons_of_mem _ w_364)) (by decide +kernel) hR, hts _ (List.mem_cons_of_mem _ w_365), hts _ (List.mem_cons_of_mem _ w_366)⟩
theorem cw_Plan_108 {R : Room} {s : State} {args : Array Value} {c0 : Cond} {rm : Room} {mc ms : Nat} (hts : ∀ w ∈ c0 :: BW, w.before args s = true) (hrc : rm.cells = mc) (hrs : rm.slots = ms) (hR : rm.frames + 1 ≤ R.frames ∧ 8 + (5 + 11) + rm.locals ≤ R.locals) : CallW R s args "PlanRows" "PlanRows$Doors" 108 y_Doors_add b_Doors_add 5 (some .int) (Cond.code y_Doors_add b_Doors_add 5 (some .int) :: BW) rm mc ms 4 := ⟨callB_of 4 hts (gBW w_391) rfl hrc hrs (hts _ (List.mem_cons_of_mem _ w_3)) (hts _ (List.mem_cons_of_mem _ w_388)) (by decide +kernel) hR, hts _ (List.mem_cons_of_mem _ w_389), hts _ (List.mem_cons_of_mem _ w_390)⟩
theorem cw_Plan_111 {R : Room} {s : State} {args : Array Value} {c0 : Cond} {rm : Room} {mc ms : Nat} (hts : ∀ w ∈ c0 :: BW, w.before args s = true) (hrc : rm.cells = mc) (hrs : rm.slots = ms) (hR : rm.frames + 1 ≤ R.frames ∧ 8 + (2 + 11) + rm.locals ≤ R.locals) : CallW R s args "PlanRows" "PlanRows$KeyRing" 111 y_Keys_has b_Keys_has 2 (some .boolean) (Cond.code y_Keys_has b_Keys_has 2 (some .boolean) :: BW) rm mc ms 1 := ⟨callB_of 1 hts (gBW w_402) rfl hrc hrs (hts _ (List.mem_cons_of_mem _ w_4)) (hts _ (List.mem_cons_of_mem _ w_399)) (by decide +kernel) hR, hts _ (List.mem_cons_of_mem _ w_400), hts _ (List.mem_cons_of_mem _ w_401)⟩
theorem cw_Plan_120 {R : Room} {s : State} {args : Array Value} {c0 : Cond} {rm : Room} {mc ms : Nat} (hts : ∀ w ∈ c0 :: BW, w.before args s = true) (hrc : rm.cells = mc) (hrs : rm.slots = ms) (hR : rm.frames + 1 ≤ R.frames ∧ 8 + (2 + 11) + rm.locals ≤ R.locals) : CallW R s args "PlanRows" "PlanRows$KeyRing" 120 y_Keys_isAtHand b_Keys_isAtHand 2 (some .boolean) (Cond.code y_Keys_isAtHand b_Keys_isAtHand 2 (some .boolean) :: BW) rm mc ms 1 := ⟨callB_of 1 hts (gBW w_407) rfl hrc hrs (hts _ (List.mem_cons_of_mem _ w_4)) (hts _ (List.mem_cons_of_mem _ w_404)) (by decide +kernel) hR, hts _ (List.mem_cons_of_mem _ w_405), hts _ (List.mem_cons_of_mem _ w_406)⟩
theorem cw_Plan_125 {R : Room} {s : State} {args : Array Value} {c0 : Cond} {rm : Room} {mc ms : Nat} (hts : ∀ w ∈ c0 :: BW, w.before args s = true) (hrc : rm.cells = mc) (hrs : rm.slots = ms) (hR : rm.frames + 1 ≤ R.frames ∧ 8 + (3 + 11) + rm.locals ≤ R.locals) : CallW R s args "PlanRows" "PlanRows$KeyRing" 125 y_Keys_put b_Keys_put 3 none (Cond.code y_Keys_put b_Keys_put 3 none :: BW) rm mc ms 2 := ⟨callB_of 2 hts (gBW w_413) rfl hrc hrs (hts _ (List.mem_cons_of_mem _ w_4)) (hts _ (List.mem_cons_of_mem _ w_410)) (by decide +kernel) hR, hts _ (List.mem_cons_of_mem _ w_411), hts _ (List.mem_cons_of_mem _ w_412)⟩
theorem cw_Plan_129 {R : Room} {s : State} {args : Array Value} {c0 : Cond} {rm : Room} {mc ms : Nat} (hts : ∀ w ∈ c0 :: BW, w.before args s = true) (hrc : rm.cells = mc) (hrs : rm.slots = ms) (hR : rm.frames + 1 ≤ R.frames ∧ 8 + (3 + 11) + rm.locals ≤ R.locals) : CallW R s args "PlanRows" "PlanRows$Rooms" 129 y_Rooms_setHazards b_Rooms_setHazards 3 none (Cond.code y_Rooms_setHazards b_Rooms_setHazards 3 none :: BW) rm mc ms 2 := ⟨callB_of 2 hts (gBW w_424) rfl hrc hrs (hts _ (List.mem_cons_of_mem _ w_2)) (hts _ (List.mem_cons_of_mem _ w_421)) (by decide +kernel) hR, hts _ (List.mem_cons_of_mem _ w_422), hts _ (List.mem_cons_of_mem _ w_423)⟩
theorem cw_Plan_133 {R : Room} {s : State} {args : Array Value} {c0 : Cond} {rm : Room} {mc ms : Nat} (hts : ∀ w ∈ c0 :: BW, w.before args s = true) (hrc : rm.cells = mc) (hrs : rm.slots = ms) (hR : rm.frames + 1 ≤ R.frames ∧ 8 + (3 + 11) + rm.locals ≤ R.locals) : CallW R s args "PlanRows" "PlanRows$Search" 133 y_Search_spreadFromRoom b_Search_spreadFromRoom 3 none (Cond.code y_Search_spreadFromRoom b_Search_spreadFromRoom 3 none :: BW) rm mc ms 2 := ⟨callB_of 2 hts (gBW w_435) rfl hrc hrs (hts _ (List.mem_cons_of_mem _ w_5)) (hts _ (List.mem_cons_of_mem _ w_432)) (by decide +kernel) hR, hts _ (List.mem_cons_of_mem _ w_433), hts _ (List.mem_cons_of_mem _ w_434)⟩
theorem cw_Plan_136 {R : Room} {s : State} {args : Array Value} {c0 : Cond} {rm : Room} {mc ms : Nat} (hts : ∀ w ∈ c0 :: BW, w.before args s = true) (hrc : rm.cells = mc) (hrs : rm.slots = ms) (hR : rm.frames + 1 ≤ R.frames ∧ 8 + (5 + 11) + rm.locals ≤ R.locals) : CallW R s args "PlanRows" "PlanRows$Search" 136 y_Search_nearestOf b_Search_nearestOf 5 (some .int) (Cond.code y_Search_nearestOf b_Search_nearestOf 5 (some .int) :: BW) rm mc ms 1 := ⟨callB_of 1 hts (gBW w_489) rfl hrc hrs (hts _ (List.mem_cons_of_mem _ w_5)) (hts _ (List.mem_cons_of_mem _ w_486)) (by decide +kernel) hR, hts _ (List.mem_cons_of_mem _ w_487), hts _ (List.mem_cons_of_mem _ w_488)⟩
theorem cw_Plan_139 {R : Room} {s : State} {args : Array Value} {c0 : Cond} {rm : Room} {mc ms : Nat} (hts : ∀ w ∈ c0 :: BW, w.before args s = true) (hrc : rm.cells = mc) (hrs : rm.slots = ms) (hR : rm.frames + 1 ≤ R.frames ∧ 8 + (6 + 11) + rm.locals ≤ R.locals) : CallW R s args "PlanRows" "PlanRows$Search" 139 y_Search_tellWayTo b_Search_tellWayTo 6 none (Cond.code y_Search_tellWayTo b_Search_tellWayTo 6 none :: BW) rm mc ms 2 := ⟨callB_of 2 hts (gBW w_497) rfl hrc hrs (hts _ (List.mem_cons_of_mem _ w_5)) (hts _ (List.mem_cons_of_mem _ w_494)) (by decide +kernel) hR, hts _ (List.mem_cons_of_mem _ w_495), hts _ (List.mem_cons_of_mem _ w_496)⟩
theorem cw_Plan_143 {R : Room} {s : State} {args : Array Value} {c0 : Cond} {rm : Room} {mc ms : Nat} (hts : ∀ w ∈ c0 :: BW, w.before args s = true) (hrc : rm.cells = mc) (hrs : rm.slots = ms) (hR : rm.frames + 1 ≤ R.frames ∧ 8 + (2 + 11) + rm.locals ≤ R.locals) : CallW R s args "PlanRows" "PlanRows$Search" 143 y_Search_metresTo b_Search_metresTo 2 (some .int) (Cond.code y_Search_metresTo b_Search_metresTo 2 (some .int) :: BW) rm mc ms 1 := ⟨callB_of 1 hts (gBW w_523) rfl hrc hrs (hts _ (List.mem_cons_of_mem _ w_5)) (hts _ (List.mem_cons_of_mem _ w_520)) (by decide +kernel) hR, hts _ (List.mem_cons_of_mem _ w_521), hts _ (List.mem_cons_of_mem _ w_522)⟩
theorem cw_Plan_146 {R : Room} {s : State} {args : Array Value} {c0 : Cond} {rm : Room} {mc ms : Nat} (hts : ∀ w ∈ c0 :: BW, w.before args s = true) (hrc : rm.cells = mc) (hrs : rm.slots = ms) (hR : rm.frames + 1 ≤ R.frames ∧ 8 + (1 + 11) + rm.locals ≤ R.locals) : CallB R s args "PlanRows" 146 y_Plan_wantNotBelowZero b_Plan_wantNotBelowZero 1 none (Cond.code y_Plan_wantNotBelowZero b_Plan_wantNotBelowZero 1 none :: BW) rm mc ms 1 ∧ (Cond.static y_Plan_wantNotBelowZero).before args s = true := ⟨callB_of 1 hts (gBW w_533) rfl hrc hrs (hts _ (List.mem_cons_of_mem _ w_1)) (hts _ (List.mem_cons_of_mem _ w_531)) (by decide +kernel) hR, hts _ (List.mem_cons_of_mem _ w_532)⟩
theorem cw_Plan_149 {R : Room} {s : State} {args : Array Value} {c0 : Cond} {rm : Room} {mc ms : Nat} (hts : ∀ w ∈ c0 :: BW, w.before args s = true) (hrc : rm.cells = mc) (hrs : rm.slots = ms) (hR : rm.frames + 1 ≤ R.frames ∧ 8 + (2 + 11) + rm.locals ≤ R.locals) : CallW R s args "PlanRows" "PlanRows$Route" 149 y_Route_doorAt b_Route_doorAt 2 (some .int) (Cond.code y_Route_doorAt b_Route_doorAt 2 (some .int) :: BW) rm mc ms 1 := ⟨callB_of 1 hts (gBW w_538) rfl hrc hrs (hts _ (List.mem_cons_of_mem _ w_6)) (hts _ (List.mem_cons_of_mem _ w_535)) (by decide +kernel) hR, hts _ (List.mem_cons_of_mem _ w_536), hts _ (List.mem_cons_of_mem _ w_537)⟩
theorem cw_Plan_163 {R : Room} {s : State} {args : Array Value} {c0 : Cond} {rm : Room} {mc ms : Nat} (hts : ∀ w ∈ c0 :: BW, w.before args s = true) (hrc : rm.cells = mc) (hrs : rm.slots = ms) (hR : rm.frames + 1 ≤ R.frames ∧ 8 + (3 + 11) + rm.locals ≤ R.locals) : CallW R s args "PlanRows" "PlanRows$Search" 163 y_Search_spreadFromKind b_Search_spreadFromKind 3 none (Cond.code y_Search_spreadFromKind b_Search_spreadFromKind 3 none :: BW) rm mc ms 1 := ⟨callB_of 1 hts (gBW w_564) rfl hrc hrs (hts _ (List.mem_cons_of_mem _ w_5)) (hts _ (List.mem_cons_of_mem _ w_561)) (by decide +kernel) hR, hts _ (List.mem_cons_of_mem _ w_562), hts _ (List.mem_cons_of_mem _ w_563)⟩
theorem cw_Plan_166 {R : Room} {s : State} {args : Array Value} {c0 : Cond} {rm : Room} {mc ms : Nat} (hts : ∀ w ∈ c0 :: BW, w.before args s = true) (hrc : rm.cells = mc) (hrs : rm.slots = ms) (hR : rm.frames + 1 ≤ R.frames ∧ 8 + (4 + 11) + rm.locals ≤ R.locals) : CallW R s args "PlanRows" "PlanRows$Search" 166 y_Search_unreachedAt b_Search_unreachedAt 4 (some .int) (Cond.code y_Search_unreachedAt b_Search_unreachedAt 4 (some .int) :: BW) rm mc ms 1 := ⟨callB_of 1 hts (gBW w_568) rfl hrc hrs (hts _ (List.mem_cons_of_mem _ w_5)) (hts _ (List.mem_cons_of_mem _ w_565)) (by decide +kernel) hR, hts _ (List.mem_cons_of_mem _ w_566), hts _ (List.mem_cons_of_mem _ w_567)⟩
theorem cw_Plan_169 {R : Room} {s : State} {args : Array Value} {c0 : Cond} {rm : Room} {mc ms : Nat} (hts : ∀ w ∈ c0 :: BW, w.before args s = true) (hrc : rm.cells = mc) (hrs : rm.slots = ms) (hR : rm.frames + 1 ≤ R.frames ∧ 8 + (3 + 11) + rm.locals ≤ R.locals) : CallW R s args "PlanRows" "PlanRows$Doors" 169 y_Doors_anyHasKey b_Doors_anyHasKey 3 (some .boolean) (Cond.code y_Doors_anyHasKey b_Doors_anyHasKey 3 (some .boolean) :: BW) rm mc ms 1 := ⟨callB_of 1 hts (gBW w_579) rfl hrc hrs (hts _ (List.mem_cons_of_mem _ w_3)) (hts _ (List.mem_cons_of_mem _ w_576)) (by decide +kernel) hR, hts _ (List.mem_cons_of_mem _ w_577), hts _ (List.mem_cons_of_mem _ w_578)⟩
theorem cw_Plan_172 {R : Room} {s : State} {args : Array Value} {c0 : Cond} {rm : Room} {mc ms : Nat} (hts : ∀ w ∈ c0 :: BW, w.before args s = true) (hrc : rm.cells = mc) (hrs : rm.slots = ms) (hR : rm.frames + 1 ≤ R.frames ∧ 8 + (4 + 11) + rm.locals ≤ R.locals) : CallW R s args "PlanRows" "PlanRows$Detectors" 172 y_Det_roomOf b_Det_roomOf 4 (some .int) (Cond.code y_Det_roomOf b_Det_roomOf 4 (some .int) :: BW) rm mc ms 2 := ⟨callB_of 2 hts (gBW w_590) rfl hrc hrs (hts _ (List.mem_cons_of_mem _ w_7)) (hts _ (List.mem_cons_of_mem _ w_587)) (by decide +kernel) hR, hts _ (List.mem_cons_of_mem _ w_588), hts _ (List.mem_cons_of_mem _ w_589)⟩
theorem cw_Plan_177 {R : Room} {s : State} {args : Array Value} {c0 : Cond} {rm : Room} {mc ms : Nat} (hts : ∀ w ∈ c0 :: BW, w.before args s = true) (hrc : rm.cells = mc) (hrs : rm.slots = ms) (hR : rm.frames + 1 ≤ R.frames ∧ 8 + (4 + 11) + rm.locals ≤ R.locals) : CallW R s args "PlanRows" "PlanRows$Detectors" 177 y_Det_add b_Det_add 4 (some .int) (Cond.code y_Det_add b_Det_add 4 (some .int) :: BW) rm mc ms 3 := ⟨callB_of 3 hts (gBW w_595) rfl hrc hrs (hts _ (List.mem_cons_of_mem _ w_7)) (hts _ (List.mem_cons_of_mem _ w_592)) (by decide +kernel) hR, hts _ (List.mem_cons_of_mem _ w_593), hts _ (List.mem_cons_of_mem _ w_594)⟩
theorem cw_Plan_180 {R : Room} {s : State} {args : Array Value} {c0 : Cond} {rm : Room} {mc ms : Nat} (hts : ∀ w ∈ c0 :: BW, w.before args s = true) (hrc : rm.cells = mc) (hrs : rm.slots = ms) (hR : rm.frames + 1 ≤ R.frames ∧ 8 + (5 + 11) + rm.locals ≤ R.locals) : CallW R s args "PlanRows" "PlanRows$Crowd" 180 y_Crowd_add b_Crowd_add 5 (some .int) (Cond.code y_Crowd_add b_Crowd_add 5 (some .int) :: BW) rm mc ms 4 := ⟨callB_of 4 hts (gBW w_613) rfl hrc hrs (hts _ (List.mem_cons_of_mem _ w_8)) (hts _ (List.mem_cons_of_mem _ w_610)) (by decide +kernel) hR, hts _ (List.mem_cons_of_mem _ w_611), hts _ (List.mem_cons_of_mem _ w_612)⟩
theorem cw_Plan_183 {R : Room} {s : State} {args : Array Value} {c0 : Cond} {rm : Room} {mc ms : Nat} (hts : ∀ w ∈ c0 :: BW, w.before args s = true) (hrc : rm.cells = mc) (hrs : rm.slots = ms) (hR : rm.frames + 1 ≤ R.frames ∧ 8 + (6 + 11) + rm.locals ≤ R.locals) : CallW R s args "PlanRows" "PlanRows$Crowd" 183 y_Crowd_sum b_Crowd_sum 6 (some .int) (Cond.code y_Crowd_sum b_Crowd_sum 6 (some .int) :: BW) rm mc ms 2 := ⟨callB_of 2 hts (gBW w_625) rfl hrc hrs (hts _ (List.mem_cons_of_mem _ w_8)) (hts _ (List.mem_cons_of_mem _ w_622)) (by decide +kernel) hR, hts _ (List.mem_cons_of_mem _ w_623), hts _ (List.mem_cons_of_mem _ w_624)⟩
theorem cw_Plan_186 {R : Room} {s : State} {args : Array Value} {c0 : Cond} {rm : Room} {mc ms : Nat} (hts : ∀ w ∈ c0 :: BW, w.before args s = true) (hrc : rm.cells = mc) (hrs : rm.slots = ms) (hR : rm.frames + 1 ≤ R.frames ∧ 8 + (3 + 11) + rm.locals ≤ R.locals) : CallB R s args "PlanRows" 186 y_Plan_wantPoint b_Plan_wantPoint 3 none (Cond.code y_Plan_wantPoint b_Plan_wantPoint 3 none :: BW) rm mc ms 3 ∧ (Cond.static y_Plan_wantPoint).before args s = true := ⟨callB_of 3 hts (gBW w_638) rfl hrc hrs (hts _ (List.mem_cons_of_mem _ w_1)) (hts _ (List.mem_cons_of_mem _ w_636)) (by decide +kernel) hR, hts _ (List.mem_cons_of_mem _ w_637)⟩
theorem cw_Plan_189 {R : Room} {s : State} {args : Array Value} {c0 : Cond} {rm : Room} {mc ms : Nat} (hts : ∀ w ∈ c0 :: BW, w.before args s = true) (hrc : rm.cells = mc) (hrs : rm.slots = ms) (hR : rm.frames + 1 ≤ R.frames ∧ 8 + (4 + 11) + rm.locals ≤ R.locals) : CallW R s args "PlanRows" "PlanRows$Windows" 189 y_Win_add b_Win_add 4 (some .int) (Cond.code y_Win_add b_Win_add 4 (some .int) :: BW) rm mc ms 3 := ⟨callB_of 3 hts (gBW w_644) rfl hrc hrs (hts _ (List.mem_cons_of_mem _ w_9)) (hts _ (List.mem_cons_of_mem _ w_641)) (by decide +kernel) hR, hts _ (List.mem_cons_of_mem _ w_642), hts _ (List.mem_cons_of_mem _ w_643)⟩
theorem cw_Plan_190 {R : Room} {s : State} {args : Array Value} {c0 : Cond} {rm : Room} {mc ms : Nat} (hts : ∀ w ∈ c0 :: BW, w.before args s = true) (hrc : rm.cells = mc) (hrs : rm.slots = ms) (hR : rm.frames + 1 ≤ R.frames ∧ 8 + (2 + 11) + rm.locals ≤ R.locals) : CallW R s args "PlanRows" "PlanRows" 190 y_Plan_wantWindow b_Plan_wantWindow 2 none (Cond.code y_Plan_wantWindow b_Plan_wantWindow 2 none :: BW) rm mc ms 1 := ⟨callB_of 1 hts (gBW w_655) rfl hrc hrs (hts _ (List.mem_cons_of_mem _ w_1)) (hts _ (List.mem_cons_of_mem _ w_652)) (by decide +kernel) hR, hts _ (List.mem_cons_of_mem _ w_654), hts _ (List.mem_cons_of_mem _ ws_Plan_wantWindow)⟩
theorem cw_Plan_194 {R : Room} {s : State} {args : Array Value} {c0 : Cond} {rm : Room} {mc ms : Nat} (hts : ∀ w ∈ c0 :: BW, w.before args s = true) (hrc : rm.cells = mc) (hrs : rm.slots = ms) (hR : rm.frames + 1 ≤ R.frames ∧ 8 + (12 + 11) + rm.locals ≤ R.locals) : CallW R s args "PlanRows" "PlanRows$Windows" 194 y_Win_isReached b_Win_isReached 12 (some .boolean) (Cond.code y_Win_isReached b_Win_isReached 12 (some .boolean) :: BW) rm mc ms 5 := ⟨callB_of 5 hts (gBW w_664) rfl hrc hrs (hts _ (List.mem_cons_of_mem _ w_9)) (hts _ (List.mem_cons_of_mem _ w_661)) (by decide +kernel) hR, hts _ (List.mem_cons_of_mem _ w_662), hts _ (List.mem_cons_of_mem _ w_663)⟩
theorem cw_Plan_198 {R : Room} {s : State} {args : Array Value} {c0 : Cond} {rm : Room} {mc ms : Nat} (hts : ∀ w ∈ c0 :: BW, w.before args s = true) (hrc : rm.cells = mc) (hrs : rm.slots = ms) (hR : rm.frames + 1 ≤ R.frames ∧ 8 + (7 + 11) + rm.locals ≤ R.locals) : CallW R s args "PlanRows" "PlanRows$Windows" 198 y_Win_leastLength b_Win_leastLength 7 (some .int) (Cond.code y_Win_leastLength b_Win_leastLength 7 (some .int) :: BW) rm mc ms 4 := ⟨callB_of 4 hts (gBW w_676) rfl hrc hrs (hts _ (List.mem_cons_of_mem _ w_9)) (hts _ (List.mem_cons_of_mem _ w_673)) (by decide +kernel) hR, hts _ (List.mem_cons_of_mem _ w_674), hts _ (List.mem_cons_of_mem _ w_675)⟩
theorem cw_Plan_211 {R : Room} {s : State} {args : Array Value} {c0 : Cond} {rm : Room} {mc ms : Nat} (hts : ∀ w ∈ c0 :: BW, w.before args s = true) (hrc : rm.cells = mc) (hrs : rm.slots = ms) (hR : rm.frames + 1 ≤ R.frames ∧ 8 + (2 + 11) + rm.locals ≤ R.locals) : CallW R s args "PlanRows" "PlanRows$Rooms" 211 y_Rooms_has b_Rooms_has 2 (some .boolean) (Cond.code y_Rooms_has b_Rooms_has 2 (some .boolean) :: BW) rm mc ms 1 := ⟨callB_of 1 hts (gBW w_362) rfl hrc hrs (hts _ (List.mem_cons_of_mem _ w_2)) (hts _ (List.mem_cons_of_mem _ w_359)) (by decide +kernel) hR, hts _ (List.mem_cons_of_mem _ w_360), hts _ (List.mem_cons_of_mem _ w_361)⟩
theorem cw_Plan_214 {R : Room} {s : State} {args : Array Value} {c0 : Cond} {rm : Room} {mc ms : Nat} (hts : ∀ w ∈ c0 :: BW, w.before args s = true) (hrc : rm.cells = mc) (hrs : rm.slots = ms) (hR : rm.frames + 1 ≤ R.frames ∧ 8 + (2 + 11) + rm.locals ≤ R.locals) : CallW R s args "PlanRows" "PlanRows$Windows" 214 y_Win_has b_Win_has 2 (some .boolean) (Cond.code y_Win_has b_Win_has 2 (some .boolean) :: BW) rm mc ms 1 := ⟨callB_of 1 hts (gBW w_659) rfl hrc hrs (hts _ (List.mem_cons_of_mem _ w_9)) (hts _ (List.mem_cons_of_mem _ w_656)) (by decide +kernel) hR, hts _ (List.mem_cons_of_mem _ w_657), hts _ (List.mem_cons_of_mem _ w_658)⟩
theorem cw_Mod_84 {R : Room} {s : State} {args : Array Value} {c0 : Cond} {rm : Room} {mc ms : Nat} (hts : ∀ w ∈ c0 :: BW, w.before args s = true) (hrc : rm.cells = mc) (hrs : rm.slots = ms) (hR : rm.frames + 1 ≤ R.frames ∧ 8 + (3 + 11) + rm.locals ≤ R.locals) : CallB R s args "PlanRowsModel" 84 y_Mod_in b_Mod_in 3 (some .boolean) (Cond.code y_Mod_in b_Mod_in 3 (some .boolean) :: BW) rm mc ms 3 ∧ (Cond.static y_Mod_in).before args s = true := ⟨callB_of 3 hts (gBW w_813) rfl hrc hrs (hts _ (List.mem_cons_of_mem _ w_10)) (hts _ (List.mem_cons_of_mem _ w_811)) (by decide +kernel) hR, hts _ (List.mem_cons_of_mem _ w_812)⟩
theorem cw_Mod_88 {R : Room} {s : State} {args : Array Value} {c0 : Cond} {rm : Room} {mc ms : Nat} (hts : ∀ w ∈ c0 :: BW, w.before args s = true) (hrc : rm.cells = mc) (hrs : rm.slots = ms) (hR : rm.frames + 1 ≤ R.frames ∧ 8 + (5 + 11) + rm.locals ≤ R.locals) : CallW R s args "PlanRowsModel" "PlanRowsModel" 88 y_Mod_throwing b_Mod_throwing 5 (some .boolean) (Cond.code y_Mod_throwing b_Mod_throwing 5 (some .boolean) :: BW) rm mc ms 4 := ⟨callB_of 4 hts (gBW w_817) rfl hrc hrs (hts _ (List.mem_cons_of_mem _ w_10)) (hts _ (List.mem_cons_of_mem _ w_814)) (by decide +kernel) hR, hts _ (List.mem_cons_of_mem _ w_816), hts _ (List.mem_cons_of_mem _ ws_Mod_throwing)⟩
theorem cw_Mod_92 {R : Room} {s : State} {args : Array Value} {c0 : Cond} {rm : Room} {mc ms : Nat} (hts : ∀ w ∈ c0 :: BW, w.before args s = true) (hrc : rm.cells = mc) (hrs : rm.slots = ms) (hR : rm.frames + 1 ≤ R.frames ∧ 8 + (2 + 11) + rm.locals ≤ R.locals) : CallW R s args "PlanRowsModel" "PlanRowsModel" 92 y_Mod_isRoom b_Mod_isRoom 2 (some .boolean) (Cond.code y_Mod_isRoom b_Mod_isRoom 2 (some .boolean) :: BW) rm mc ms 1 := ⟨callB_of 1 hts (gBW w_825) rfl hrc hrs (hts _ (List.mem_cons_of_mem _ w_10)) (hts _ (List.mem_cons_of_mem _ w_822)) (by decide +kernel) hR, hts _ (List.mem_cons_of_mem _ w_824), hts _ (List.mem_cons_of_mem _ ws_Mod_isRoom)⟩
theorem cw_Mod_100 {R : Room} {s : State} {args : Array Value} {c0 : Cond} {rm : Room} {mc ms : Nat} (hts : ∀ w ∈ c0 :: BW, w.before args s = true) (hrc : rm.cells = mc) (hrs : rm.slots = ms) (hR : rm.frames + 1 ≤ R.frames ∧ 8 + (2 + 11) + rm.locals ≤ R.locals) : CallW R s args "PlanRowsModel" "PlanRowsModel" 100 y_Mod_isPassed b_Mod_isPassed 2 (some .boolean) (Cond.code y_Mod_isPassed b_Mod_isPassed 2 (some .boolean) :: BW) rm mc ms 1 := ⟨callB_of 1 hts (gBW w_846) rfl hrc hrs (hts _ (List.mem_cons_of_mem _ w_10)) (hts _ (List.mem_cons_of_mem _ w_843)) (by decide +kernel) hR, hts _ (List.mem_cons_of_mem _ w_845), hts _ (List.mem_cons_of_mem _ ws_Mod_isPassed)⟩
theorem cw_Mod_103 {R : Room} {s : State} {args : Array Value} {c0 : Cond} {rm : Room} {mc ms : Nat} (hts : ∀ w ∈ c0 :: BW, w.before args s = true) (hrc : rm.cells = mc) (hrs : rm.slots = ms) (hR : rm.frames + 1 ≤ R.frames ∧ 8 + (2 + 11) + rm.locals ≤ R.locals) : CallW R s args "PlanRowsModel" "PlanRowsModel" 103 y_Mod_costOf b_Mod_costOf 2 (some .int) (Cond.code y_Mod_costOf b_Mod_costOf 2 (some .int) :: BW) rm mc ms 1 := ⟨callB_of 1 hts (gBW w_850) rfl hrc hrs (hts _ (List.mem_cons_of_mem _ w_10)) (hts _ (List.mem_cons_of_mem _ w_847)) (by decide +kernel) hR, hts _ (List.mem_cons_of_mem _ w_849), hts _ (List.mem_cons_of_mem _ ws_Mod_costOf)⟩
theorem cw_Mod_107 {R : Room} {s : State} {args : Array Value} {c0 : Cond} {rm : Room} {mc ms : Nat} (hts : ∀ w ∈ c0 :: BW, w.before args s = true) (hrc : rm.cells = mc) (hrs : rm.slots = ms) (hR : rm.frames + 1 ≤ R.frames ∧ 8 + (8 + 11) + rm.locals ≤ R.locals) : CallW R s args "PlanRowsModel" "PlanRowsModel" 107 y_Mod_reckon b_Mod_reckon 8 none (Cond.code y_Mod_reckon b_Mod_reckon 8 none :: BW) rm mc ms 2 := ⟨callB_of 2 hts (gBW w_841) rfl hrc hrs (hts _ (List.mem_cons_of_mem _ w_10)) (hts _ (List.mem_cons_of_mem _ w_838)) (by decide +kernel) hR, hts _ (List.mem_cons_of_mem _ w_840), hts _ (List.mem_cons_of_mem _ ws_Mod_reckon)⟩
theorem cw_Mod_111 {R : Room} {s : State} {args : Array Value} {c0 : Cond} {rm : Room} {mc ms : Nat} (hts : ∀ w ∈ c0 :: BW, w.before args s = true) (hrc : rm.cells = mc) (hrs : rm.slots = ms) (hR : rm.frames + 1 ≤ R.frames ∧ 8 + (4 + 11) + rm.locals ≤ R.locals) : CallW R s args "PlanRowsModel" "PlanRowsModel" 111 y_Mod_nearest b_Mod_nearest 4 (some .int) (Cond.code y_Mod_nearest b_Mod_nearest 4 (some .int) :: BW) rm mc ms 1 := ⟨callB_of 1 hts (gBW w_854) rfl hrc hrs (hts _ (List.mem_cons_of_mem _ w_10)) (hts _ (List.mem_cons_of_mem _ w_851)) (by decide +kernel) hR, hts _ (List.mem_cons_of_mem _ w_853), hts _ (List.mem_cons_of_mem _ ws_Mod_nearest)⟩
theorem cw_Mod_120 {R : Room} {s : State} {args : Array Value} {c0 : Cond} {rm : Room} {mc ms : Nat} (hts : ∀ w ∈ c0 :: BW, w.before args s = true) (hrc : rm.cells = mc) (hrs : rm.slots = ms) (hR : rm.frames + 1 ≤ R.frames ∧ 8 + (4 + 11) + rm.locals ≤ R.locals) : CallW R s args "PlanRowsModel" "PlanRowsModel" 120 y_Mod_into b_Mod_into 4 (some .int) (Cond.code y_Mod_into b_Mod_into 4 (some .int) :: BW) rm mc ms 1 := ⟨callB_of 1 hts (gBW w_858) rfl hrc hrs (hts _ (List.mem_cons_of_mem _ w_10)) (hts _ (List.mem_cons_of_mem _ w_855)) (by decide +kernel) hR, hts _ (List.mem_cons_of_mem _ w_857), hts _ (List.mem_cons_of_mem _ ws_Mod_into)⟩
theorem cw_Mod_126 {R : Room} {s : State} {args : Array Value} {c0 : Cond} {rm : Room} {mc ms : Nat} (hts : ∀ w ∈ c0 :: BW, w.before args s = true) (hrc : rm.cells = mc) (hrs : rm.slots = ms) (hR : rm.frames + 1 ≤ R.frames ∧ 8 + (2 + 11) + rm.locals ≤ R.locals) : CallB R s args "PlanRowsModel" 126 y_Mod_isDetector b_Mod_isDetector 2 (some .boolean) (Cond.code y_Mod_isDetector b_Mod_isDetector 2 (some .boolean) :: BW) rm mc ms 2 ∧ (Cond.static y_Mod_isDetector).before args s = true := ⟨callB_of 2 hts (gBW w_885) rfl hrc hrs (hts _ (List.mem_cons_of_mem _ w_10)) (hts _ (List.mem_cons_of_mem _ w_883)) (by decide +kernel) hR, hts _ (List.mem_cons_of_mem _ w_884)⟩
theorem cw_Mod_130 {R : Room} {s : State} {args : Array Value} {c0 : Cond} {rm : Room} {mc ms : Nat} (hts : ∀ w ∈ c0 :: BW, w.before args s = true) (hrc : rm.cells = mc) (hrs : rm.slots = ms) (hR : rm.frames + 1 ≤ R.frames ∧ 8 + (5 + 11) + rm.locals ≤ R.locals) : CallW R s args "PlanRowsModel" "PlanRowsModel" 130 y_Mod_detectorOf b_Mod_detectorOf 5 (some .int) (Cond.code y_Mod_detectorOf b_Mod_detectorOf 5 (some .int) :: BW) rm mc ms 2 := ⟨callB_of 2 hts (gBW w_889) rfl hrc hrs (hts _ (List.mem_cons_of_mem _ w_10)) (hts _ (List.mem_cons_of_mem _ w_886)) (by decide +kernel) hR, hts _ (List.mem_cons_of_mem _ w_888), hts _ (List.mem_cons_of_mem _ ws_Mod_detectorOf)⟩
theorem cw_Mod_134 {R : Room} {s : State} {args : Array Value} {c0 : Cond} {rm : Room} {mc ms : Nat} (hts : ∀ w ∈ c0 :: BW, w.before args s = true) (hrc : rm.cells = mc) (hrs : rm.slots = ms) (hR : rm.frames + 1 ≤ R.frames ∧ 8 + (1 + 11) + rm.locals ≤ R.locals) : CallB R s args "PlanRowsModel" 134 y_Mod_isHour b_Mod_isHour 1 (some .boolean) (Cond.code y_Mod_isHour b_Mod_isHour 1 (some .boolean) :: BW) rm mc ms 1 ∧ (Cond.static y_Mod_isHour).before args s = true := ⟨callB_of 1 hts (gBW w_900) rfl hrc hrs (hts _ (List.mem_cons_of_mem _ w_10)) (hts _ (List.mem_cons_of_mem _ w_898)) (by decide +kernel) hR, hts _ (List.mem_cons_of_mem _ w_899)⟩
theorem cw_Mod_142 {R : Room} {s : State} {args : Array Value} {c0 : Cond} {rm : Room} {mc ms : Nat} (hts : ∀ w ∈ c0 :: BW, w.before args s = true) (hrc : rm.cells = mc) (hrs : rm.slots = ms) (hR : rm.frames + 1 ≤ R.frames ∧ 8 + (3 + 11) + rm.locals ≤ R.locals) : CallB R s args "PlanRowsModel" 142 y_Mod_isPoint b_Mod_isPoint 3 (some .boolean) (Cond.code y_Mod_isPoint b_Mod_isPoint 3 (some .boolean) :: BW) rm mc ms 3 ∧ (Cond.static y_Mod_isPoint).before args s = true := ⟨callB_of 3 hts (gBW w_911) rfl hrc hrs (hts _ (List.mem_cons_of_mem _ w_10)) (hts _ (List.mem_cons_of_mem _ w_909)) (by decide +kernel) hR, hts _ (List.mem_cons_of_mem _ w_910)⟩
theorem cw_Mod_148 {R : Room} {s : State} {args : Array Value} {c0 : Cond} {rm : Room} {mc ms : Nat} (hts : ∀ w ∈ c0 :: BW, w.before args s = true) (hrc : rm.cells = mc) (hrs : rm.slots = ms) (hR : rm.frames + 1 ≤ R.frames ∧ 8 + (11 + 11) + rm.locals ≤ R.locals) : CallW R s args "PlanRowsModel" "PlanRowsModel" 148 y_Mod_squareTo b_Mod_squareTo 11 (some .long) (Cond.code y_Mod_squareTo b_Mod_squareTo 11 (some .long) :: BW) rm mc ms 4 := ⟨callB_of 4 hts (gBW w_921) rfl hrc hrs (hts _ (List.mem_cons_of_mem _ w_10)) (hts _ (List.mem_cons_of_mem _ w_918)) (by decide +kernel) hR, hts _ (List.mem_cons_of_mem _ w_920), hts _ (List.mem_cons_of_mem _ ws_Mod_squareTo)⟩
end
section
/-- the sizes are within their rows -/
def CIn (x : ST) : Prop := (0 ≤ (q_rn x).toInt ∧ (q_rn x).toInt ≤ 40) ∧ (0 ≤ (q_dn x).toInt ∧ (q_dn x).toInt ≤ 80) ∧ (0 ≤ (q_tc x).toInt ∧ (q_tc x).toInt ≤ 100) ∧ (0 ≤ (q_pc x).toInt ∧ (q_pc x).toInt ≤ 60) ∧ (0 ≤ (q_wc x).toInt ∧ (q_wc x).toInt ≤ 30) ∧ (0 ≤ (q_rl x).toInt ∧ (q_rl x).toInt ≤ 40)
theorem ix_lt {a n : Int32} {N : Nat} (h0 : ¬ a < 0) (h1 : ¬ n ≤ a) (hn : n.toInt ≤ N) : vp_in a N := vp_in_iff.mpr (by
  rw [Int32.lt_iff_toInt_lt] at h0
  rw [Int32.le_iff_toInt_le] at h1
  have h2 : (0 : Int32).toInt = 0 := rfl
  omega)
def f_Rooms_has (x : ST) (a1 : Int32) : Int32 := if a1 < 0 then 0 else (if (q_rn x) ≤ a1 then 0 else 1)
set_option maxHeartbeats 4000000 in
set_option maxRecDepth 100000 in
theorem c_Rooms_has (l : Launch) (dC : Nat → ClassId) (dI : Nat → Nat → Nat) (cI cZ : ClassId) (ad : Nat → Nat) (x : ST) (hI : CIn x) (a1 : Int32) : MX l y_Rooms_has (Cond.code y_Rooms_has b_Rooms_has 2 (some .boolean) :: BW) { frames := 0, cells := 0, slots := 0, locals := 0 } (PC (dC, dI) [(cI, .int), (cZ, .boolean)] (wC cI cZ ad x) [.ref (ad 1), .int a1]) (PQ (some (.int (f_Rooms_has x a1)))) 0 0 (fun _ => False) := by
  refine MX.ofW (cc := b_Rooms_has) (maxL := 2) (ret := (some .boolean)) (by decide) rfl ?_
  intro p e s m args below meth c s₁ B hml hex hv
  obtain ⟨rfl, hP, hK, hN⟩ := hv
  have hx := B.exec
  have hb := B.bytes
  have hr := B.returns
  have hts := atoms_spec (ws := Cond.code y_Rooms_has b_Rooms_has 2 (some .boolean) :: BW) B.pre
  have hbw : ∀ w ∈ BW, w.before ([.ref (ad 1), .int a1]).toArray s = true := fun w h => hts w (List.mem_cons_of_mem _ h)
  have hown : s.vm.findClass "PlanRows$Rooms" = some m.cls := findClass_of_methodNamed B.named
  have hlocks := B.notSynchronized
  have hl := lv_entry ([.ref (ad 1), .int a1]) (n := 2) (Nat.le_of_ble_eq_true rfl)
  rw [lg_entry_eq]
  generalize (lg_sl ([.ref (ad 1), .int a1]) ++ List.replicate (2 - (lg_sl ([.ref (ad 1), .int a1])).length) Slot.unset).toArray = ls at hl ⊢
  have hl : lv_has ls 2 [(0, .ref (ad 1)), (1, .int a1)] := hl
  refine lv_iload_n hx hb d_Rooms_has_0 rfl (lv_at hl 1 rfl) ?_
  refine lv_if_lt (tgt := 16) hx hb d_Rooms_has_1 (by decide) (fun c_1 => ?_) (fun c_1 => ?_)
  · refine lv_iconst (v := 0) hx hb d_Rooms_has_16 (by decide) ?_
    exact W.toX (W.zret (v := 0) (ty := .boolean) hx hb hr (by rfl) (fun t ht hW => ⟨by rw [show f_Rooms_has x a1 = 0 from by unfold f_Rooms_has; rw [if_pos c_1]], ht⟩) (fun q hq => by cases hq) d_Rooms_has_17)
  · refine lv_iload_n hx hb d_Rooms_has_4 rfl (lv_at hl 1 rfl) ?_
    refine lv_aload_n hx hb d_Rooms_has_5 rfl (lv_at hl 0 rfl) ?_
    refine va_get (D := (dC, dI)) (ci := 4) (v := .int (q_rn x)) (C := R_Rooms) (T := F_Rooms) (N := 4) hx hb hbw in_Rooms hown hK hP 1 rfl rfl 3 (by decide) (hbw _ w_37) (fun _ h9 => h9) rfl d_Rooms_has_6 ?_
    refine lv_icmp_ge (tgt := 16) hx hb d_Rooms_has_9 (by decide) (fun c_2 => ?_) (fun c_2 => ?_)
    · refine lv_iconst (v := 0) hx hb d_Rooms_has_16 (by decide) ?_
      exact W.toX (W.zret (v := 0) (ty := .boolean) hx hb hr (by rfl) (fun t ht hW => ⟨by rw [show f_Rooms_has x a1 = 0 from by unfold f_Rooms_has; rw [if_neg c_1, if_pos c_2]], ht⟩) (fun q hq => by cases hq) d_Rooms_has_17)
    · refine lv_iconst (v := 1) hx hb d_Rooms_has_12 (by decide) ?_
      refine lv_goto (tgt := 17) hx hb d_Rooms_has_13 (by decide) ?_
      exact W.toX (W.zret (v := 1) (ty := .boolean) hx hb hr (by rfl) (fun t ht hW => ⟨by rw [show f_Rooms_has x a1 = 1 from by unfold f_Rooms_has; rw [if_neg c_1, if_neg c_2]], ht⟩) (fun q hq => by cases hq) d_Rooms_has_17)
theorem ix_rooms {x : ST} {a : Int32} (hI : CIn x) (h : ¬ f_Rooms_has x a = 0) : vp_in a 40 := by
  unfold f_Rooms_has at h
  by_cases h0 : a < 0
  · exact absurd (if_pos h0) h
  · rw [if_neg h0] at h
    by_cases h1 : q_rn x ≤ a
    · exact absurd (if_pos h1) h
    · exact ix_lt h0 h1 hI.1.2
def f_Rooms_floorOf (x : ST) (a1 : Int32) : Int32 := if (f_Rooms_has x a1) = 0 then (-1) else (q_fl x) a1.toNatClampNeg
set_option maxHeartbeats 4000000 in
set_option maxRecDepth 100000 in
theorem c_Rooms_floorOf (l : Launch) (dC : Nat → ClassId) (dI : Nat → Nat → Nat) (cI cZ : ClassId) (ad : Nat → Nat) (x : ST) (hI : CIn x) (a1 : Int32) : MX l y_Rooms_floorOf (Cond.code y_Rooms_floorOf b_Rooms_floorOf 2 (some .int) :: BW) { frames := 1, cells := 0, slots := 0, locals := 21 } (PC (dC, dI) [(cI, .int), (cZ, .boolean)] (wC cI cZ ad x) [.ref (ad 1), .int a1]) (PQ (some (.int (f_Rooms_floorOf x a1)))) 0 0 (fun _ => False) := by
  refine MX.ofW (cc := b_Rooms_floorOf) (maxL := 2) (ret := (some .int)) (by decide) rfl ?_
  intro p e s m args below meth c s₁ B hml hex hv
  obtain ⟨rfl, hP, hK, hN⟩ := hv
  have hx := B.exec
  have hb := B.bytes
  have hr := B.returns
  have hts := atoms_spec (ws := Cond.code y_Rooms_floorOf b_Rooms_floorOf 2 (some .int) :: BW) B.pre
  have hbw : ∀ w ∈ BW, w.before ([.ref (ad 1), .int a1]).toArray s = true := fun w h => hts w (List.mem_cons_of_mem _ h)
  have hown : s.vm.findClass "PlanRows$Rooms" = some m.cls := findClass_of_methodNamed B.named
  have hlocks := B.notSynchronized
  have hl := lv_entry ([.ref (ad 1), .int a1]) (n := 2) (Nat.le_of_ble_eq_true rfl)
  rw [lg_entry_eq]
  generalize (lg_sl ([.ref (ad 1), .int a1]) ++ List.replicate (2 - (lg_sl ([.ref (ad 1), .int a1])).length) Slot.unset).toArray = ls at hl ⊢
  have hl : lv_has ls 2 [(0, .ref (ad 1)), (1, .int a1)] := hl
  refine lv_aload_n hx hb d_Rooms_floorOf_0 rfl (lv_at hl 0 rfl) ?_
  refine lv_iload_n hx hb d_Rooms_floorOf_1 rfl (lv_at hl 1 rfl) ?_
  refine xv (As := [.int a1]) (rest := []) (C := "PlanRows$Rooms") ⟨hx, hb, hml, hown, hts⟩ (c_Rooms_has l dC dI cI cZ ad x hI a1) (cw_Rooms_25 hts rfl rfl ⟨Nat.le_of_ble_eq_true rfl, Nat.le_of_ble_eq_true rfl⟩) hK hN hP 1 rfl rfl rfl rfl hl.1 rfl (Nat.le_of_ble_eq_true rfl) d_Rooms_floorOf_2 ⟨Nat.zero_le _, Nat.zero_le _⟩ ?_
  refine lv_if_eq (tgt := 17) hx hb d_Rooms_floorOf_5 (by decide) (fun c_1 => ?_) (fun c_1 => ?_)
  · refine lv_iconst (v := (-1)) hx hb d_Rooms_floorOf_17 (by decide) ?_
    exact W.toX (W.iret (v := (-1)) hx hb hr (fun t ht hW => ⟨by rw [show f_Rooms_floorOf x a1 = (-1) from by unfold f_Rooms_floorOf; rw [if_pos c_1]], ht⟩) (fun q hq => by cases hq) d_Rooms_floorOf_18)
  · refine lv_aload_n hx hb d_Rooms_floorOf_8 rfl (lv_at hl 0 rfl) ?_
    refine va_get (D := (dC, dI)) (ci := 4) (v := .ref (ad 9)) (C := R_Rooms) (T := F_Rooms) (N := 4) hx hb hbw in_Rooms hown hK hP 1 rfl rfl 0 (by decide) (hbw _ w_34) (fun _ h9 => h9) rfl d_Rooms_floorOf_9 ?_
    refine lv_iload_n hx hb d_Rooms_floorOf_12 rfl (lv_at hl 1 rfl) ?_
    refine va_iald hx hb hK hP 9 0 rfl rfl (ix_rooms hI c_1) d_Rooms_floorOf_13 ?_
    refine lv_goto (tgt := 18) hx hb d_Rooms_floorOf_14 (by decide) ?_
    exact W.toX (W.iret (v := (q_fl x) a1.toNatClampNeg) hx hb hr (fun t ht hW => ⟨by rw [show f_Rooms_floorOf x a1 = (q_fl x) a1.toNatClampNeg from by unfold f_Rooms_floorOf; rw [if_neg c_1]], ht⟩) (fun q hq => by cases hq) d_Rooms_floorOf_18)
def f_Rooms_isOfKind (x : ST) (a1 a2 : Int32) : Int32 := if (f_Rooms_has x a1) = 0 then 0 else (if ((q_kd x) a1.toNatClampNeg) = a2 then 1 else 0)
set_option maxHeartbeats 4000000 in
set_option maxRecDepth 100000 in
theorem c_Rooms_isOfKind (l : Launch) (dC : Nat → ClassId) (dI : Nat → Nat → Nat) (cI cZ : ClassId) (ad : Nat → Nat) (x : ST) (hI : CIn x) (a1 a2 : Int32) : MX l y_Rooms_isOfKind (Cond.code y_Rooms_isOfKind b_Rooms_isOfKind 3 (some .boolean) :: BW) { frames := 1, cells := 0, slots := 0, locals := 21 } (PC (dC, dI) [(cI, .int), (cZ, .boolean)] (wC cI cZ ad x) [.ref (ad 1), .int a1, .int a2]) (PQ (some (.int (f_Rooms_isOfKind x a1 a2)))) 0 0 (fun _ => False) := by
  refine MX.ofW (cc := b_Rooms_isOfKind) (maxL := 3) (ret := (some .boolean)) (by decide) rfl ?_
  intro p e s m args below meth c s₁ B hml hex hv
  obtain ⟨rfl, hP, hK, hN⟩ := hv
  have hx := B.exec
  have hb := B.bytes
  have hr := B.returns
  have hts := atoms_spec (ws := Cond.code y_Rooms_isOfKind b_Rooms_isOfKind 3 (some .boolean) :: BW) B.pre
  have hbw : ∀ w ∈ BW, w.before ([.ref (ad 1), .int a1, .int a2]).toArray s = true := fun w h => hts w (List.mem_cons_of_mem _ h)
  have hown : s.vm.findClass "PlanRows$Rooms" = some m.cls := findClass_of_methodNamed B.named
  have hlocks := B.notSynchronized
  have hl := lv_entry ([.ref (ad 1), .int a1, .int a2]) (n := 3) (Nat.le_of_ble_eq_true rfl)
  rw [lg_entry_eq]
  generalize (lg_sl ([.ref (ad 1), .int a1, .int a2]) ++ List.replicate (3 - (lg_sl ([.ref (ad 1), .int a1, .int a2])).length) Slot.unset).toArray = ls at hl ⊢
  have hl : lv_has ls 3 [(0, .ref (ad 1)), (1, .int a1), (2, .int a2)] := hl
  refine lv_aload_n hx hb d_Rooms_isOfKind_0 rfl (lv_at hl 0 rfl) ?_
  refine lv_iload_n hx hb d_Rooms_isOfKind_1 rfl (lv_at hl 1 rfl) ?_
  refine xv (As := [.int a1]) (rest := []) (C := "PlanRows$Rooms") ⟨hx, hb, hml, hown, hts⟩ (c_Rooms_has l dC dI cI cZ ad x hI a1) (cw_Rooms_25 hts rfl rfl ⟨Nat.le_of_ble_eq_true rfl, Nat.le_of_ble_eq_true rfl⟩) hK hN hP 1 rfl rfl rfl rfl hl.1 rfl (Nat.le_of_ble_eq_true rfl) d_Rooms_isOfKind_2 ⟨Nat.zero_le _, Nat.zero_le _⟩ ?_
  refine lv_if_eq (tgt := 22) hx hb d_Rooms_isOfKind_5 (by decide) (fun c_1 => ?_) (fun c_1 => ?_)
  · refine lv_iconst (v := 0) hx hb d_Rooms_isOfKind_22 (by decide) ?_
    exact W.toX (W.zret (v := 0) (ty := .boolean) hx hb hr (by rfl) (fun t ht hW => ⟨by rw [show f_Rooms_isOfKind x a1 a2 = 0 from by unfold f_Rooms_isOfKind; rw [if_pos c_1]], ht⟩) (fun q hq => by cases hq) d_Rooms_isOfKind_23)
  · refine lv_aload_n hx hb d_Rooms_isOfKind_8 rfl (lv_at hl 0 rfl) ?_
    refine va_get (D := (dC, dI)) (ci := 4) (v := .ref (ad 10)) (C := R_Rooms) (T := F_Rooms) (N := 4) hx hb hbw in_Rooms hown hK hP 1 rfl rfl 1 (by decide) (hbw _ w_35) (fun _ h9 => h9) rfl d_Rooms_isOfKind_9 ?_
    refine lv_iload_n hx hb d_Rooms_isOfKind_12 rfl (lv_at hl 1 rfl) ?_
    refine va_iald hx hb hK hP 10 0 rfl rfl (ix_rooms hI c_1) d_Rooms_isOfKind_13 ?_
    refine lv_iload_n hx hb d_Rooms_isOfKind_14 rfl (lv_at hl 2 rfl) ?_
    refine lv_icmp_ne (tgt := 22) hx hb d_Rooms_isOfKind_15 (by decide) (fun c_2 => ?_) (fun c_2 => ?_)
    · refine lv_iconst (v := 0) hx hb d_Rooms_isOfKind_22 (by decide) ?_
      exact W.toX (W.zret (v := 0) (ty := .boolean) hx hb hr (by rfl) (fun t ht hW => ⟨by rw [show f_Rooms_isOfKind x a1 a2 = 0 from by unfold f_Rooms_isOfKind; rw [if_neg c_1, if_neg c_2]], ht⟩) (fun q hq => by cases hq) d_Rooms_isOfKind_23)
    · refine lv_iconst (v := 1) hx hb d_Rooms_isOfKind_18 (by decide) ?_
      refine lv_goto (tgt := 23) hx hb d_Rooms_isOfKind_19 (by decide) ?_
      exact W.toX (W.zret (v := 1) (ty := .boolean) hx hb hr (by rfl) (fun t ht hW => ⟨by rw [show f_Rooms_isOfKind x a1 a2 = 1 from by unfold f_Rooms_isOfKind; rw [if_neg c_1, if_pos c_2]], ht⟩) (fun q hq => by cases hq) d_Rooms_isOfKind_23)
def f_Rooms_hasHazardOf (x : ST) (a1 a2 : Int32) : Int32 := if (f_Rooms_has x a1) = 0 then 0 else (if (((q_hz x) a1.toNatClampNeg) &&& a2) = 0 then 0 else 1)
set_option maxHeartbeats 4000000 in
set_option maxRecDepth 100000 in
theorem c_Rooms_hasHazardOf (l : Launch) (dC : Nat → ClassId) (dI : Nat → Nat → Nat) (cI cZ : ClassId) (ad : Nat → Nat) (x : ST) (hI : CIn x) (a1 a2 : Int32) : MX l y_Rooms_hasHazardOf (Cond.code y_Rooms_hasHazardOf b_Rooms_hasHazardOf 3 (some .boolean) :: BW) { frames := 1, cells := 0, slots := 0, locals := 21 } (PC (dC, dI) [(cI, .int), (cZ, .boolean)] (wC cI cZ ad x) [.ref (ad 1), .int a1, .int a2]) (PQ (some (.int (f_Rooms_hasHazardOf x a1 a2)))) 0 0 (fun _ => False) := by
  refine MX.ofW (cc := b_Rooms_hasHazardOf) (maxL := 3) (ret := (some .boolean)) (by decide) rfl ?_
  intro p e s m args below meth c s₁ B hml hex hv
  obtain ⟨rfl, hP, hK, hN⟩ := hv
  have hx := B.exec
  have hb := B.bytes
  have hr := B.returns
  have hts := atoms_spec (ws := Cond.code y_Rooms_hasHazardOf b_Rooms_hasHazardOf 3 (some .boolean) :: BW) B.pre
  have hbw : ∀ w ∈ BW, w.before ([.ref (ad 1), .int a1, .int a2]).toArray s = true := fun w h => hts w (List.mem_cons_of_mem _ h)
  have hown : s.vm.findClass "PlanRows$Rooms" = some m.cls := findClass_of_methodNamed B.named
  have hlocks := B.notSynchronized
  have hl := lv_entry ([.ref (ad 1), .int a1, .int a2]) (n := 3) (Nat.le_of_ble_eq_true rfl)
  rw [lg_entry_eq]
  generalize (lg_sl ([.ref (ad 1), .int a1, .int a2]) ++ List.replicate (3 - (lg_sl ([.ref (ad 1), .int a1, .int a2])).length) Slot.unset).toArray = ls at hl ⊢
  have hl : lv_has ls 3 [(0, .ref (ad 1)), (1, .int a1), (2, .int a2)] := hl
  refine lv_aload_n hx hb d_Rooms_hasHazardOf_0 rfl (lv_at hl 0 rfl) ?_
  refine lv_iload_n hx hb d_Rooms_hasHazardOf_1 rfl (lv_at hl 1 rfl) ?_
  refine xv (As := [.int a1]) (rest := []) (C := "PlanRows$Rooms") ⟨hx, hb, hml, hown, hts⟩ (c_Rooms_has l dC dI cI cZ ad x hI a1) (cw_Rooms_25 hts rfl rfl ⟨Nat.le_of_ble_eq_true rfl, Nat.le_of_ble_eq_true rfl⟩) hK hN hP 1 rfl rfl rfl rfl hl.1 rfl (Nat.le_of_ble_eq_true rfl) d_Rooms_hasHazardOf_2 ⟨Nat.zero_le _, Nat.zero_le _⟩ ?_
  refine lv_if_eq (tgt := 23) hx hb d_Rooms_hasHazardOf_5 (by decide) (fun c_1 => ?_) (fun c_1 => ?_)
  · refine lv_iconst (v := 0) hx hb d_Rooms_hasHazardOf_23 (by decide) ?_
    exact W.toX (W.zret (v := 0) (ty := .boolean) hx hb hr (by rfl) (fun t ht hW => ⟨by rw [show f_Rooms_hasHazardOf x a1 a2 = 0 from by unfold f_Rooms_hasHazardOf; rw [if_pos c_1]], ht⟩) (fun q hq => by cases hq) d_Rooms_hasHazardOf_24)
  · refine lv_aload_n hx hb d_Rooms_hasHazardOf_8 rfl (lv_at hl 0 rfl) ?_
    refine va_get (D := (dC, dI)) (ci := 4) (v := .ref (ad 11)) (C := R_Rooms) (T := F_Rooms) (N := 4) hx hb hbw in_Rooms hown hK hP 1 rfl rfl 2 (by decide) (hbw _ w_36) (fun _ h9 => h9) rfl d_Rooms_hasHazardOf_9 ?_
    refine lv_iload_n hx hb d_Rooms_hasHazardOf_12 rfl (lv_at hl 1 rfl) ?_
    refine va_iald hx hb hK hP 11 0 rfl rfl (ix_rooms hI c_1) d_Rooms_hasHazardOf_13 ?_
    refine lv_iload_n hx hb d_Rooms_hasHazardOf_14 rfl (lv_at hl 2 rfl) ?_
    refine lv_iand hx hb d_Rooms_hasHazardOf_15 ?_
    refine lv_if_eq (tgt := 23) hx hb d_Rooms_hasHazardOf_16 (by decide) (fun c_2 => ?_) (fun c_2 => ?_)
    · refine lv_iconst (v := 0) hx hb d_Rooms_hasHazardOf_23 (by decide) ?_
      exact W.toX (W.zret (v := 0) (ty := .boolean) hx hb hr (by rfl) (fun t ht hW => ⟨by rw [show f_Rooms_hasHazardOf x a1 a2 = 0 from by unfold f_Rooms_hasHazardOf; rw [if_neg c_1, if_pos c_2]], ht⟩) (fun q hq => by cases hq) d_Rooms_hasHazardOf_24)
    · refine lv_iconst (v := 1) hx hb d_Rooms_hasHazardOf_19 (by decide) ?_
      refine lv_goto (tgt := 24) hx hb d_Rooms_hasHazardOf_20 (by decide) ?_
      exact W.toX (W.zret (v := 1) (ty := .boolean) hx hb hr (by rfl) (fun t ht hW => ⟨by rw [show f_Rooms_hasHazardOf x a1 a2 = 1 from by unfold f_Rooms_hasHazardOf; rw [if_neg c_1, if_neg c_2]], ht⟩) (fun q hq => by cases hq) d_Rooms_hasHazardOf_24)
def f_Doors_has (x : ST) (a1 : Int32) : Int32 := if a1 < 0 then 0 else (if (q_dn x) ≤ a1 then 0 else 1)
set_option maxHeartbeats 4000000 in
set_option maxRecDepth 100000 in
theorem c_Doors_has (l : Launch) (dC : Nat → ClassId) (dI : Nat → Nat → Nat) (cI cZ : ClassId) (ad : Nat → Nat) (x : ST) (hI : CIn x) (a1 : Int32) : MX l y_Doors_has (Cond.code y_Doors_has b_Doors_has 2 (some .boolean) :: BW) { frames := 0, cells := 0, slots := 0, locals := 0 } (PC (dC, dI) [(cI, .int), (cZ, .boolean)] (wC cI cZ ad x) [.ref (ad 2), .int a1]) (PQ (some (.int (f_Doors_has x a1)))) 0 0 (fun _ => False) := by
  refine MX.ofW (cc := b_Doors_has) (maxL := 2) (ret := (some .boolean)) (by decide) rfl ?_
  intro p e s m args below meth c s₁ B hml hex hv
  obtain ⟨rfl, hP, hK, hN⟩ := hv
  have hx := B.exec
  have hb := B.bytes
  have hr := B.returns
  have hts := atoms_spec (ws := Cond.code y_Doors_has b_Doors_has 2 (some .boolean) :: BW) B.pre
  have hbw : ∀ w ∈ BW, w.before ([.ref (ad 2), .int a1]).toArray s = true := fun w h => hts w (List.mem_cons_of_mem _ h)
  have hown : s.vm.findClass "PlanRows$Doors" = some m.cls := findClass_of_methodNamed B.named
  have hlocks := B.notSynchronized
  have hl := lv_entry ([.ref (ad 2), .int a1]) (n := 2) (Nat.le_of_ble_eq_true rfl)
  rw [lg_entry_eq]
  generalize (lg_sl ([.ref (ad 2), .int a1]) ++ List.replicate (2 - (lg_sl ([.ref (ad 2), .int a1])).length) Slot.unset).toArray = ls at hl ⊢
  have hl : lv_has ls 2 [(0, .ref (ad 2)), (1, .int a1)] := hl
  refine lv_iload_n hx hb d_Doors_has_0 rfl (lv_at hl 1 rfl) ?_
  refine lv_if_lt (tgt := 16) hx hb d_Doors_has_1 (by decide) (fun c_1 => ?_) (fun c_1 => ?_)
  · refine lv_iconst (v := 0) hx hb d_Doors_has_16 (by decide) ?_
    exact W.toX (W.zret (v := 0) (ty := .boolean) hx hb hr (by rfl) (fun t ht hW => ⟨by rw [show f_Doors_has x a1 = 0 from by unfold f_Doors_has; rw [if_pos c_1]], ht⟩) (fun q hq => by cases hq) d_Doors_has_17)
  · refine lv_iload_n hx hb d_Doors_has_4 rfl (lv_at hl 1 rfl) ?_
    refine lv_aload_n hx hb d_Doors_has_5 rfl (lv_at hl 0 rfl) ?_
    refine va_get (D := (dC, dI)) (ci := 2) (v := .int (q_dn x)) (C := R_Doors) (T := F_Doors) (N := 5) hx hb hbw in_Doors hown hK hP 2 rfl rfl 4 (by decide) (hbw _ w_60) (fun _ h9 => h9) rfl d_Doors_has_6 ?_
    refine lv_icmp_ge (tgt := 16) hx hb d_Doors_has_9 (by decide) (fun c_2 => ?_) (fun c_2 => ?_)
    · refine lv_iconst (v := 0) hx hb d_Doors_has_16 (by decide) ?_
      exact W.toX (W.zret (v := 0) (ty := .boolean) hx hb hr (by rfl) (fun t ht hW => ⟨by rw [show f_Doors_has x a1 = 0 from by unfold f_Doors_has; rw [if_neg c_1, if_pos c_2]], ht⟩) (fun q hq => by cases hq) d_Doors_has_17)
    · refine lv_iconst (v := 1) hx hb d_Doors_has_12 (by decide) ?_
      refine lv_goto (tgt := 17) hx hb d_Doors_has_13 (by decide) ?_
      exact W.toX (W.zret (v := 1) (ty := .boolean) hx hb hr (by rfl) (fun t ht hW => ⟨by rw [show f_Doors_has x a1 = 1 from by unfold f_Doors_has; rw [if_neg c_1, if_neg c_2]], ht⟩) (fun q hq => by cases hq) d_Doors_has_17)
theorem ix_doors {x : ST} {a : Int32} (hI : CIn x) (h : ¬ f_Doors_has x a = 0) : vp_in a 80 := by
  unfold f_Doors_has at h
  by_cases h0 : a < 0
  · exact absurd (if_pos h0) h
  · rw [if_neg h0] at h
    by_cases h1 : q_dn x ≤ a
    · exact absurd (if_pos h1) h
    · exact ix_lt h0 h1 hI.2.1.2
def f_Doors_firstRoomOf (x : ST) (a1 : Int32) : Int32 := if (f_Doors_has x a1) = 0 then (-1) else (q_da x) a1.toNatClampNeg
set_option maxHeartbeats 4000000 in
set_option maxRecDepth 100000 in
theorem c_Doors_firstRoomOf (l : Launch) (dC : Nat → ClassId) (dI : Nat → Nat → Nat) (cI cZ : ClassId) (ad : Nat → Nat) (x : ST) (hI : CIn x) (a1 : Int32) : MX l y_Doors_firstRoomOf (Cond.code y_Doors_firstRoomOf b_Doors_firstRoomOf 2 (some .int) :: BW) { frames := 1, cells := 0, slots := 0, locals := 21 } (PC (dC, dI) [(cI, .int), (cZ, .boolean)] (wC cI cZ ad x) [.ref (ad 2), .int a1]) (PQ (some (.int (f_Doors_firstRoomOf x a1)))) 0 0 (fun _ => False) := by
  refine MX.ofW (cc := b_Doors_firstRoomOf) (maxL := 2) (ret := (some .int)) (by decide) rfl ?_
  intro p e s m args below meth c s₁ B hml hex hv
  obtain ⟨rfl, hP, hK, hN⟩ := hv
  have hx := B.exec
  have hb := B.bytes
  have hr := B.returns
  have hts := atoms_spec (ws := Cond.code y_Doors_firstRoomOf b_Doors_firstRoomOf 2 (some .int) :: BW) B.pre
  have hbw : ∀ w ∈ BW, w.before ([.ref (ad 2), .int a1]).toArray s = true := fun w h => hts w (List.mem_cons_of_mem _ h)
  have hown : s.vm.findClass "PlanRows$Doors" = some m.cls := findClass_of_methodNamed B.named
  have hlocks := B.notSynchronized
  have hl := lv_entry ([.ref (ad 2), .int a1]) (n := 2) (Nat.le_of_ble_eq_true rfl)
  rw [lg_entry_eq]
  generalize (lg_sl ([.ref (ad 2), .int a1]) ++ List.replicate (2 - (lg_sl ([.ref (ad 2), .int a1])).length) Slot.unset).toArray = ls at hl ⊢
  have hl : lv_has ls 2 [(0, .ref (ad 2)), (1, .int a1)] := hl
  refine lv_aload_n hx hb d_Doors_firstRoomOf_0 rfl (lv_at hl 0 rfl) ?_
  refine lv_iload_n hx hb d_Doors_firstRoomOf_1 rfl (lv_at hl 1 rfl) ?_
  refine xv (As := [.int a1]) (rest := []) (C := "PlanRows$Doors") ⟨hx, hb, hml, hown, hts⟩ (c_Doors_has l dC dI cI cZ ad x hI a1) (cw_Doors_28 hts rfl rfl ⟨Nat.le_of_ble_eq_true rfl, Nat.le_of_ble_eq_true rfl⟩) hK hN hP 2 rfl rfl rfl rfl hl.1 rfl (Nat.le_of_ble_eq_true rfl) d_Doors_firstRoomOf_2 ⟨Nat.zero_le _, Nat.zero_le _⟩ ?_
  refine lv_if_eq (tgt := 17) hx hb d_Doors_firstRoomOf_5 (by decide) (fun c_1 => ?_) (fun c_1 => ?_)
  · refine lv_iconst (v := (-1)) hx hb d_Doors_firstRoomOf_17 (by decide) ?_
    exact W.toX (W.iret (v := (-1)) hx hb hr (fun t ht hW => ⟨by rw [show f_Doors_firstRoomOf x a1 = (-1) from by unfold f_Doors_firstRoomOf; rw [if_pos c_1]], ht⟩) (fun q hq => by cases hq) d_Doors_firstRoomOf_18)
  · refine lv_aload_n hx hb d_Doors_firstRoomOf_8 rfl (lv_at hl 0 rfl) ?_
    refine va_get (D := (dC, dI)) (ci := 2) (v := .ref (ad 12)) (C := R_Doors) (T := F_Doors) (N := 5) hx hb hbw in_Doors hown hK hP 2 rfl rfl 0 (by decide) (hbw _ w_56) (fun _ h9 => h9) rfl d_Doors_firstRoomOf_9 ?_
    refine lv_iload_n hx hb d_Doors_firstRoomOf_12 rfl (lv_at hl 1 rfl) ?_
    refine va_iald hx hb hK hP 12 0 rfl rfl (ix_doors hI c_1) d_Doors_firstRoomOf_13 ?_
    refine lv_goto (tgt := 18) hx hb d_Doors_firstRoomOf_14 (by decide) ?_
    exact W.toX (W.iret (v := (q_da x) a1.toNatClampNeg) hx hb hr (fun t ht hW => ⟨by rw [show f_Doors_firstRoomOf x a1 = (q_da x) a1.toNatClampNeg from by unfold f_Doors_firstRoomOf; rw [if_neg c_1]], ht⟩) (fun q hq => by cases hq) d_Doors_firstRoomOf_18)
def f_Doors_secondRoomOf (x : ST) (a1 : Int32) : Int32 := if (f_Doors_has x a1) = 0 then (-1) else (q_db x) a1.toNatClampNeg
set_option maxHeartbeats 4000000 in
set_option maxRecDepth 100000 in
theorem c_Doors_secondRoomOf (l : Launch) (dC : Nat → ClassId) (dI : Nat → Nat → Nat) (cI cZ : ClassId) (ad : Nat → Nat) (x : ST) (hI : CIn x) (a1 : Int32) : MX l y_Doors_secondRoomOf (Cond.code y_Doors_secondRoomOf b_Doors_secondRoomOf 2 (some .int) :: BW) { frames := 1, cells := 0, slots := 0, locals := 21 } (PC (dC, dI) [(cI, .int), (cZ, .boolean)] (wC cI cZ ad x) [.ref (ad 2), .int a1]) (PQ (some (.int (f_Doors_secondRoomOf x a1)))) 0 0 (fun _ => False) := by
  refine MX.ofW (cc := b_Doors_secondRoomOf) (maxL := 2) (ret := (some .int)) (by decide) rfl ?_
  intro p e s m args below meth c s₁ B hml hex hv
  obtain ⟨rfl, hP, hK, hN⟩ := hv
  have hx := B.exec
  have hb := B.bytes
  have hr := B.returns
  have hts := atoms_spec (ws := Cond.code y_Doors_secondRoomOf b_Doors_secondRoomOf 2 (some .int) :: BW) B.pre
  have hbw : ∀ w ∈ BW, w.before ([.ref (ad 2), .int a1]).toArray s = true := fun w h => hts w (List.mem_cons_of_mem _ h)
  have hown : s.vm.findClass "PlanRows$Doors" = some m.cls := findClass_of_methodNamed B.named
  have hlocks := B.notSynchronized
  have hl := lv_entry ([.ref (ad 2), .int a1]) (n := 2) (Nat.le_of_ble_eq_true rfl)
  rw [lg_entry_eq]
  generalize (lg_sl ([.ref (ad 2), .int a1]) ++ List.replicate (2 - (lg_sl ([.ref (ad 2), .int a1])).length) Slot.unset).toArray = ls at hl ⊢
  have hl : lv_has ls 2 [(0, .ref (ad 2)), (1, .int a1)] := hl
  refine lv_aload_n hx hb d_Doors_secondRoomOf_0 rfl (lv_at hl 0 rfl) ?_
  refine lv_iload_n hx hb d_Doors_secondRoomOf_1 rfl (lv_at hl 1 rfl) ?_
  refine xv (As := [.int a1]) (rest := []) (C := "PlanRows$Doors") ⟨hx, hb, hml, hown, hts⟩ (c_Doors_has l dC dI cI cZ ad x hI a1) (cw_Doors_28 hts rfl rfl ⟨Nat.le_of_ble_eq_true rfl, Nat.le_of_ble_eq_true rfl⟩) hK hN hP 2 rfl rfl rfl rfl hl.1 rfl (Nat.le_of_ble_eq_true rfl) d_Doors_secondRoomOf_2 ⟨Nat.zero_le _, Nat.zero_le _⟩ ?_
  refine lv_if_eq (tgt := 17) hx hb d_Doors_secondRoomOf_5 (by decide) (fun c_1 => ?_) (fun c_1 => ?_)
  · refine lv_iconst (v := (-1)) hx hb d_Doors_secondRoomOf_17 (by decide) ?_
    exact W.toX (W.iret (v := (-1)) hx hb hr (fun t ht hW => ⟨by rw [show f_Doors_secondRoomOf x a1 = (-1) from by unfold f_Doors_secondRoomOf; rw [if_pos c_1]], ht⟩) (fun q hq => by cases hq) d_Doors_secondRoomOf_18)
  · refine lv_aload_n hx hb d_Doors_secondRoomOf_8 rfl (lv_at hl 0 rfl) ?_
    refine va_get (D := (dC, dI)) (ci := 2) (v := .ref (ad 13)) (C := R_Doors) (T := F_Doors) (N := 5) hx hb hbw in_Doors hown hK hP 2 rfl rfl 1 (by decide) (hbw _ w_57) (fun _ h9 => h9) rfl d_Doors_secondRoomOf_9 ?_
    refine lv_iload_n hx hb d_Doors_secondRoomOf_12 rfl (lv_at hl 1 rfl) ?_
    refine va_iald hx hb hK hP 13 0 rfl rfl (ix_doors hI c_1) d_Doors_secondRoomOf_13 ?_
    refine lv_goto (tgt := 18) hx hb d_Doors_secondRoomOf_14 (by decide) ?_
    exact W.toX (W.iret (v := (q_db x) a1.toNatClampNeg) hx hb hr (fun t ht hW => ⟨by rw [show f_Doors_secondRoomOf x a1 = (q_db x) a1.toNatClampNeg from by unfold f_Doors_secondRoomOf; rw [if_neg c_1]], ht⟩) (fun q hq => by cases hq) d_Doors_secondRoomOf_18)
def f_Doors_costOf (x : ST) (a1 : Int32) : Int32 := if (f_Doors_has x a1) = 0 then 0 else (q_dc x) a1.toNatClampNeg
set_option maxHeartbeats 4000000 in
set_option maxRecDepth 100000 in
theorem c_Doors_costOf (l : Launch) (dC : Nat → ClassId) (dI : Nat → Nat → Nat) (cI cZ : ClassId) (ad : Nat → Nat) (x : ST) (hI : CIn x) (a1 : Int32) : MX l y_Doors_costOf (Cond.code y_Doors_costOf b_Doors_costOf 2 (some .int) :: BW) { frames := 1, cells := 0, slots := 0, locals := 21 } (PC (dC, dI) [(cI, .int), (cZ, .boolean)] (wC cI cZ ad x) [.ref (ad 2), .int a1]) (PQ (some (.int (f_Doors_costOf x a1)))) 0 0 (fun _ => False) := by
  refine MX.ofW (cc := b_Doors_costOf) (maxL := 2) (ret := (some .int)) (by decide) rfl ?_
  intro p e s m args below meth c s₁ B hml hex hv
  obtain ⟨rfl, hP, hK, hN⟩ := hv
  have hx := B.exec
  have hb := B.bytes
  have hr := B.returns
  have hts := atoms_spec (ws := Cond.code y_Doors_costOf b_Doors_costOf 2 (some .int) :: BW) B.pre
  have hbw : ∀ w ∈ BW, w.before ([.ref (ad 2), .int a1]).toArray s = true := fun w h => hts w (List.mem_cons_of_mem _ h)
  have hown : s.vm.findClass "PlanRows$Doors" = some m.cls := findClass_of_methodNamed B.named
  have hlocks := B.notSynchronized
  have hl := lv_entry ([.ref (ad 2), .int a1]) (n := 2) (Nat.le_of_ble_eq_true rfl)
  rw [lg_entry_eq]
  generalize (lg_sl ([.ref (ad 2), .int a1]) ++ List.replicate (2 - (lg_sl ([.ref (ad 2), .int a1])).length) Slot.unset).toArray = ls at hl ⊢
  have hl : lv_has ls 2 [(0, .ref (ad 2)), (1, .int a1)] := hl
  refine lv_aload_n hx hb d_Doors_costOf_0 rfl (lv_at hl 0 rfl) ?_
  refine lv_iload_n hx hb d_Doors_costOf_1 rfl (lv_at hl 1 rfl) ?_
  refine xv (As := [.int a1]) (rest := []) (C := "PlanRows$Doors") ⟨hx, hb, hml, hown, hts⟩ (c_Doors_has l dC dI cI cZ ad x hI a1) (cw_Doors_28 hts rfl rfl ⟨Nat.le_of_ble_eq_true rfl, Nat.le_of_ble_eq_true rfl⟩) hK hN hP 2 rfl rfl rfl rfl hl.1 rfl (Nat.le_of_ble_eq_true rfl) d_Doors_costOf_2 ⟨Nat.zero_le _, Nat.zero_le _⟩ ?_
  refine lv_if_eq (tgt := 17) hx hb d_Doors_costOf_5 (by decide) (fun c_1 => ?_) (fun c_1 => ?_)
  · refine lv_iconst (v := 0) hx hb d_Doors_costOf_17 (by decide) ?_
    exact W.toX (W.iret (v := 0) hx hb hr (fun t ht hW => ⟨by rw [show f_Doors_costOf x a1 = 0 from by unfold f_Doors_costOf; rw [if_pos c_1]], ht⟩) (fun q hq => by cases hq) d_Doors_costOf_18)
  · refine lv_aload_n hx hb d_Doors_costOf_8 rfl (lv_at hl 0 rfl) ?_
    refine va_get (D := (dC, dI)) (ci := 2) (v := .ref (ad 14)) (C := R_Doors) (T := F_Doors) (N := 5) hx hb hbw in_Doors hown hK hP 2 rfl rfl 2 (by decide) (hbw _ w_58) (fun _ h9 => h9) rfl d_Doors_costOf_9 ?_
    refine lv_iload_n hx hb d_Doors_costOf_12 rfl (lv_at hl 1 rfl) ?_
    refine va_iald hx hb hK hP 14 0 rfl rfl (ix_doors hI c_1) d_Doors_costOf_13 ?_
    refine lv_goto (tgt := 18) hx hb d_Doors_costOf_14 (by decide) ?_
    exact W.toX (W.iret (v := (q_dc x) a1.toNatClampNeg) hx hb hr (fun t ht hW => ⟨by rw [show f_Doors_costOf x a1 = (q_dc x) a1.toNatClampNeg from by unfold f_Doors_costOf; rw [if_neg c_1]], ht⟩) (fun q hq => by cases hq) d_Doors_costOf_18)
def f_Doors_keyOf (x : ST) (a1 : Int32) : Int32 := if (f_Doors_has x a1) = 0 then 0 else (q_dk x) a1.toNatClampNeg
set_option maxHeartbeats 4000000 in
set_option maxRecDepth 100000 in
theorem c_Doors_keyOf (l : Launch) (dC : Nat → ClassId) (dI : Nat → Nat → Nat) (cI cZ : ClassId) (ad : Nat → Nat) (x : ST) (hI : CIn x) (a1 : Int32) : MX l y_Doors_keyOf (Cond.code y_Doors_keyOf b_Doors_keyOf 2 (some .int) :: BW) { frames := 1, cells := 0, slots := 0, locals := 21 } (PC (dC, dI) [(cI, .int), (cZ, .boolean)] (wC cI cZ ad x) [.ref (ad 2), .int a1]) (PQ (some (.int (f_Doors_keyOf x a1)))) 0 0 (fun _ => False) := by
  refine MX.ofW (cc := b_Doors_keyOf) (maxL := 2) (ret := (some .int)) (by decide) rfl ?_
  intro p e s m args below meth c s₁ B hml hex hv
  obtain ⟨rfl, hP, hK, hN⟩ := hv
  have hx := B.exec
  have hb := B.bytes
  have hr := B.returns
  have hts := atoms_spec (ws := Cond.code y_Doors_keyOf b_Doors_keyOf 2 (some .int) :: BW) B.pre
  have hbw : ∀ w ∈ BW, w.before ([.ref (ad 2), .int a1]).toArray s = true := fun w h => hts w (List.mem_cons_of_mem _ h)
  have hown : s.vm.findClass "PlanRows$Doors" = some m.cls := findClass_of_methodNamed B.named
  have hlocks := B.notSynchronized
  have hl := lv_entry ([.ref (ad 2), .int a1]) (n := 2) (Nat.le_of_ble_eq_true rfl)
  rw [lg_entry_eq]
  generalize (lg_sl ([.ref (ad 2), .int a1]) ++ List.replicate (2 - (lg_sl ([.ref (ad 2), .int a1])).length) Slot.unset).toArray = ls at hl ⊢
  have hl : lv_has ls 2 [(0, .ref (ad 2)), (1, .int a1)] := hl
  refine lv_aload_n hx hb d_Doors_keyOf_0 rfl (lv_at hl 0 rfl) ?_
  refine lv_iload_n hx hb d_Doors_keyOf_1 rfl (lv_at hl 1 rfl) ?_
  refine xv (As := [.int a1]) (rest := []) (C := "PlanRows$Doors") ⟨hx, hb, hml, hown, hts⟩ (c_Doors_has l dC dI cI cZ ad x hI a1) (cw_Doors_28 hts rfl rfl ⟨Nat.le_of_ble_eq_true rfl, Nat.le_of_ble_eq_true rfl⟩) hK hN hP 2 rfl rfl rfl rfl hl.1 rfl (Nat.le_of_ble_eq_true rfl) d_Doors_keyOf_2 ⟨Nat.zero_le _, Nat.zero_le _⟩ ?_
  refine lv_if_eq (tgt := 17) hx hb d_Doors_keyOf_5 (by decide) (fun c_1 => ?_) (fun c_1 => ?_)
  · refine lv_iconst (v := 0) hx hb d_Doors_keyOf_17 (by decide) ?_
    exact W.toX (W.iret (v := 0) hx hb hr (fun t ht hW => ⟨by rw [show f_Doors_keyOf x a1 = 0 from by unfold f_Doors_keyOf; rw [if_pos c_1]], ht⟩) (fun q hq => by cases hq) d_Doors_keyOf_18)
  · refine lv_aload_n hx hb d_Doors_keyOf_8 rfl (lv_at hl 0 rfl) ?_
    refine va_get (D := (dC, dI)) (ci := 2) (v := .ref (ad 15)) (C := R_Doors) (T := F_Doors) (N := 5) hx hb hbw in_Doors hown hK hP 2 rfl rfl 3 (by decide) (hbw _ w_59) (fun _ h9 => h9) rfl d_Doors_keyOf_9 ?_
    refine lv_iload_n hx hb d_Doors_keyOf_12 rfl (lv_at hl 1 rfl) ?_
    refine va_iald hx hb hK hP 15 0 rfl rfl (ix_doors hI c_1) d_Doors_keyOf_13 ?_
    refine lv_goto (tgt := 18) hx hb d_Doors_keyOf_14 (by decide) ?_
    exact W.toX (W.iret (v := (q_dk x) a1.toNatClampNeg) hx hb hr (fun t ht hW => ⟨by rw [show f_Doors_keyOf x a1 = (q_dk x) a1.toNatClampNeg from by unfold f_Doors_keyOf; rw [if_neg c_1]], ht⟩) (fun q hq => by cases hq) d_Doors_keyOf_18)
def f_Doors_roomBehind (x : ST) (a1 a2 : Int32) : Int32 := if (f_Doors_firstRoomOf x a1) = a2 then f_Doors_secondRoomOf x a1 else (if (f_Doors_secondRoomOf x a1) = a2 then f_Doors_firstRoomOf x a1 else (-1))
set_option maxHeartbeats 4000000 in
set_option maxRecDepth 100000 in
theorem c_Doors_roomBehind (l : Launch) (dC : Nat → ClassId) (dI : Nat → Nat → Nat) (cI cZ : ClassId) (ad : Nat → Nat) (x : ST) (hI : CIn x) (a1 a2 : Int32) : MX l y_Doors_roomBehind (Cond.code y_Doors_roomBehind b_Doors_roomBehind 3 (some .int) :: BW) { frames := 2, cells := 0, slots := 0, locals := 42 } (PC (dC, dI) [(cI, .int), (cZ, .boolean)] (wC cI cZ ad x) [.ref (ad 2), .int a1, .int a2]) (PQ (some (.int (f_Doors_roomBehind x a1 a2)))) 0 0 (fun _ => False) := by
  refine MX.ofW (cc := b_Doors_roomBehind) (maxL := 3) (ret := (some .int)) (by decide) rfl ?_
  intro p e s m args below meth c s₁ B hml hex hv
  obtain ⟨rfl, hP, hK, hN⟩ := hv
  have hx := B.exec
  have hb := B.bytes
  have hr := B.returns
  have hts := atoms_spec (ws := Cond.code y_Doors_roomBehind b_Doors_roomBehind 3 (some .int) :: BW) B.pre
  have hbw : ∀ w ∈ BW, w.before ([.ref (ad 2), .int a1, .int a2]).toArray s = true := fun w h => hts w (List.mem_cons_of_mem _ h)
  have hown : s.vm.findClass "PlanRows$Doors" = some m.cls := findClass_of_methodNamed B.named
  have hlocks := B.notSynchronized
  have hl := lv_entry ([.ref (ad 2), .int a1, .int a2]) (n := 3) (Nat.le_of_ble_eq_true rfl)
  rw [lg_entry_eq]
  generalize (lg_sl ([.ref (ad 2), .int a1, .int a2]) ++ List.replicate (3 - (lg_sl ([.ref (ad 2), .int a1, .int a2])).length) Slot.unset).toArray = ls at hl ⊢
  have hl : lv_has ls 3 [(0, .ref (ad 2)), (1, .int a1), (2, .int a2)] := hl
  refine lv_aload_n hx hb d_Doors_roomBehind_0 rfl (lv_at hl 0 rfl) ?_
  refine lv_iload_n hx hb d_Doors_roomBehind_1 rfl (lv_at hl 1 rfl) ?_
  refine xv (As := [.int a1]) (rest := []) (C := "PlanRows$Doors") ⟨hx, hb, hml, hown, hts⟩ (c_Doors_firstRoomOf l dC dI cI cZ ad x hI a1) (cw_Doors_32 hts rfl rfl ⟨Nat.le_of_ble_eq_true rfl, Nat.le_of_ble_eq_true rfl⟩) hK hN hP 2 rfl rfl rfl rfl hl.1 rfl (Nat.le_of_ble_eq_true rfl) d_Doors_roomBehind_2 ⟨Nat.zero_le _, Nat.zero_le _⟩ ?_
  refine lv_iload_n hx hb d_Doors_roomBehind_5 rfl (lv_at hl 2 rfl) ?_
  refine lv_icmp_ne (tgt := 15) hx hb d_Doors_roomBehind_6 (by decide) (fun c_1 => ?_) (fun c_1 => ?_)
  · refine lv_aload_n hx hb d_Doors_roomBehind_15 rfl (lv_at hl 0 rfl) ?_
    refine lv_iload_n hx hb d_Doors_roomBehind_16 rfl (lv_at hl 1 rfl) ?_
    refine xv (As := [.int a1]) (rest := []) (C := "PlanRows$Doors") ⟨hx, hb, hml, hown, hts⟩ (c_Doors_secondRoomOf l dC dI cI cZ ad x hI a1) (cw_Doors_36 hts rfl rfl ⟨Nat.le_of_ble_eq_true rfl, Nat.le_of_ble_eq_true rfl⟩) hK hN hP 2 rfl rfl rfl rfl hl.1 rfl (Nat.le_of_ble_eq_true rfl) d_Doors_roomBehind_17 ⟨Nat.zero_le _, Nat.zero_le _⟩ ?_
    refine lv_iload_n hx hb d_Doors_roomBehind_20 rfl (lv_at hl 2 rfl) ?_
    refine lv_icmp_ne (tgt := 32) hx hb d_Doors_roomBehind_21 (by decide) (fun c_2 => ?_) (fun c_2 => ?_)
    · refine lv_iconst (v := (-1)) hx hb d_Doors_roomBehind_32 (by decide) ?_
      exact W.toX (W.iret (v := (-1)) hx hb hr (fun t ht hW => ⟨by rw [show f_Doors_roomBehind x a1 a2 = (-1) from by unfold f_Doors_roomBehind; rw [if_neg c_1, if_neg c_2]], ht⟩) (fun q hq => by cases hq) d_Doors_roomBehind_33)
    · refine lv_aload_n hx hb d_Doors_roomBehind_24 rfl (lv_at hl 0 rfl) ?_
      refine lv_iload_n hx hb d_Doors_roomBehind_25 rfl (lv_at hl 1 rfl) ?_
      refine xv (As := [.int a1]) (rest := []) (C := "PlanRows$Doors") ⟨hx, hb, hml, hown, hts⟩ (c_Doors_firstRoomOf l dC dI cI cZ ad x hI a1) (cw_Doors_32 hts rfl rfl ⟨Nat.le_of_ble_eq_true rfl, Nat.le_of_ble_eq_true rfl⟩) hK hN hP 2 rfl rfl rfl rfl hl.1 rfl (Nat.le_of_ble_eq_true rfl) d_Doors_roomBehind_26 ⟨Nat.zero_le _, Nat.zero_le _⟩ ?_
      refine lv_goto (tgt := 33) hx hb d_Doors_roomBehind_29 (by decide) ?_
      exact W.toX (W.iret (v := f_Doors_firstRoomOf x a1) hx hb hr (fun t ht hW => ⟨by rw [show f_Doors_roomBehind x a1 a2 = f_Doors_firstRoomOf x a1 from by unfold f_Doors_roomBehind; rw [if_neg c_1, if_pos c_2]], ht⟩) (fun q hq => by cases hq) d_Doors_roomBehind_33)
  · refine lv_aload_n hx hb d_Doors_roomBehind_9 rfl (lv_at hl 0 rfl) ?_
    refine lv_iload_n hx hb d_Doors_roomBehind_10 rfl (lv_at hl 1 rfl) ?_
    refine xv (As := [.int a1]) (rest := []) (C := "PlanRows$Doors") ⟨hx, hb, hml, hown, hts⟩ (c_Doors_secondRoomOf l dC dI cI cZ ad x hI a1) (cw_Doors_36 hts rfl rfl ⟨Nat.le_of_ble_eq_true rfl, Nat.le_of_ble_eq_true rfl⟩) hK hN hP 2 rfl rfl rfl rfl hl.1 rfl (Nat.le_of_ble_eq_true rfl) d_Doors_roomBehind_11 ⟨Nat.zero_le _, Nat.zero_le _⟩ ?_
    exact W.toX (W.iret (v := f_Doors_secondRoomOf x a1) hx hb hr (fun t ht hW => ⟨by rw [show f_Doors_roomBehind x a1 a2 = f_Doors_secondRoomOf x a1 from by unfold f_Doors_roomBehind; rw [if_pos c_1]], ht⟩) (fun q hq => by cases hq) d_Doors_roomBehind_14)
def f_Keys_has (x : ST) (a1 : Int32) : Int32 := if a1 ≤ 0 then 0 else (if 30 < a1 then 0 else 1)
set_option maxHeartbeats 4000000 in
set_option maxRecDepth 100000 in
theorem c_Keys_has (l : Launch) (dC : Nat → ClassId) (dI : Nat → Nat → Nat) (cI cZ : ClassId) (ad : Nat → Nat) (x : ST) (hI : CIn x) (a1 : Int32) : MX l y_Keys_has (Cond.code y_Keys_has b_Keys_has 2 (some .boolean) :: BW) { frames := 0, cells := 0, slots := 0, locals := 0 } (PC (dC, dI) [(cI, .int), (cZ, .boolean)] (wC cI cZ ad x) [.ref (ad 3), .int a1]) (PQ (some (.int (f_Keys_has x a1)))) 0 0 (fun _ => False) := by
  refine MX.ofW (cc := b_Keys_has) (maxL := 2) (ret := (some .boolean)) (by decide) rfl ?_
  intro p e s m args below meth c s₁ B hml hex hv
  obtain ⟨rfl, hP, hK, hN⟩ := hv
  have hx := B.exec
  have hb := B.bytes
  have hr := B.returns
  have hts := atoms_spec (ws := Cond.code y_Keys_has b_Keys_has 2 (some .boolean) :: BW) B.pre
  have hbw : ∀ w ∈ BW, w.before ([.ref (ad 3), .int a1]).toArray s = true := fun w h => hts w (List.mem_cons_of_mem _ h)
  have hown : s.vm.findClass "PlanRows$KeyRing" = some m.cls := findClass_of_methodNamed B.named
  have hlocks := B.notSynchronized
  have hl := lv_entry ([.ref (ad 3), .int a1]) (n := 2) (Nat.le_of_ble_eq_true rfl)
  rw [lg_entry_eq]
  generalize (lg_sl ([.ref (ad 3), .int a1]) ++ List.replicate (2 - (lg_sl ([.ref (ad 3), .int a1])).length) Slot.unset).toArray = ls at hl ⊢
  have hl : lv_has ls 2 [(0, .ref (ad 3)), (1, .int a1)] := hl
  refine lv_iload_n hx hb d_Keys_has_0 rfl (lv_at hl 1 rfl) ?_
  refine lv_if_le (tgt := 14) hx hb d_Keys_has_1 (by decide) (fun c_1 => ?_) (fun c_1 => ?_)
  · refine lv_iconst (v := 0) hx hb d_Keys_has_14 (by decide) ?_
    exact W.toX (W.zret (v := 0) (ty := .boolean) hx hb hr (by rfl) (fun t ht hW => ⟨by rw [show f_Keys_has x a1 = 0 from by unfold f_Keys_has; rw [if_pos c_1]], ht⟩) (fun q hq => by cases hq) d_Keys_has_15)
  · refine lv_iload_n hx hb d_Keys_has_4 rfl (lv_at hl 1 rfl) ?_
    refine lv_bipush (v := 30) hx hb d_Keys_has_5 (by decide) ?_
    refine lv_icmp_gt (tgt := 14) hx hb d_Keys_has_7 (by decide) (fun c_2 => ?_) (fun c_2 => ?_)
    · refine lv_iconst (v := 0) hx hb d_Keys_has_14 (by decide) ?_
      exact W.toX (W.zret (v := 0) (ty := .boolean) hx hb hr (by rfl) (fun t ht hW => ⟨by rw [show f_Keys_has x a1 = 0 from by unfold f_Keys_has; rw [if_neg c_1, if_pos c_2]], ht⟩) (fun q hq => by cases hq) d_Keys_has_15)
    · refine lv_iconst (v := 1) hx hb d_Keys_has_10 (by decide) ?_
      refine lv_goto (tgt := 15) hx hb d_Keys_has_11 (by decide) ?_
      exact W.toX (W.zret (v := 1) (ty := .boolean) hx hb hr (by rfl) (fun t ht hW => ⟨by rw [show f_Keys_has x a1 = 1 from by unfold f_Keys_has; rw [if_neg c_1, if_neg c_2]], ht⟩) (fun q hq => by cases hq) d_Keys_has_15)
theorem ix_keys {x : ST} {a : Int32} (h : ¬ f_Keys_has x a = 0) : vp_in a 31 := by
  unfold f_Keys_has at h
  by_cases h0 : a ≤ 0
  · exact absurd (if_pos h0) h
  · rw [if_neg h0] at h
    by_cases h1 : 30 < a
    · exact absurd (if_pos h1) h
    · refine vp_in_iff.mpr ?_
      rw [Int32.le_iff_toInt_le] at h0
      rw [Int32.lt_iff_toInt_lt] at h1
      have h2 : (0 : Int32).toInt = 0 := rfl
      have h3 : (30 : Int32).toInt = 30 := rfl
      omega
def f_Keys_isAtHand (x : ST) (a1 : Int32) : Int32 := if (f_Keys_has x a1) = 0 then 0 else (if ((q_kh x) a1.toNatClampNeg) = 0 then 0 else 1)
set_option maxHeartbeats 4000000 in
set_option maxRecDepth 100000 in
theorem c_Keys_isAtHand (l : Launch) (dC : Nat → ClassId) (dI : Nat → Nat → Nat) (cI cZ : ClassId) (ad : Nat → Nat) (x : ST) (hI : CIn x) (a1 : Int32) : MX l y_Keys_isAtHand (Cond.code y_Keys_isAtHand b_Keys_isAtHand 2 (some .boolean) :: BW) { frames := 1, cells := 0, slots := 0, locals := 21 } (PC (dC, dI) [(cI, .int), (cZ, .boolean)] (wC cI cZ ad x) [.ref (ad 3), .int a1]) (PQ (some (.int (f_Keys_isAtHand x a1)))) 0 0 (fun _ => False) := by
  refine MX.ofW (cc := b_Keys_isAtHand) (maxL := 2) (ret := (some .boolean)) (by decide) rfl ?_
  intro p e s m args below meth c s₁ B hml hex hv
  obtain ⟨rfl, hP, hK, hN⟩ := hv
  have hx := B.exec
  have hb := B.bytes
  have hr := B.returns
  have hts := atoms_spec (ws := Cond.code y_Keys_isAtHand b_Keys_isAtHand 2 (some .boolean) :: BW) B.pre
  have hbw : ∀ w ∈ BW, w.before ([.ref (ad 3), .int a1]).toArray s = true := fun w h => hts w (List.mem_cons_of_mem _ h)
  have hown : s.vm.findClass "PlanRows$KeyRing" = some m.cls := findClass_of_methodNamed B.named
  have hlocks := B.notSynchronized
  have hl := lv_entry ([.ref (ad 3), .int a1]) (n := 2) (Nat.le_of_ble_eq_true rfl)
  rw [lg_entry_eq]
  generalize (lg_sl ([.ref (ad 3), .int a1]) ++ List.replicate (2 - (lg_sl ([.ref (ad 3), .int a1])).length) Slot.unset).toArray = ls at hl ⊢
  have hl : lv_has ls 2 [(0, .ref (ad 3)), (1, .int a1)] := hl
  refine lv_aload_n hx hb d_Keys_isAtHand_0 rfl (lv_at hl 0 rfl) ?_
  refine lv_iload_n hx hb d_Keys_isAtHand_1 rfl (lv_at hl 1 rfl) ?_
  refine xv (As := [.int a1]) (rest := []) (C := "PlanRows$KeyRing") ⟨hx, hb, hml, hown, hts⟩ (c_Keys_has l dC dI cI cZ ad x hI a1) (cw_Keys_15 hts rfl rfl ⟨Nat.le_of_ble_eq_true rfl, Nat.le_of_ble_eq_true rfl⟩) hK hN hP 3 rfl rfl rfl rfl hl.1 rfl (Nat.le_of_ble_eq_true rfl) d_Keys_isAtHand_2 ⟨Nat.zero_le _, Nat.zero_le _⟩ ?_
  refine lv_if_eq (tgt := 21) hx hb d_Keys_isAtHand_5 (by decide) (fun c_1 => ?_) (fun c_1 => ?_)
  · refine lv_iconst (v := 0) hx hb d_Keys_isAtHand_21 (by decide) ?_
    exact W.toX (W.zret (v := 0) (ty := .boolean) hx hb hr (by rfl) (fun t ht hW => ⟨by rw [show f_Keys_isAtHand x a1 = 0 from by unfold f_Keys_isAtHand; rw [if_pos c_1]], ht⟩) (fun q hq => by cases hq) d_Keys_isAtHand_22)
  · refine lv_aload_n hx hb d_Keys_isAtHand_8 rfl (lv_at hl 0 rfl) ?_
    refine va_get (D := (dC, dI)) (ci := 3) (v := .ref (ad 16)) (C := R_Keys) (T := F_Keys) (N := 2) hx hb hbw in_Keys hown hK hP 3 rfl rfl 0 (by decide) (hbw _ w_80) (fun _ h9 => h9) rfl d_Keys_isAtHand_9 ?_
    refine lv_iload_n hx hb d_Keys_isAtHand_12 rfl (lv_at hl 1 rfl) ?_
    refine va_zald hx hb hK hP 16 1 rfl rfl (ix_keys c_1) d_Keys_isAtHand_13 ?_
    refine lv_if_eq (tgt := 21) hx hb d_Keys_isAtHand_14 (by decide) (fun c_2 => ?_) (fun c_2 => ?_)
    · refine lv_iconst (v := 0) hx hb d_Keys_isAtHand_21 (by decide) ?_
      exact W.toX (W.zret (v := 0) (ty := .boolean) hx hb hr (by rfl) (fun t ht hW => ⟨by rw [show f_Keys_isAtHand x a1 = 0 from by unfold f_Keys_isAtHand; rw [if_neg c_1, if_pos c_2]], ht⟩) (fun q hq => by cases hq) d_Keys_isAtHand_22)
    · refine lv_iconst (v := 1) hx hb d_Keys_isAtHand_17 (by decide) ?_
      refine lv_goto (tgt := 22) hx hb d_Keys_isAtHand_18 (by decide) ?_
      exact W.toX (W.zret (v := 1) (ty := .boolean) hx hb hr (by rfl) (fun t ht hW => ⟨by rw [show f_Keys_isAtHand x a1 = 1 from by unfold f_Keys_isAtHand; rw [if_neg c_1, if_neg c_2]], ht⟩) (fun q hq => by cases hq) d_Keys_isAtHand_22)
theorem ix_back {a n : Int32} {N : Nat} (h0 : ¬ a < 0) (h1 : ¬ n ≤ a) (hn0 : 0 ≤ n.toInt) (hn : n.toInt ≤ N) (hN : N < 1000) : vp_in (n - 1 - a) N := by
  rw [Int32.lt_iff_toInt_lt] at h0
  rw [Int32.le_iff_toInt_le] at h1
  have h2 : (0 : Int32).toInt = 0 := rfl
  have h3 : (1 : Int32).toInt = 1 := rfl
  refine vp_in_iff.mpr ?_
  have e1 : (n - 1).toInt = n.toInt - 1 := by
    rw [Int32.toInt_sub, h3]
    exact Int.bmod_eq_of_le (by omega) (by omega)
  have e2 : (n - 1 - a).toInt = n.toInt - 1 - a.toInt := by
    rw [Int32.toInt_sub, e1]
    exact Int.bmod_eq_of_le (by omega) (by omega)
  omega
def f_Route_doorAt (x : ST) (a1 : Int32) : Int32 := if a1 < 0 then (-1) else (if (q_rl x) ≤ a1 then (-1) else (q_rd x) (((q_rl x) - 1) - a1).toNatClampNeg)
set_option maxHeartbeats 4000000 in
set_option maxRecDepth 100000 in
theorem c_Route_doorAt (l : Launch) (dC : Nat → ClassId) (dI : Nat → Nat → Nat) (cI cZ : ClassId) (ad : Nat → Nat) (x : ST) (hI : CIn x) (a1 : Int32) : MX l y_Route_doorAt (Cond.code y_Route_doorAt b_Route_doorAt 2 (some .int) :: BW) { frames := 0, cells := 0, slots := 0, locals := 0 } (PC (dC, dI) [(cI, .int), (cZ, .boolean)] (wC cI cZ ad x) [.ref (ad 5), .int a1]) (PQ (some (.int (f_Route_doorAt x a1)))) 0 0 (fun _ => False) := by
  refine MX.ofW (cc := b_Route_doorAt) (maxL := 2) (ret := (some .int)) (by decide) rfl ?_
  intro p e s m args below meth c s₁ B hml hex hv
  obtain ⟨rfl, hP, hK, hN⟩ := hv
  have hx := B.exec
  have hb := B.bytes
  have hr := B.returns
  have hts := atoms_spec (ws := Cond.code y_Route_doorAt b_Route_doorAt 2 (some .int) :: BW) B.pre
  have hbw : ∀ w ∈ BW, w.before ([.ref (ad 5), .int a1]).toArray s = true := fun w h => hts w (List.mem_cons_of_mem _ h)
  have hown : s.vm.findClass "PlanRows$Route" = some m.cls := findClass_of_methodNamed B.named
  have hlocks := B.notSynchronized
  have hl := lv_entry ([.ref (ad 5), .int a1]) (n := 2) (Nat.le_of_ble_eq_true rfl)
  rw [lg_entry_eq]
  generalize (lg_sl ([.ref (ad 5), .int a1]) ++ List.replicate (2 - (lg_sl ([.ref (ad 5), .int a1])).length) Slot.unset).toArray = ls at hl ⊢
  have hl : lv_has ls 2 [(0, .ref (ad 5)), (1, .int a1)] := hl
  refine lv_iload_n hx hb d_Route_doorAt_0 rfl (lv_at hl 1 rfl) ?_
  refine lv_if_lt (tgt := 28) hx hb d_Route_doorAt_1 (by decide) (fun c_1 => ?_) (fun c_1 => ?_)
  · refine lv_iconst (v := (-1)) hx hb d_Route_doorAt_28 (by decide) ?_
    exact W.toX (W.iret (v := (-1)) hx hb hr (fun t ht hW => ⟨by rw [show f_Route_doorAt x a1 = (-1) from by unfold f_Route_doorAt; rw [if_pos c_1]], ht⟩) (fun q hq => by cases hq) d_Route_doorAt_29)
  · refine lv_iload_n hx hb d_Route_doorAt_4 rfl (lv_at hl 1 rfl) ?_
    refine lv_aload_n hx hb d_Route_doorAt_5 rfl (lv_at hl 0 rfl) ?_
    refine va_get (D := (dC, dI)) (ci := 5) (v := .int (q_rl x)) (C := R_Route) (T := F_Route) (N := 4) hx hb hbw in_Route hown hK hP 5 rfl rfl 1 (by decide) (hbw _ w_115) (fun _ h9 => h9) rfl d_Route_doorAt_6 ?_
    refine lv_icmp_ge (tgt := 28) hx hb d_Route_doorAt_9 (by decide) (fun c_2 => ?_) (fun c_2 => ?_)
    · refine lv_iconst (v := (-1)) hx hb d_Route_doorAt_28 (by decide) ?_
      exact W.toX (W.iret (v := (-1)) hx hb hr (fun t ht hW => ⟨by rw [show f_Route_doorAt x a1 = (-1) from by unfold f_Route_doorAt; rw [if_neg c_1, if_pos c_2]], ht⟩) (fun q hq => by cases hq) d_Route_doorAt_29)
    · refine lv_aload_n hx hb d_Route_doorAt_12 rfl (lv_at hl 0 rfl) ?_
      refine va_get (D := (dC, dI)) (ci := 5) (v := .ref (ad 18)) (C := R_Route) (T := F_Route) (N := 4) hx hb hbw in_Route hown hK hP 5 rfl rfl 0 (by decide) (hbw _ w_114) (fun _ h9 => h9) rfl d_Route_doorAt_13 ?_
      refine lv_aload_n hx hb d_Route_doorAt_16 rfl (lv_at hl 0 rfl) ?_
      refine va_get (D := (dC, dI)) (ci := 5) (v := .int (q_rl x)) (C := R_Route) (T := F_Route) (N := 4) hx hb hbw in_Route hown hK hP 5 rfl rfl 1 (by decide) (hbw _ w_115) (fun _ h9 => h9) rfl d_Route_doorAt_17 ?_
      refine lv_iconst (v := 1) hx hb d_Route_doorAt_20 (by decide) ?_
      refine lv_isub hx hb d_Route_doorAt_21 ?_
      refine lv_iload_n hx hb d_Route_doorAt_22 rfl (lv_at hl 1 rfl) ?_
      refine lv_isub hx hb d_Route_doorAt_23 ?_
      refine va_iald hx hb hK hP 18 0 rfl rfl (ix_back c_1 c_2 hI.2.2.2.2.2.1 hI.2.2.2.2.2.2 (by decide)) d_Route_doorAt_24 ?_
      refine lv_goto (tgt := 29) hx hb d_Route_doorAt_25 (by decide) ?_
      exact W.toX (W.iret (v := (q_rd x) (((q_rl x) - 1) - a1).toNatClampNeg) hx hb hr (fun t ht hW => ⟨by rw [show f_Route_doorAt x a1 = (q_rd x) (((q_rl x) - 1) - a1).toNatClampNeg from by unfold f_Route_doorAt; rw [if_neg c_1, if_neg c_2]], ht⟩) (fun q hq => by cases hq) d_Route_doorAt_29)
def f_Win_has (x : ST) (a1 : Int32) : Int32 := if a1 < 0 then 0 else (if (q_wc x) ≤ a1 then 0 else 1)
set_option maxHeartbeats 4000000 in
set_option maxRecDepth 100000 in
theorem c_Win_has (l : Launch) (dC : Nat → ClassId) (dI : Nat → Nat → Nat) (cI cZ : ClassId) (ad : Nat → Nat) (x : ST) (hI : CIn x) (a1 : Int32) : MX l y_Win_has (Cond.code y_Win_has b_Win_has 2 (some .boolean) :: BW) { frames := 0, cells := 0, slots := 0, locals := 0 } (PC (dC, dI) [(cI, .int), (cZ, .boolean)] (wC cI cZ ad x) [.ref (ad 8), .int a1]) (PQ (some (.int (f_Win_has x a1)))) 0 0 (fun _ => False) := by
  refine MX.ofW (cc := b_Win_has) (maxL := 2) (ret := (some .boolean)) (by decide) rfl ?_
  intro p e s m args below meth c s₁ B hml hex hv
  obtain ⟨rfl, hP, hK, hN⟩ := hv
  have hx := B.exec
  have hb := B.bytes
  have hr := B.returns
  have hts := atoms_spec (ws := Cond.code y_Win_has b_Win_has 2 (some .boolean) :: BW) B.pre
  have hbw : ∀ w ∈ BW, w.before ([.ref (ad 8), .int a1]).toArray s = true := fun w h => hts w (List.mem_cons_of_mem _ h)
  have hown : s.vm.findClass "PlanRows$Windows" = some m.cls := findClass_of_methodNamed B.named
  have hlocks := B.notSynchronized
  have hl := lv_entry ([.ref (ad 8), .int a1]) (n := 2) (Nat.le_of_ble_eq_true rfl)
  rw [lg_entry_eq]
  generalize (lg_sl ([.ref (ad 8), .int a1]) ++ List.replicate (2 - (lg_sl ([.ref (ad 8), .int a1])).length) Slot.unset).toArray = ls at hl ⊢
  have hl : lv_has ls 2 [(0, .ref (ad 8)), (1, .int a1)] := hl
  refine lv_iload_n hx hb d_Win_has_0 rfl (lv_at hl 1 rfl) ?_
  refine lv_if_lt (tgt := 16) hx hb d_Win_has_1 (by decide) (fun c_1 => ?_) (fun c_1 => ?_)
  · refine lv_iconst (v := 0) hx hb d_Win_has_16 (by decide) ?_
    exact W.toX (W.zret (v := 0) (ty := .boolean) hx hb hr (by rfl) (fun t ht hW => ⟨by rw [show f_Win_has x a1 = 0 from by unfold f_Win_has; rw [if_pos c_1]], ht⟩) (fun q hq => by cases hq) d_Win_has_17)
  · refine lv_iload_n hx hb d_Win_has_4 rfl (lv_at hl 1 rfl) ?_
    refine lv_aload_n hx hb d_Win_has_5 rfl (lv_at hl 0 rfl) ?_
    refine va_get (D := (dC, dI)) (ci := 7) (v := .int (q_wc x)) (C := R_Win) (T := F_Win) (N := 4) hx hb hbw in_Win hown hK hP 8 rfl rfl 3 (by decide) (hbw _ w_181) (fun _ h9 => h9) rfl d_Win_has_6 ?_
    refine lv_icmp_ge (tgt := 16) hx hb d_Win_has_9 (by decide) (fun c_2 => ?_) (fun c_2 => ?_)
    · refine lv_iconst (v := 0) hx hb d_Win_has_16 (by decide) ?_
      exact W.toX (W.zret (v := 0) (ty := .boolean) hx hb hr (by rfl) (fun t ht hW => ⟨by rw [show f_Win_has x a1 = 0 from by unfold f_Win_has; rw [if_neg c_1, if_pos c_2]], ht⟩) (fun q hq => by cases hq) d_Win_has_17)
    · refine lv_iconst (v := 1) hx hb d_Win_has_12 (by decide) ?_
      refine lv_goto (tgt := 17) hx hb d_Win_has_13 (by decide) ?_
      exact W.toX (W.zret (v := 1) (ty := .boolean) hx hb hr (by rfl) (fun t ht hW => ⟨by rw [show f_Win_has x a1 = 1 from by unfold f_Win_has; rw [if_neg c_1, if_neg c_2]], ht⟩) (fun q hq => by cases hq) d_Win_has_17)
def f_Crowd_isBetween (a1 a2 a3 : Int32) : Int32 := if a2 ≤ a3 then (if a1 < a2 then 0 else (if a3 < a1 then 0 else 1)) else (if a2 ≤ a1 then 1 else (if a3 < a1 then 0 else 1))
set_option maxHeartbeats 4000000 in
set_option maxRecDepth 100000 in
theorem c_Crowd_isBetween (l : Launch) (dC : Nat → ClassId) (dI : Nat → Nat → Nat) (tys : List (ClassId × FieldType)) (ww : va_W) (a1 a2 a3 : Int32) : MX l y_Crowd_isBetween (Cond.code y_Crowd_isBetween b_Crowd_isBetween 4 (some .boolean) :: BW) { frames := 0, cells := 0, slots := 0, locals := 0 } (PC (dC, dI) tys ww [.int a1, .int a2, .int a3]) (PQ (some (.int (f_Crowd_isBetween a1 a2 a3)))) 0 0 (fun _ => False) := by
  refine MX.ofW (cc := b_Crowd_isBetween) (maxL := 4) (ret := (some .boolean)) (by decide) rfl ?_
  intro p e s m args below meth c s₁ B hml hex hv
  obtain ⟨rfl, hP, hK, hN⟩ := hv
  have hx := B.exec
  have hb := B.bytes
  have hr := B.returns
  have hts := atoms_spec (ws := Cond.code y_Crowd_isBetween b_Crowd_isBetween 4 (some .boolean) :: BW) B.pre
  have hbw : ∀ w ∈ BW, w.before ([.int a1, .int a2, .int a3]).toArray s = true := fun w h => hts w (List.mem_cons_of_mem _ h)
  have hown : s.vm.findClass "PlanRows$Crowd" = some m.cls := findClass_of_methodNamed B.named
  have hlocks := B.notSynchronized
  have hl := lv_entry ([.int a1, .int a2, .int a3]) (n := 4) (Nat.le_of_ble_eq_true rfl)
  rw [lg_entry_eq]
  generalize (lg_sl ([.int a1, .int a2, .int a3]) ++ List.replicate (4 - (lg_sl ([.int a1, .int a2, .int a3])).length) Slot.unset).toArray = ls at hl ⊢
  have hl : lv_has ls 4 [(0, .int a1), (1, .int a2), (2, .int a3)] := hl
  refine lv_iload_n hx hb d_Crowd_isBetween_0 rfl (lv_at hl 2 rfl) ?_
  refine lv_iload_n hx hb d_Crowd_isBetween_1 rfl (lv_at hl 1 rfl) ?_
  refine lv_icmp_ge (tgt := 9) hx hb d_Crowd_isBetween_2 (by decide) (fun c_1 => ?_) (fun c_1 => ?_)
  · refine lv_iconst (v := 0) hx hb d_Crowd_isBetween_9 (by decide) ?_
    refine lv_istore_n (lv' := [(3, .int 0), (0, .int a1), (1, .int a2), (2, .int a3)]) hx hb d_Crowd_isBetween_10 rfl hl (by decide) rfl (fun ls hl => ?_)
    refine lv_iload_n hx hb d_Crowd_isBetween_11 rfl (lv_at hl 0 rfl) ?_
    refine lv_if_eq (tgt := 33) hx hb d_Crowd_isBetween_12 (by decide) (fun c_2 => ?_) (fun c_2 => ?_)
    · refine lv_iload_n hx hb d_Crowd_isBetween_33 rfl (lv_at hl 1 rfl) ?_
      refine lv_iload_n hx hb d_Crowd_isBetween_34 rfl (lv_at hl 2 rfl) ?_
      refine lv_icmp_lt (tgt := 47) hx hb d_Crowd_isBetween_35 (by decide) (fun c_3 => ?_) (fun c_3 => ?_)
      · refine lv_iconst (v := 0) hx hb d_Crowd_isBetween_47 (by decide) ?_
        exact W.toX (W.zret (v := 0) (ty := .boolean) hx hb hr (by rfl) (fun t ht hW => ⟨by rw [show f_Crowd_isBetween a1 a2 a3 = 0 from by unfold f_Crowd_isBetween; rw [if_pos c_1, if_pos c_3]], ht⟩) (fun q hq => by cases hq) d_Crowd_isBetween_48)
      · refine lv_iload_n hx hb d_Crowd_isBetween_38 rfl (lv_at hl 1 rfl) ?_
        refine lv_iload_n hx hb d_Crowd_isBetween_39 rfl (lv_at hl 3 rfl) ?_
        refine lv_icmp_gt (tgt := 47) hx hb d_Crowd_isBetween_40 (by decide) (fun c_4 => ?_) (fun c_4 => ?_)
        · refine lv_iconst (v := 0) hx hb d_Crowd_isBetween_47 (by decide) ?_
          exact W.toX (W.zret (v := 0) (ty := .boolean) hx hb hr (by rfl) (fun t ht hW => ⟨by rw [show f_Crowd_isBetween a1 a2 a3 = 0 from by unfold f_Crowd_isBetween; rw [if_pos c_1, if_neg c_3, if_pos c_4]], ht⟩) (fun q hq => by cases hq) d_Crowd_isBetween_48)
        · refine lv_iconst (v := 1) hx hb d_Crowd_isBetween_43 (by decide) ?_
          refine lv_goto (tgt := 48) hx hb d_Crowd_isBetween_44 (by decide) ?_
          exact W.toX (W.zret (v := 1) (ty := .boolean) hx hb hr (by rfl) (fun t ht hW => ⟨by rw [show f_Crowd_isBetween a1 a2 a3 = 1 from by unfold f_Crowd_isBetween; rw [if_pos c_1, if_neg c_3, if_neg c_4]], ht⟩) (fun q hq => by cases hq) d_Crowd_isBetween_48)
    · exact absurd c_2 (by decide)
  · refine lv_iconst (v := 1) hx hb d_Crowd_isBetween_5 (by decide) ?_
    refine lv_goto (tgt := 10) hx hb d_Crowd_isBetween_6 (by decide) ?_
    refine lv_istore_n (lv' := [(3, .int 1), (0, .int a1), (1, .int a2), (2, .int a3)]) hx hb d_Crowd_isBetween_10 rfl hl (by decide) rfl (fun ls hl => ?_)
    refine lv_iload_n hx hb d_Crowd_isBetween_11 rfl (lv_at hl 0 rfl) ?_
    refine lv_if_eq (tgt := 33) hx hb d_Crowd_isBetween_12 (by decide) (fun c_5 => ?_) (fun c_5 => ?_)
    · exact absurd c_5 (by decide)
    · refine lv_iload_n hx hb d_Crowd_isBetween_15 rfl (lv_at hl 1 rfl) ?_
      refine lv_iload_n hx hb d_Crowd_isBetween_16 rfl (lv_at hl 2 rfl) ?_
      refine lv_icmp_ge (tgt := 25) hx hb d_Crowd_isBetween_17 (by decide) (fun c_6 => ?_) (fun c_6 => ?_)
      · refine lv_iconst (v := 1) hx hb d_Crowd_isBetween_25 (by decide) ?_
        refine lv_goto (tgt := 48) hx hb d_Crowd_isBetween_26 (by decide) ?_
        exact W.toX (W.zret (v := 1) (ty := .boolean) hx hb hr (by rfl) (fun t ht hW => ⟨by rw [show f_Crowd_isBetween a1 a2 a3 = 1 from by unfold f_Crowd_isBetween; rw [if_neg c_1, if_pos c_6]], ht⟩) (fun q hq => by cases hq) d_Crowd_isBetween_48)
      · refine lv_iload_n hx hb d_Crowd_isBetween_20 rfl (lv_at hl 1 rfl) ?_
        refine lv_iload_n hx hb d_Crowd_isBetween_21 rfl (lv_at hl 3 rfl) ?_
        refine lv_icmp_gt (tgt := 29) hx hb d_Crowd_isBetween_22 (by decide) (fun c_7 => ?_) (fun c_7 => ?_)
        · refine lv_iconst (v := 0) hx hb d_Crowd_isBetween_29 (by decide) ?_
          refine lv_goto (tgt := 48) hx hb d_Crowd_isBetween_30 (by decide) ?_
          exact W.toX (W.zret (v := 0) (ty := .boolean) hx hb hr (by rfl) (fun t ht hW => ⟨by rw [show f_Crowd_isBetween a1 a2 a3 = 0 from by unfold f_Crowd_isBetween; rw [if_neg c_1, if_neg c_6, if_pos c_7]], ht⟩) (fun q hq => by cases hq) d_Crowd_isBetween_48)
        · refine lv_iconst (v := 1) hx hb d_Crowd_isBetween_25 (by decide) ?_
          refine lv_goto (tgt := 48) hx hb d_Crowd_isBetween_26 (by decide) ?_
          exact W.toX (W.zret (v := 1) (ty := .boolean) hx hb hr (by rfl) (fun t ht hW => ⟨by rw [show f_Crowd_isBetween a1 a2 a3 = 1 from by unfold f_Crowd_isBetween; rw [if_neg c_1, if_neg c_6, if_neg c_7]], ht⟩) (fun q hq => by cases hq) d_Crowd_isBetween_48)
def f_Search_isPassed (x : ST) (a1 : Int32) : Int32 := if (f_Doors_keyOf x a1) = 0 then 1 else (if (f_Keys_isAtHand x (f_Doors_keyOf x a1)) = 0 then 0 else 1)
set_option maxHeartbeats 4000000 in
set_option maxRecDepth 100000 in
theorem c_Search_isPassed (l : Launch) (dC : Nat → ClassId) (dI : Nat → Nat → Nat) (cI cZ : ClassId) (ad : Nat → Nat) (x : ST) (hI : CIn x) (a1 : Int32) : MX l y_Search_isPassed (Cond.code y_Search_isPassed b_Search_isPassed 3 (some .boolean) :: BW) { frames := 2, cells := 0, slots := 0, locals := 42 } (PC (dC, dI) [(cI, .int), (cZ, .boolean)] (wC cI cZ ad x) [.ref (ad 4), .int a1]) (PQ (some (.int (f_Search_isPassed x a1)))) 0 0 (fun _ => False) := by
  refine MX.ofW (cc := b_Search_isPassed) (maxL := 3) (ret := (some .boolean)) (by decide) rfl ?_
  intro p e s m args below meth c s₁ B hml hex hv
  obtain ⟨rfl, hP, hK, hN⟩ := hv
  have hx := B.exec
  have hb := B.bytes
  have hr := B.returns
  have hts := atoms_spec (ws := Cond.code y_Search_isPassed b_Search_isPassed 3 (some .boolean) :: BW) B.pre
  have hbw : ∀ w ∈ BW, w.before ([.ref (ad 4), .int a1]).toArray s = true := fun w h => hts w (List.mem_cons_of_mem _ h)
  have hown : s.vm.findClass "PlanRows$Search" = some m.cls := findClass_of_methodNamed B.named
  have hlocks := B.notSynchronized
  have hl := lv_entry ([.ref (ad 4), .int a1]) (n := 3) (Nat.le_of_ble_eq_true rfl)
  rw [lg_entry_eq]
  generalize (lg_sl ([.ref (ad 4), .int a1]) ++ List.replicate (3 - (lg_sl ([.ref (ad 4), .int a1])).length) Slot.unset).toArray = ls at hl ⊢
  have hl : lv_has ls 3 [(0, .ref (ad 4)), (1, .int a1)] := hl
  refine lv_aload_n hx hb d_Search_isPassed_0 rfl (lv_at hl 0 rfl) ?_
  refine va_get (D := (dC, dI)) (ci := 6) (v := .ref (ad 2)) (C := R_Search) (T := F_Search) (N := 4) hx hb hbw in_Search hown hK hP 4 rfl rfl 1 (by decide) (hbw _ w_96) (fun _ h9 => h9) rfl d_Search_isPassed_1 ?_
  refine lv_iload_n hx hb d_Search_isPassed_4 rfl (lv_at hl 1 rfl) ?_
  refine xv (As := [.int a1]) (rest := []) (C := "PlanRows$Doors") ⟨hx, hb, hml, hown, hts⟩ (c_Doors_keyOf l dC dI cI cZ ad x hI a1) (cw_Search_80 hts rfl rfl ⟨Nat.le_of_ble_eq_true rfl, Nat.le_of_ble_eq_true rfl⟩) hK hN hP 2 rfl rfl rfl rfl hl.1 rfl (Nat.le_of_ble_eq_true rfl) d_Search_isPassed_5 ⟨Nat.zero_le _, Nat.zero_le _⟩ ?_
  refine lv_istore_n (lv' := [(2, .int (f_Doors_keyOf x a1)), (0, .ref (ad 4)), (1, .int a1)]) hx hb d_Search_isPassed_8 rfl hl (by decide) rfl (fun ls hl => ?_)
  refine lv_iload_n hx hb d_Search_isPassed_9 rfl (lv_at hl 0 rfl) ?_
  refine lv_if_eq (tgt := 24) hx hb d_Search_isPassed_10 (by decide) (fun c_1 => ?_) (fun c_1 => ?_)
  · refine lv_iconst (v := 1) hx hb d_Search_isPassed_24 (by decide) ?_
    refine lv_goto (tgt := 29) hx hb d_Search_isPassed_25 (by decide) ?_
    exact W.toX (W.zret (v := 1) (ty := .boolean) hx hb hr (by rfl) (fun t ht hW => ⟨by rw [show f_Search_isPassed x a1 = 1 from by unfold f_Search_isPassed; rw [if_pos c_1]], ht⟩) (fun q hq => by cases hq) d_Search_isPassed_29)
  · refine lv_aload_n hx hb d_Search_isPassed_13 rfl (lv_at hl 1 rfl) ?_
    refine va_get (D := (dC, dI)) (ci := 6) (v := .ref (ad 3)) (C := R_Search) (T := F_Search) (N := 4) hx hb hbw in_Search hown hK hP 4 rfl rfl 2 (by decide) (hbw _ w_97) (fun _ h9 => h9) rfl d_Search_isPassed_14 ?_
    refine lv_iload_n hx hb d_Search_isPassed_17 rfl (lv_at hl 0 rfl) ?_
    refine xv (As := [.int (f_Doors_keyOf x a1)]) (rest := []) (C := "PlanRows$KeyRing") ⟨hx, hb, hml, hown, hts⟩ (c_Keys_isAtHand l dC dI cI cZ ad x hI (f_Doors_keyOf x a1)) (cw_Search_83 hts rfl rfl ⟨Nat.le_of_ble_eq_true rfl, Nat.le_of_ble_eq_true rfl⟩) hK hN hP 3 rfl rfl rfl rfl hl.1 rfl (Nat.le_of_ble_eq_true rfl) d_Search_isPassed_18 ⟨Nat.zero_le _, Nat.zero_le _⟩ ?_
    refine lv_if_eq (tgt := 28) hx hb d_Search_isPassed_21 (by decide) (fun c_2 => ?_) (fun c_2 => ?_)
    · refine lv_iconst (v := 0) hx hb d_Search_isPassed_28 (by decide) ?_
      exact W.toX (W.zret (v := 0) (ty := .boolean) hx hb hr (by rfl) (fun t ht hW => ⟨by rw [show f_Search_isPassed x a1 = 0 from by unfold f_Search_isPassed; rw [if_neg c_1, if_pos c_2]], ht⟩) (fun q hq => by cases hq) d_Search_isPassed_29)
    · refine lv_iconst (v := 1) hx hb d_Search_isPassed_24 (by decide) ?_
      refine lv_goto (tgt := 29) hx hb d_Search_isPassed_25 (by decide) ?_
      exact W.toX (W.zret (v := 1) (ty := .boolean) hx hb hr (by rfl) (fun t ht hW => ⟨by rw [show f_Search_isPassed x a1 = 1 from by unfold f_Search_isPassed; rw [if_neg c_1, if_neg c_2]], ht⟩) (fun q hq => by cases hq) d_Search_isPassed_29)
def f_Search_isReached (x : ST) (a1 : Int32) : Int32 := if (f_Rooms_has x a1) = 0 then 0 else (if ((q_co x) a1.toNatClampNeg) = 1000000000 then 0 else 1)
set_option maxHeartbeats 4000000 in
set_option maxRecDepth 100000 in
theorem c_Search_isReached (l : Launch) (dC : Nat → ClassId) (dI : Nat → Nat → Nat) (cI cZ : ClassId) (ad : Nat → Nat) (x : ST) (hI : CIn x) (a1 : Int32) : MX l y_Search_isReached (Cond.code y_Search_isReached b_Search_isReached 2 (some .boolean) :: BW) { frames := 1, cells := 0, slots := 0, locals := 21 } (PC (dC, dI) [(cI, .int), (cZ, .boolean)] (wC cI cZ ad x) [.ref (ad 4), .int a1]) (PQ (some (.int (f_Search_isReached x a1)))) 0 0 (fun _ => False) := by
  refine MX.ofW (cc := b_Search_isReached) (maxL := 2) (ret := (some .boolean)) (by decide) rfl ?_
  intro p e s m args below meth c s₁ B hml hex hv
  obtain ⟨rfl, hP, hK, hN⟩ := hv
  have hx := B.exec
  have hb := B.bytes
  have hr := B.returns
  have hts := atoms_spec (ws := Cond.code y_Search_isReached b_Search_isReached 2 (some .boolean) :: BW) B.pre
  have hbw : ∀ w ∈ BW, w.before ([.ref (ad 4), .int a1]).toArray s = true := fun w h => hts w (List.mem_cons_of_mem _ h)
  have hown : s.vm.findClass "PlanRows$Search" = some m.cls := findClass_of_methodNamed B.named
  have hlocks := B.notSynchronized
  have hl := lv_entry ([.ref (ad 4), .int a1]) (n := 2) (Nat.le_of_ble_eq_true rfl)
  rw [lg_entry_eq]
  generalize (lg_sl ([.ref (ad 4), .int a1]) ++ List.replicate (2 - (lg_sl ([.ref (ad 4), .int a1])).length) Slot.unset).toArray = ls at hl ⊢
  have hl : lv_has ls 2 [(0, .ref (ad 4)), (1, .int a1)] := hl
  refine lv_aload_n hx hb d_Search_isReached_0 rfl (lv_at hl 0 rfl) ?_
  refine va_get (D := (dC, dI)) (ci := 6) (v := .ref (ad 1)) (C := R_Search) (T := F_Search) (N := 4) hx hb hbw in_Search hown hK hP 4 rfl rfl 0 (by decide) (hbw _ w_95) (fun _ h9 => h9) rfl d_Search_isReached_1 ?_
  refine lv_iload_n hx hb d_Search_isReached_4 rfl (lv_at hl 1 rfl) ?_
  refine xv (As := [.int a1]) (rest := []) (C := "PlanRows$Rooms") ⟨hx, hb, hml, hown, hts⟩ (c_Rooms_has l dC dI cI cZ ad x hI a1) (cw_Search_34 hts rfl rfl ⟨Nat.le_of_ble_eq_true rfl, Nat.le_of_ble_eq_true rfl⟩) hK hN hP 1 rfl rfl rfl rfl hl.1 rfl (Nat.le_of_ble_eq_true rfl) d_Search_isReached_5 ⟨Nat.zero_le _, Nat.zero_le _⟩ ?_
  refine lv_if_eq (tgt := 26) hx hb d_Search_isReached_8 (by decide) (fun c_1 => ?_) (fun c_1 => ?_)
  · refine lv_iconst (v := 0) hx hb d_Search_isReached_26 (by decide) ?_
    exact W.toX (W.zret (v := 0) (ty := .boolean) hx hb hr (by rfl) (fun t ht hW => ⟨by rw [show f_Search_isReached x a1 = 0 from by unfold f_Search_isReached; rw [if_pos c_1]], ht⟩) (fun q hq => by cases hq) d_Search_isReached_27)
  · refine lv_aload_n hx hb d_Search_isReached_11 rfl (lv_at hl 0 rfl) ?_
    refine va_get (D := (dC, dI)) (ci := 6) (v := .ref (ad 17)) (C := R_Search) (T := F_Search) (N := 4) hx hb hbw in_Search hown hK hP 4 rfl rfl 3 (by decide) (hbw _ w_98) (fun _ h9 => h9) rfl d_Search_isReached_12 ?_
    refine lv_iload_n hx hb d_Search_isReached_15 rfl (lv_at hl 1 rfl) ?_
    refine va_iald hx hb hK hP 17 0 rfl rfl (ix_rooms hI c_1) d_Search_isReached_16 ?_
    refine lv_ldc (v := 1000000000) hx hb hown (hbw _ w_436) d_Search_isReached_17 ?_
    refine lv_icmp_eq (tgt := 26) hx hb d_Search_isReached_19 (by decide) (fun c_2 => ?_) (fun c_2 => ?_)
    · refine lv_iconst (v := 0) hx hb d_Search_isReached_26 (by decide) ?_
      exact W.toX (W.zret (v := 0) (ty := .boolean) hx hb hr (by rfl) (fun t ht hW => ⟨by rw [show f_Search_isReached x a1 = 0 from by unfold f_Search_isReached; rw [if_neg c_1, if_pos c_2]], ht⟩) (fun q hq => by cases hq) d_Search_isReached_27)
    · refine lv_iconst (v := 1) hx hb d_Search_isReached_22 (by decide) ?_
      refine lv_goto (tgt := 27) hx hb d_Search_isReached_23 (by decide) ?_
      exact W.toX (W.zret (v := 1) (ty := .boolean) hx hb hr (by rfl) (fun t ht hW => ⟨by rw [show f_Search_isReached x a1 = 1 from by unfold f_Search_isReached; rw [if_neg c_1, if_neg c_2]], ht⟩) (fun q hq => by cases hq) d_Search_isReached_27)
theorem ix_reached {x : ST} {a : Int32} (hI : CIn x) (h : ¬ f_Search_isReached x a = 0) : vp_in a 40 := by
  unfold f_Search_isReached at h
  by_cases h0 : f_Rooms_has x a = 0
  · exact absurd (if_pos h0) h
  · exact ix_rooms hI h0
def f_Search_metresTo (x : ST) (a1 : Int32) : Int32 := if (f_Search_isReached x a1) = 0 then (-1) else ((q_co x) a1.toNatClampNeg) / 64
set_option maxHeartbeats 4000000 in
set_option maxRecDepth 100000 in
theorem c_Search_metresTo (l : Launch) (dC : Nat → ClassId) (dI : Nat → Nat → Nat) (cI cZ : ClassId) (ad : Nat → Nat) (x : ST) (hI : CIn x) (a1 : Int32) : MX l y_Search_metresTo (Cond.code y_Search_metresTo b_Search_metresTo 2 (some .int) :: BW) { frames := 2, cells := 0, slots := 0, locals := 42 } (PC (dC, dI) [(cI, .int), (cZ, .boolean)] (wC cI cZ ad x) [.ref (ad 4), .int a1]) (PQ (some (.int (f_Search_metresTo x a1)))) 0 0 (fun _ => False) := by
  refine MX.ofW (cc := b_Search_metresTo) (maxL := 2) (ret := (some .int)) (by decide) rfl ?_
  intro p e s m args below meth c s₁ B hml hex hv
  obtain ⟨rfl, hP, hK, hN⟩ := hv
  have hx := B.exec
  have hb := B.bytes
  have hr := B.returns
  have hts := atoms_spec (ws := Cond.code y_Search_metresTo b_Search_metresTo 2 (some .int) :: BW) B.pre
  have hbw : ∀ w ∈ BW, w.before ([.ref (ad 4), .int a1]).toArray s = true := fun w h => hts w (List.mem_cons_of_mem _ h)
  have hown : s.vm.findClass "PlanRows$Search" = some m.cls := findClass_of_methodNamed B.named
  have hlocks := B.notSynchronized
  have hl := lv_entry ([.ref (ad 4), .int a1]) (n := 2) (Nat.le_of_ble_eq_true rfl)
  rw [lg_entry_eq]
  generalize (lg_sl ([.ref (ad 4), .int a1]) ++ List.replicate (2 - (lg_sl ([.ref (ad 4), .int a1])).length) Slot.unset).toArray = ls at hl ⊢
  have hl : lv_has ls 2 [(0, .ref (ad 4)), (1, .int a1)] := hl
  refine lv_aload_n hx hb d_Search_metresTo_0 rfl (lv_at hl 0 rfl) ?_
  refine lv_iload_n hx hb d_Search_metresTo_1 rfl (lv_at hl 1 rfl) ?_
  refine xv (As := [.int a1]) (rest := []) (C := "PlanRows$Search") ⟨hx, hb, hml, hown, hts⟩ (c_Search_isReached l dC dI cI cZ ad x hI a1) (cw_Search_74 hts rfl rfl ⟨Nat.le_of_ble_eq_true rfl, Nat.le_of_ble_eq_true rfl⟩) hK hN hP 4 rfl rfl rfl rfl hl.1 rfl (Nat.le_of_ble_eq_true rfl) d_Search_metresTo_2 ⟨Nat.zero_le _, Nat.zero_le _⟩ ?_
  refine lv_if_eq (tgt := 20) hx hb d_Search_metresTo_5 (by decide) (fun c_1 => ?_) (fun c_1 => ?_)
  · refine lv_iconst (v := (-1)) hx hb d_Search_metresTo_20 (by decide) ?_
    exact W.toX (W.iret (v := (-1)) hx hb hr (fun t ht hW => ⟨by rw [show f_Search_metresTo x a1 = (-1) from by unfold f_Search_metresTo; rw [if_pos c_1]], ht⟩) (fun q hq => by cases hq) d_Search_metresTo_21)
  · refine lv_aload_n hx hb d_Search_metresTo_8 rfl (lv_at hl 0 rfl) ?_
    refine va_get (D := (dC, dI)) (ci := 6) (v := .ref (ad 17)) (C := R_Search) (T := F_Search) (N := 4) hx hb hbw in_Search hown hK hP 4 rfl rfl 3 (by decide) (hbw _ w_98) (fun _ h9 => h9) rfl d_Search_metresTo_9 ?_
    refine lv_iload_n hx hb d_Search_metresTo_12 rfl (lv_at hl 1 rfl) ?_
    refine va_iald hx hb hK hP 17 0 rfl rfl (ix_reached hI c_1) d_Search_metresTo_13 ?_
    refine lv_bipush (v := 64) hx hb d_Search_metresTo_14 (by decide) ?_
    refine lv_idiv hx hb d_Search_metresTo_16 (by decide) ?_
    refine lv_goto (tgt := 21) hx hb d_Search_metresTo_17 (by decide) ?_
    exact W.toX (W.iret (v := ((q_co x) a1.toNatClampNeg) / 64) hx hb hr (fun t ht hW => ⟨by rw [show f_Search_metresTo x a1 = ((q_co x) a1.toNatClampNeg) / 64 from by unfold f_Search_metresTo; rw [if_neg c_1]], ht⟩) (fun q hq => by cases hq) d_Search_metresTo_21)
def f_Search_stairsTo (x : ST) (a1 : Int32) : Int32 := if (f_Search_isReached x a1) = 0 then 0 else ((q_co x) a1.toNatClampNeg) - ((q_co x) a1.toNatClampNeg) / 64 * 64
set_option maxHeartbeats 4000000 in
set_option maxRecDepth 100000 in
theorem c_Search_stairsTo (l : Launch) (dC : Nat → ClassId) (dI : Nat → Nat → Nat) (cI cZ : ClassId) (ad : Nat → Nat) (x : ST) (hI : CIn x) (a1 : Int32) : MX l y_Search_stairsTo (Cond.code y_Search_stairsTo b_Search_stairsTo 2 (some .int) :: BW) { frames := 2, cells := 0, slots := 0, locals := 42 } (PC (dC, dI) [(cI, .int), (cZ, .boolean)] (wC cI cZ ad x) [.ref (ad 4), .int a1]) (PQ (some (.int (f_Search_stairsTo x a1)))) 0 0 (fun _ => False) := by
  refine MX.ofW (cc := b_Search_stairsTo) (maxL := 2) (ret := (some .int)) (by decide) rfl ?_
  intro p e s m args below meth c s₁ B hml hex hv
  obtain ⟨rfl, hP, hK, hN⟩ := hv
  have hx := B.exec
  have hb := B.bytes
  have hr := B.returns
  have hts := atoms_spec (ws := Cond.code y_Search_stairsTo b_Search_stairsTo 2 (some .int) :: BW) B.pre
  have hbw : ∀ w ∈ BW, w.before ([.ref (ad 4), .int a1]).toArray s = true := fun w h => hts w (List.mem_cons_of_mem _ h)
  have hown : s.vm.findClass "PlanRows$Search" = some m.cls := findClass_of_methodNamed B.named
  have hlocks := B.notSynchronized
  have hl := lv_entry ([.ref (ad 4), .int a1]) (n := 2) (Nat.le_of_ble_eq_true rfl)
  rw [lg_entry_eq]
  generalize (lg_sl ([.ref (ad 4), .int a1]) ++ List.replicate (2 - (lg_sl ([.ref (ad 4), .int a1])).length) Slot.unset).toArray = ls at hl ⊢
  have hl : lv_has ls 2 [(0, .ref (ad 4)), (1, .int a1)] := hl
  refine lv_aload_n hx hb d_Search_stairsTo_0 rfl (lv_at hl 0 rfl) ?_
  refine lv_iload_n hx hb d_Search_stairsTo_1 rfl (lv_at hl 1 rfl) ?_
  refine xv (As := [.int a1]) (rest := []) (C := "PlanRows$Search") ⟨hx, hb, hml, hown, hts⟩ (c_Search_isReached l dC dI cI cZ ad x hI a1) (cw_Search_74 hts rfl rfl ⟨Nat.le_of_ble_eq_true rfl, Nat.le_of_ble_eq_true rfl⟩) hK hN hP 4 rfl rfl rfl rfl hl.1 rfl (Nat.le_of_ble_eq_true rfl) d_Search_stairsTo_2 ⟨Nat.zero_le _, Nat.zero_le _⟩ ?_
  refine lv_if_eq (tgt := 20) hx hb d_Search_stairsTo_5 (by decide) (fun c_1 => ?_) (fun c_1 => ?_)
  · refine lv_iconst (v := 0) hx hb d_Search_stairsTo_20 (by decide) ?_
    exact W.toX (W.iret (v := 0) hx hb hr (fun t ht hW => ⟨by rw [show f_Search_stairsTo x a1 = 0 from by unfold f_Search_stairsTo; rw [if_pos c_1]], ht⟩) (fun q hq => by cases hq) d_Search_stairsTo_21)
  · refine lv_aload_n hx hb d_Search_stairsTo_8 rfl (lv_at hl 0 rfl) ?_
    refine va_get (D := (dC, dI)) (ci := 6) (v := .ref (ad 17)) (C := R_Search) (T := F_Search) (N := 4) hx hb hbw in_Search hown hK hP 4 rfl rfl 3 (by decide) (hbw _ w_98) (fun _ h9 => h9) rfl d_Search_stairsTo_9 ?_
    refine lv_iload_n hx hb d_Search_stairsTo_12 rfl (lv_at hl 1 rfl) ?_
    refine va_iald hx hb hK hP 17 0 rfl rfl (ix_reached hI c_1) d_Search_stairsTo_13 ?_
    refine lv_bipush (v := 64) hx hb d_Search_stairsTo_14 (by decide) ?_
    refine lv_irem hx hb d_Search_stairsTo_16 (by decide) ?_
    refine lv_goto (tgt := 21) hx hb d_Search_stairsTo_17 (by decide) ?_
    exact W.toX (W.iret (v := ((q_co x) a1.toNatClampNeg) - ((q_co x) a1.toNatClampNeg) / 64 * 64) hx hb hr (fun t ht hW => ⟨by rw [show f_Search_stairsTo x a1 = ((q_co x) a1.toNatClampNeg) - ((q_co x) a1.toNatClampNeg) / 64 * 64 from by unfold f_Search_stairsTo; rw [if_neg c_1]], ht⟩) (fun q hq => by cases hq) d_Search_stairsTo_21)
end
section
theorem lp_inc {i n : Int32} {k : Nat} (hi : 0 ≤ i.toInt ∧ i.toInt ≤ n.toInt ∧ n.toInt - i.toInt < ((k + 1 : Nat) : Int)) (hc : ¬ n ≤ i) {N : Nat} (hn : n.toInt ≤ N) (hN : N < 100000) : 0 ≤ (i + 1).toInt ∧ (i + 1).toInt ≤ n.toInt ∧ n.toInt - (i + 1).toInt < (k : Int) := by
  rw [Int32.le_iff_toInt_le] at hc
  have h3 : (1 : Int32).toInt = 1 := rfl
  have e1 : (i + 1).toInt = i.toInt + 1 := by
    rw [Int32.toInt_add, h3]
    exact Int.bmod_eq_of_le (by omega) (by omega)
  omega
theorem ix_ge {a n : Int32} {N k : Nat} (hi : 0 ≤ a.toInt ∧ a.toInt ≤ n.toInt ∧ n.toInt - a.toInt < ((k + 1 : Nat) : Int)) (h1 : ¬ n ≤ a) (hn : n.toInt ≤ N) : vp_in a N := vp_in_iff.mpr (by
  rw [Int32.le_iff_toInt_le] at h1
  omega)
theorem lp_0 {n : Int32} {N : Nat} (h : 0 ≤ n.toInt ∧ n.toInt ≤ N) {K : Nat} (hK : N < K) : 0 ≤ (0 : Int32).toInt ∧ (0 : Int32).toInt ≤ n.toInt ∧ n.toInt - (0 : Int32).toInt < (K : Int) := by
  have h3 : (0 : Int32).toInt = 0 := rfl
  omega
def L_Doors_anyHasKey (x : ST) (a1 : Int32) : Nat → Int32 → Int32
  | 0, _ => 0
  | k + 1, i => if (q_dn x) ≤ i then 0 else (if ((q_dk x) i.toNatClampNeg) = a1 then 1 else L_Doors_anyHasKey x a1 k (i + 1))
theorem L_Doors_anyHasKey_s (x : ST) (a1 : Int32) (k : Nat) (i : Int32) : L_Doors_anyHasKey x a1 (k + 1) i = if (q_dn x) ≤ i then 0 else (if ((q_dk x) i.toNatClampNeg) = a1 then 1 else L_Doors_anyHasKey x a1 k (i + 1)) := rfl
def f_Doors_anyHasKey (x : ST) (a1 : Int32) : Int32 := L_Doors_anyHasKey x a1 81 0
set_option maxHeartbeats 4000000 in
set_option maxRecDepth 100000 in
theorem c_Doors_anyHasKey (l : Launch) (dC : Nat → ClassId) (dI : Nat → Nat → Nat) (cI cZ : ClassId) (ad : Nat → Nat) (x : ST) (hI : CIn x) (a1 : Int32) : MX l y_Doors_anyHasKey (Cond.code y_Doors_anyHasKey b_Doors_anyHasKey 3 (some .boolean) :: BW) { frames := 0, cells := 0, slots := 0, locals := 0 } (PC (dC, dI) [(cI, .int), (cZ, .boolean)] (wC cI cZ ad x) [.ref (ad 2), .int a1]) (PQ (some (.int (f_Doors_anyHasKey x a1)))) 0 0 (fun _ => False) := by
  refine MX.ofW (cc := b_Doors_anyHasKey) (maxL := 3) (ret := (some .boolean)) (by decide) rfl ?_
  intro p e s m args below meth c s₁ B hml hex hv
  obtain ⟨rfl, hP, hK, hN⟩ := hv
  have hx := B.exec
  have hb := B.bytes
  have hr := B.returns
  have hts := atoms_spec (ws := Cond.code y_Doors_anyHasKey b_Doors_anyHasKey 3 (some .boolean) :: BW) B.pre
  have hbw : ∀ w ∈ BW, w.before ([.ref (ad 2), .int a1]).toArray s = true := fun w h => hts w (List.mem_cons_of_mem _ h)
  have hown : s.vm.findClass "PlanRows$Doors" = some m.cls := findClass_of_methodNamed B.named
  have hlocks := B.notSynchronized
  have hl := lv_entry ([.ref (ad 2), .int a1]) (n := 3) (Nat.le_of_ble_eq_true rfl)
  rw [lg_entry_eq]
  generalize (lg_sl ([.ref (ad 2), .int a1]) ++ List.replicate (3 - (lg_sl ([.ref (ad 2), .int a1])).length) Slot.unset).toArray = ls at hl ⊢
  have hl : lv_has ls 3 [(0, .ref (ad 2)), (1, .int a1)] := hl
  refine lv_iconst (v := 0) hx hb d_Doors_anyHasKey_0 (by decide) ?_
  refine lv_istore_n (lv' := [(2, .int 0), (0, .ref (ad 2)), (1, .int a1)]) hx hb d_Doors_anyHasKey_1 rfl hl (by decide) rfl (fun ls hl => ?_)
  have loop : ∀ (k : Nat) (i : Int32) (ls : Array Slot), 0 ≤ i.toInt ∧ i.toInt ≤ (q_dn x).toInt ∧ (q_dn x).toInt - i.toInt < ((k : Nat) : Int) → f_Doors_anyHasKey x a1 = L_Doors_anyHasKey x a1 k i → lv_has ls 3 [(2, .int i), (0, .ref (ad 2)), (1, .int a1)] → W p l e { frames := 0, cells := 0, slots := 0, locals := 0 } s m ([.ref (ad 2), .int a1]).toArray below meth c s.heap [] 0 0 (MQX below (PQ (some (.int (f_Doors_anyHasKey x a1)))) ([.ref (ad 2), .int a1]).toArray s 0 0 (fun _ => False)) (F0 m 2 ls []) := by
    intro k
    induction k with
    | zero =>
      intro i ls hi hq hl
      obtain ⟨h1, h2, h3⟩ := hi
      omega
    | succ k ih =>
      intro i ls hi hq hl
      have hq := hq.trans (L_Doors_anyHasKey_s x a1 k i)
      refine lv_iload_n hx hb d_Doors_anyHasKey_2 rfl (lv_at hl 0 rfl) ?_
      refine lv_aload_n hx hb d_Doors_anyHasKey_3 rfl (lv_at hl 1 rfl) ?_
      refine va_get (D := (dC, dI)) (ci := 2) (v := .int (q_dn x)) (C := R_Doors) (T := F_Doors) (N := 5) hx hb hbw in_Doors hown hK hP 2 rfl rfl 4 (by decide) (hbw _ w_60) (fun _ h9 => h9) rfl d_Doors_anyHasKey_4 ?_
      refine lv_icmp_ge (tgt := 28) hx hb d_Doors_anyHasKey_7 (by decide) (fun c_1 => ?_) (fun c_1 => ?_)
      · refine lv_iconst (v := 0) hx hb d_Doors_anyHasKey_28 (by decide) ?_
        exact W.toX (W.zret (v := 0) (ty := .boolean) hx hb hr (by rfl) (fun t ht hW => ⟨by rw [show f_Doors_anyHasKey x a1 = 0 from by rw [hq, if_pos c_1]], ht⟩) (fun q hq => by cases hq) d_Doors_anyHasKey_29)
      · refine lv_aload_n hx hb d_Doors_anyHasKey_10 rfl (lv_at hl 1 rfl) ?_
        refine va_get (D := (dC, dI)) (ci := 2) (v := .ref (ad 15)) (C := R_Doors) (T := F_Doors) (N := 5) hx hb hbw in_Doors hown hK hP 2 rfl rfl 3 (by decide) (hbw _ w_59) (fun _ h9 => h9) rfl d_Doors_anyHasKey_11 ?_
        refine lv_iload_n hx hb d_Doors_anyHasKey_14 rfl (lv_at hl 0 rfl) ?_
        refine va_iald hx hb hK hP 15 0 rfl rfl (ix_ge hi c_1 hI.2.1.2) d_Doors_anyHasKey_15 ?_
        refine lv_iload_n hx hb d_Doors_anyHasKey_16 rfl (lv_at hl 2 rfl) ?_
        refine lv_icmp_ne (tgt := 22) hx hb d_Doors_anyHasKey_17 (by decide) (fun c_2 => ?_) (fun c_2 => ?_)
        · refine lv_iinc (v := i + 1) (lv' := [(2, .int (i + 1)), (0, .ref (ad 2)), (1, .int a1)]) hx hb d_Doors_anyHasKey_22 hl (k := 0) rfl rfl (by decide) rfl (fun ls hl => ?_)
          refine lv_goto (tgt := 2) hx hb d_Doors_anyHasKey_25 (by decide) ?_
          exact ih (i + 1) ls (lp_inc hi c_1 hI.2.1.2 (by decide)) (by rw [hq, if_neg c_1, if_neg c_2]) (lv_sub hl [0, 1, 2] rfl)
        · refine lv_iconst (v := 1) hx hb d_Doors_anyHasKey_20 (by decide) ?_
          exact W.toX (W.zret (v := 1) (ty := .boolean) hx hb hr (by rfl) (fun t ht hW => ⟨by rw [show f_Doors_anyHasKey x a1 = 1 from by rw [hq, if_neg c_1, if_pos c_2]], ht⟩) (fun q hq => by cases hq) d_Doors_anyHasKey_21)
  exact loop 81 0 ls (lp_0 (N := 80) hI.2.1 (by decide)) (rfl) (lv_sub hl [0, 1, 2] rfl)
def L_Det_roomOf (x : ST) (a1 a2 : Int32) : Nat → Int32 → Int32
  | 0, _ => 0
  | k + 1, i => if (q_tc x) ≤ i then (-1) else (if ((q_tl x) i.toNatClampNeg) = a1 then (if ((q_tn x) i.toNatClampNeg) = a2 then (q_tr x) i.toNatClampNeg else L_Det_roomOf x a1 a2 k (i + 1)) else L_Det_roomOf x a1 a2 k (i + 1))
theorem L_Det_roomOf_s (x : ST) (a1 a2 : Int32) (k : Nat) (i : Int32) : L_Det_roomOf x a1 a2 (k + 1) i = if (q_tc x) ≤ i then (-1) else (if ((q_tl x) i.toNatClampNeg) = a1 then (if ((q_tn x) i.toNatClampNeg) = a2 then (q_tr x) i.toNatClampNeg else L_Det_roomOf x a1 a2 k (i + 1)) else L_Det_roomOf x a1 a2 k (i + 1)) := rfl
def f_Det_roomOf (x : ST) (a1 a2 : Int32) : Int32 := L_Det_roomOf x a1 a2 101 0
set_option maxHeartbeats 4000000 in
set_option maxRecDepth 100000 in
theorem c_Det_roomOf (l : Launch) (dC : Nat → ClassId) (dI : Nat → Nat → Nat) (cI cZ : ClassId) (ad : Nat → Nat) (x : ST) (hI : CIn x) (a1 a2 : Int32) : MX l y_Det_roomOf (Cond.code y_Det_roomOf b_Det_roomOf 4 (some .int) :: BW) { frames := 0, cells := 0, slots := 0, locals := 0 } (PC (dC, dI) [(cI, .int), (cZ, .boolean)] (wC cI cZ ad x) [.ref (ad 6), .int a1, .int a2]) (PQ (some (.int (f_Det_roomOf x a1 a2)))) 0 0 (fun _ => False) := by
  refine MX.ofW (cc := b_Det_roomOf) (maxL := 4) (ret := (some .int)) (by decide) rfl ?_
  intro p e s m args below meth c s₁ B hml hex hv
  obtain ⟨rfl, hP, hK, hN⟩ := hv
  have hx := B.exec
  have hb := B.bytes
  have hr := B.returns
  have hts := atoms_spec (ws := Cond.code y_Det_roomOf b_Det_roomOf 4 (some .int) :: BW) B.pre
  have hbw : ∀ w ∈ BW, w.before ([.ref (ad 6), .int a1, .int a2]).toArray s = true := fun w h => hts w (List.mem_cons_of_mem _ h)
  have hown : s.vm.findClass "PlanRows$Detectors" = some m.cls := findClass_of_methodNamed B.named
  have hlocks := B.notSynchronized
  have hl := lv_entry ([.ref (ad 6), .int a1, .int a2]) (n := 4) (Nat.le_of_ble_eq_true rfl)
  rw [lg_entry_eq]
  generalize (lg_sl ([.ref (ad 6), .int a1, .int a2]) ++ List.replicate (4 - (lg_sl ([.ref (ad 6), .int a1, .int a2])).length) Slot.unset).toArray = ls at hl ⊢
  have hl : lv_has ls 4 [(0, .ref (ad 6)), (1, .int a1), (2, .int a2)] := hl
  refine lv_iconst (v := 0) hx hb d_Det_roomOf_0 (by decide) ?_
  refine lv_istore_n (lv' := [(3, .int 0), (0, .ref (ad 6)), (1, .int a1), (2, .int a2)]) hx hb d_Det_roomOf_1 rfl hl (by decide) rfl (fun ls hl => ?_)
  have loop : ∀ (k : Nat) (i : Int32) (ls : Array Slot), 0 ≤ i.toInt ∧ i.toInt ≤ (q_tc x).toInt ∧ (q_tc x).toInt - i.toInt < ((k : Nat) : Int) → f_Det_roomOf x a1 a2 = L_Det_roomOf x a1 a2 k i → lv_has ls 4 [(3, .int i), (0, .ref (ad 6)), (1, .int a1), (2, .int a2)] → W p l e { frames := 0, cells := 0, slots := 0, locals := 0 } s m ([.ref (ad 6), .int a1, .int a2]).toArray below meth c s.heap [] 0 0 (MQX below (PQ (some (.int (f_Det_roomOf x a1 a2)))) ([.ref (ad 6), .int a1, .int a2]).toArray s 0 0 (fun _ => False)) (F0 m 2 ls []) := by
    intro k
    induction k with
    | zero =>
      intro i ls hi hq hl
      obtain ⟨h1, h2, h3⟩ := hi
      omega
    | succ k ih =>
      intro i ls hi hq hl
      have hq := hq.trans (L_Det_roomOf_s x a1 a2 k i)
      refine lv_iload_n hx hb d_Det_roomOf_2 rfl (lv_at hl 0 rfl) ?_
      refine lv_aload_n hx hb d_Det_roomOf_3 rfl (lv_at hl 1 rfl) ?_
      refine va_get (D := (dC, dI)) (ci := 1) (v := .int (q_tc x)) (C := R_Det) (T := F_Det) (N := 4) hx hb hbw in_Det hown hK hP 6 rfl rfl 3 (by decide) (hbw _ w_139) (fun _ h9 => h9) rfl d_Det_roomOf_4 ?_
      refine lv_icmp_ge (tgt := 43) hx hb d_Det_roomOf_7 (by decide) (fun c_1 => ?_) (fun c_1 => ?_)
      · refine lv_iconst (v := (-1)) hx hb d_Det_roomOf_43 (by decide) ?_
        exact W.toX (W.iret (v := (-1)) hx hb hr (fun t ht hW => ⟨by rw [show f_Det_roomOf x a1 a2 = (-1) from by rw [hq, if_pos c_1]], ht⟩) (fun q hq => by cases hq) d_Det_roomOf_44)
      · refine lv_aload_n hx hb d_Det_roomOf_10 rfl (lv_at hl 1 rfl) ?_
        refine va_get (D := (dC, dI)) (ci := 1) (v := .ref (ad 19)) (C := R_Det) (T := F_Det) (N := 4) hx hb hbw in_Det hown hK hP 6 rfl rfl 0 (by decide) (hbw _ w_136) (fun _ h9 => h9) rfl d_Det_roomOf_11 ?_
        refine lv_iload_n hx hb d_Det_roomOf_14 rfl (lv_at hl 0 rfl) ?_
        refine va_iald hx hb hK hP 19 0 rfl rfl (ix_ge hi c_1 hI.2.2.1.2) d_Det_roomOf_15 ?_
        refine lv_iload_n hx hb d_Det_roomOf_16 rfl (lv_at hl 2 rfl) ?_
        refine lv_icmp_ne (tgt := 37) hx hb d_Det_roomOf_17 (by decide) (fun c_2 => ?_) (fun c_2 => ?_)
        · refine lv_iinc (v := i + 1) (lv' := [(3, .int (i + 1)), (0, .ref (ad 6)), (1, .int a1), (2, .int a2)]) hx hb d_Det_roomOf_37 hl (k := 0) rfl rfl (by decide) rfl (fun ls hl => ?_)
          refine lv_goto (tgt := 2) hx hb d_Det_roomOf_40 (by decide) ?_
          exact ih (i + 1) ls (lp_inc hi c_1 hI.2.2.1.2 (by decide)) (by rw [hq, if_neg c_1, if_neg c_2]) (lv_sub hl [0, 1, 2, 3] rfl)
        · refine lv_aload_n hx hb d_Det_roomOf_20 rfl (lv_at hl 1 rfl) ?_
          refine va_get (D := (dC, dI)) (ci := 1) (v := .ref (ad 20)) (C := R_Det) (T := F_Det) (N := 4) hx hb hbw in_Det hown hK hP 6 rfl rfl 1 (by decide) (hbw _ w_137) (fun _ h9 => h9) rfl d_Det_roomOf_21 ?_
          refine lv_iload_n hx hb d_Det_roomOf_24 rfl (lv_at hl 0 rfl) ?_
          refine va_iald hx hb hK hP 20 0 rfl rfl (ix_ge hi c_1 hI.2.2.1.2) d_Det_roomOf_25 ?_
          refine lv_iload_n hx hb d_Det_roomOf_26 rfl (lv_at hl 3 rfl) ?_
          refine lv_icmp_ne (tgt := 37) hx hb d_Det_roomOf_27 (by decide) (fun c_3 => ?_) (fun c_3 => ?_)
          · refine lv_iinc (v := i + 1) (lv' := [(3, .int (i + 1)), (0, .ref (ad 6)), (1, .int a1), (2, .int a2)]) hx hb d_Det_roomOf_37 hl (k := 0) rfl rfl (by decide) rfl (fun ls hl => ?_)
            refine lv_goto (tgt := 2) hx hb d_Det_roomOf_40 (by decide) ?_
            exact ih (i + 1) ls (lp_inc hi c_1 hI.2.2.1.2 (by decide)) (by rw [hq, if_neg c_1, if_pos c_2, if_neg c_3]) (lv_sub hl [0, 1, 2, 3] rfl)
          · refine lv_aload_n hx hb d_Det_roomOf_30 rfl (lv_at hl 1 rfl) ?_
            refine va_get (D := (dC, dI)) (ci := 1) (v := .ref (ad 21)) (C := R_Det) (T := F_Det) (N := 4) hx hb hbw in_Det hown hK hP 6 rfl rfl 2 (by decide) (hbw _ w_138) (fun _ h9 => h9) rfl d_Det_roomOf_31 ?_
            refine lv_iload_n hx hb d_Det_roomOf_34 rfl (lv_at hl 0 rfl) ?_
            refine va_iald hx hb hK hP 21 0 rfl rfl (ix_ge hi c_1 hI.2.2.1.2) d_Det_roomOf_35 ?_
            exact W.toX (W.iret (v := (q_tr x) i.toNatClampNeg) hx hb hr (fun t ht hW => ⟨by rw [show f_Det_roomOf x a1 a2 = (q_tr x) i.toNatClampNeg from by rw [hq, if_neg c_1, if_pos c_2, if_pos c_3]], ht⟩) (fun q hq => by cases hq) d_Det_roomOf_36)
  exact loop 101 0 ls (lp_0 (N := 100) hI.2.2.1 (by decide)) (rfl) (lv_sub hl [0, 1, 2, 3] rfl)
def L_Crowd_sum (x : ST) (a1 a2 : Int32) : Nat → Int32 → Int32 → Int32
  | 0, _, _ => 0
  | k + 1, n, i => if (q_pc x) ≤ i then n else (if a1 = (-1) then (if (f_Crowd_isBetween a2 ((q_pa x) i.toNatClampNeg) ((q_pb x) i.toNatClampNeg)) = 0 then L_Crowd_sum x a1 a2 k n (i + 1) else L_Crowd_sum x a1 a2 k (n + ((q_pn x) i.toNatClampNeg)) (i + 1)) else (if ((q_pf x) i.toNatClampNeg) = a1 then (if (f_Crowd_isBetween a2 ((q_pa x) i.toNatClampNeg) ((q_pb x) i.toNatClampNeg)) = 0 then L_Crowd_sum x a1 a2 k n (i + 1) else L_Crowd_sum x a1 a2 k (n + ((q_pn x) i.toNatClampNeg)) (i + 1)) else L_Crowd_sum x a1 a2 k n (i + 1)))
theorem L_Crowd_sum_s (x : ST) (a1 a2 : Int32) (k : Nat) (n i : Int32) : L_Crowd_sum x a1 a2 (k + 1) n i = if (q_pc x) ≤ i then n else (if a1 = (-1) then (if (f_Crowd_isBetween a2 ((q_pa x) i.toNatClampNeg) ((q_pb x) i.toNatClampNeg)) = 0 then L_Crowd_sum x a1 a2 k n (i + 1) else L_Crowd_sum x a1 a2 k (n + ((q_pn x) i.toNatClampNeg)) (i + 1)) else (if ((q_pf x) i.toNatClampNeg) = a1 then (if (f_Crowd_isBetween a2 ((q_pa x) i.toNatClampNeg) ((q_pb x) i.toNatClampNeg)) = 0 then L_Crowd_sum x a1 a2 k n (i + 1) else L_Crowd_sum x a1 a2 k (n + ((q_pn x) i.toNatClampNeg)) (i + 1)) else L_Crowd_sum x a1 a2 k n (i + 1))) := rfl
def f_Crowd_sum (x : ST) (a1 a2 : Int32) : Int32 := L_Crowd_sum x a1 a2 61 0 0
set_option maxHeartbeats 4000000 in
set_option maxRecDepth 100000 in
theorem c_Crowd_sum (l : Launch) (dC : Nat → ClassId) (dI : Nat → Nat → Nat) (cI cZ : ClassId) (ad : Nat → Nat) (x : ST) (hI : CIn x) (a1 a2 : Int32) : MX l y_Crowd_sum (Cond.code y_Crowd_sum b_Crowd_sum 6 (some .int) :: BW) { frames := 1, cells := 0, slots := 0, locals := 23 } (PC (dC, dI) [(cI, .int), (cZ, .boolean)] (wC cI cZ ad x) [.ref (ad 7), .int a1, .int a2]) (PQ (some (.int (f_Crowd_sum x a1 a2)))) 0 0 (fun _ => False) := by
  refine MX.ofW (cc := b_Crowd_sum) (maxL := 6) (ret := (some .int)) (by decide) rfl ?_
  intro p e s m args below meth c s₁ B hml hex hv
  obtain ⟨rfl, hP, hK, hN⟩ := hv
  have hx := B.exec
  have hb := B.bytes
  have hr := B.returns
  have hts := atoms_spec (ws := Cond.code y_Crowd_sum b_Crowd_sum 6 (some .int) :: BW) B.pre
  have hbw : ∀ w ∈ BW, w.before ([.ref (ad 7), .int a1, .int a2]).toArray s = true := fun w h => hts w (List.mem_cons_of_mem _ h)
  have hown : s.vm.findClass "PlanRows$Crowd" = some m.cls := findClass_of_methodNamed B.named
  have hlocks := B.notSynchronized
  have hl := lv_entry ([.ref (ad 7), .int a1, .int a2]) (n := 6) (Nat.le_of_ble_eq_true rfl)
  rw [lg_entry_eq]
  generalize (lg_sl ([.ref (ad 7), .int a1, .int a2]) ++ List.replicate (6 - (lg_sl ([.ref (ad 7), .int a1, .int a2])).length) Slot.unset).toArray = ls at hl ⊢
  have hl : lv_has ls 6 [(0, .ref (ad 7)), (1, .int a1), (2, .int a2)] := hl
  refine lv_iconst (v := 0) hx hb d_Crowd_sum_0 (by decide) ?_
  refine lv_istore_n (lv' := [(3, .int 0), (0, .ref (ad 7)), (1, .int a1), (2, .int a2)]) hx hb d_Crowd_sum_1 rfl hl (by decide) rfl (fun ls hl => ?_)
  refine lv_iconst (v := 0) hx hb d_Crowd_sum_2 (by decide) ?_
  refine lv_istore (lv' := [(4, .int 0), (3, .int 0), (0, .ref (ad 7)), (1, .int a1), (2, .int a2)]) hx hb d_Crowd_sum_3 hl (by decide) rfl (fun ls hl => ?_)
  have loop : ∀ (k : Nat) (n i : Int32) (ls : Array Slot), 0 ≤ i.toInt ∧ i.toInt ≤ (q_pc x).toInt ∧ (q_pc x).toInt - i.toInt < ((k : Nat) : Int) → f_Crowd_sum x a1 a2 = L_Crowd_sum x a1 a2 k n i → lv_has ls 6 [(4, .int i), (3, .int n), (0, .ref (ad 7)), (1, .int a1), (2, .int a2)] → W p l e { frames := 1, cells := 0, slots := 0, locals := 23 } s m ([.ref (ad 7), .int a1, .int a2]).toArray below meth c s.heap [] 0 0 (MQX below (PQ (some (.int (f_Crowd_sum x a1 a2)))) ([.ref (ad 7), .int a1, .int a2]).toArray s 0 0 (fun _ => False)) (F0 m 5 ls []) := by
    intro k
    induction k with
    | zero =>
      intro n i ls hi hq hl
      obtain ⟨h1, h2, h3⟩ := hi
      omega
    | succ k ih =>
      intro n i ls hi hq hl
      have hq := hq.trans (L_Crowd_sum_s x a1 a2 k n i)
      refine lv_iload hx hb d_Crowd_sum_5 (lv_at hl 0 rfl) ?_
      refine lv_aload_n hx hb d_Crowd_sum_7 rfl (lv_at hl 2 rfl) ?_
      refine va_get (D := (dC, dI)) (ci := 0) (v := .int (q_pc x)) (C := R_Crowd) (T := F_Crowd) (N := 5) hx hb hbw in_Crowd hown hK hP 7 rfl rfl 4 (by decide) (hbw _ w_160) (fun _ h9 => h9) rfl d_Crowd_sum_8 ?_
      refine lv_icmp_ge (tgt := 79) hx hb d_Crowd_sum_11 (by decide) (fun c_1 => ?_) (fun c_1 => ?_)
      · refine lv_iload_n hx hb d_Crowd_sum_79 rfl (lv_at hl 1 rfl) ?_
        exact W.toX (W.iret (v := n) hx hb hr (fun t ht hW => ⟨by rw [show f_Crowd_sum x a1 a2 = n from by rw [hq, if_pos c_1]], ht⟩) (fun q hq => by cases hq) d_Crowd_sum_80)
      · refine lv_iload_n hx hb d_Crowd_sum_14 rfl (lv_at hl 3 rfl) ?_
        refine lv_iconst (v := (-1)) hx hb d_Crowd_sum_15 (by decide) ?_
        refine lv_icmp_eq (tgt := 30) hx hb d_Crowd_sum_16 (by decide) (fun c_2 => ?_) (fun c_2 => ?_)
        · refine lv_iconst (v := 1) hx hb d_Crowd_sum_30 (by decide) ?_
          refine lv_goto (tgt := 35) hx hb d_Crowd_sum_31 (by decide) ?_
          refine lv_istore (lv' := [(5, .int 1), (4, .int i), (3, .int n), (0, .ref (ad 7)), (1, .int a1), (2, .int a2)]) hx hb d_Crowd_sum_35 hl (by decide) rfl (fun ls hl => ?_)
          refine lv_iload hx hb d_Crowd_sum_37 (lv_at hl 0 rfl) ?_
          refine lv_if_eq (tgt := 73) hx hb d_Crowd_sum_39 (by decide) (fun c_3 => ?_) (fun c_3 => ?_)
          · exact absurd c_3 (by decide)
          · refine lv_iload_n hx hb d_Crowd_sum_42 rfl (lv_at hl 5 rfl) ?_
            refine lv_aload_n hx hb d_Crowd_sum_43 rfl (lv_at hl 3 rfl) ?_
            refine va_get (D := (dC, dI)) (ci := 0) (v := .ref (ad 23)) (C := R_Crowd) (T := F_Crowd) (N := 5) hx hb hbw in_Crowd hown hK hP 7 rfl rfl 1 (by decide) (hbw _ w_157) (fun _ h9 => h9) rfl d_Crowd_sum_44 ?_
            refine lv_iload hx hb d_Crowd_sum_47 (lv_at hl 1 rfl) ?_
            refine va_iald hx hb hK hP 23 0 rfl rfl (ix_ge hi c_1 hI.2.2.2.1.2) d_Crowd_sum_49 ?_
            refine lv_aload_n hx hb d_Crowd_sum_50 rfl (lv_at hl 3 rfl) ?_
            refine va_get (D := (dC, dI)) (ci := 0) (v := .ref (ad 24)) (C := R_Crowd) (T := F_Crowd) (N := 5) hx hb hbw in_Crowd hown hK hP 7 rfl rfl 2 (by decide) (hbw _ w_158) (fun _ h9 => h9) rfl d_Crowd_sum_51 ?_
            refine lv_iload hx hb d_Crowd_sum_54 (lv_at hl 1 rfl) ?_
            refine va_iald hx hb hK hP 24 0 rfl rfl (ix_ge hi c_1 hI.2.2.2.1.2) d_Crowd_sum_56 ?_
            refine xs (As := [.int a2, .int ((q_pa x) i.toNatClampNeg), .int ((q_pb x) i.toNatClampNeg)]) (rest := []) ⟨hx, hb, hml, hown, hts⟩ (c_Crowd_isBetween l dC dI _ _ a2 ((q_pa x) i.toNatClampNeg) ((q_pb x) i.toNatClampNeg)) (cw_Crowd_28 hts rfl rfl ⟨Nat.le_of_ble_eq_true rfl, Nat.le_of_ble_eq_true rfl⟩) hK hN hP rfl hl.1 rfl (Nat.le_of_ble_eq_true rfl) d_Crowd_sum_57 ⟨Nat.zero_le _, Nat.zero_le _⟩ ?_
            refine lv_if_eq (tgt := 73) hx hb d_Crowd_sum_60 (by decide) (fun c_4 => ?_) (fun c_4 => ?_)
            · refine lv_iinc (v := i + 1) (lv' := [(4, .int (i + 1)), (5, .int 1), (3, .int n), (0, .ref (ad 7)), (1, .int a1), (2, .int a2)]) hx hb d_Crowd_sum_73 hl (k := 1) rfl rfl (by decide) rfl (fun ls hl => ?_)
              refine lv_goto (tgt := 5) hx hb d_Crowd_sum_76 (by decide) ?_
              exact ih n (i + 1) ls (lp_inc hi c_1 hI.2.2.2.1.2 (by decide)) (by rw [hq, if_neg c_1, if_pos c_2, if_pos c_4]) (lv_sub hl [0, 2, 3, 4, 5] rfl)
            · refine lv_iload_n hx hb d_Crowd_sum_63 rfl (lv_at hl 2 rfl) ?_
              refine lv_aload_n hx hb d_Crowd_sum_64 rfl (lv_at hl 3 rfl) ?_
              refine va_get (D := (dC, dI)) (ci := 0) (v := .ref (ad 25)) (C := R_Crowd) (T := F_Crowd) (N := 5) hx hb hbw in_Crowd hown hK hP 7 rfl rfl 3 (by decide) (hbw _ w_159) (fun _ h9 => h9) rfl d_Crowd_sum_65 ?_
              refine lv_iload hx hb d_Crowd_sum_68 (lv_at hl 1 rfl) ?_
              refine va_iald hx hb hK hP 25 0 rfl rfl (ix_ge hi c_1 hI.2.2.2.1.2) d_Crowd_sum_70 ?_
              refine lv_iadd hx hb d_Crowd_sum_71 ?_
              refine lv_istore_n (lv' := [(3, .int (n + ((q_pn x) i.toNatClampNeg))), (5, .int 1), (4, .int i), (0, .ref (ad 7)), (1, .int a1), (2, .int a2)]) hx hb d_Crowd_sum_72 rfl hl (by decide) rfl (fun ls hl => ?_)
              refine lv_iinc (v := i + 1) (lv' := [(4, .int (i + 1)), (3, .int (n + ((q_pn x) i.toNatClampNeg))), (5, .int 1), (0, .ref (ad 7)), (1, .int a1), (2, .int a2)]) hx hb d_Crowd_sum_73 hl (k := 2) rfl rfl (by decide) rfl (fun ls hl => ?_)
              refine lv_goto (tgt := 5) hx hb d_Crowd_sum_76 (by decide) ?_
              exact ih (n + ((q_pn x) i.toNatClampNeg)) (i + 1) ls (lp_inc hi c_1 hI.2.2.2.1.2 (by decide)) (by rw [hq, if_neg c_1, if_pos c_2, if_neg c_4]) (lv_sub hl [0, 1, 3, 4, 5] rfl)
        · refine lv_aload_n hx hb d_Crowd_sum_19 rfl (lv_at hl 2 rfl) ?_
          refine va_get (D := (dC, dI)) (ci := 0) (v := .ref (ad 22)) (C := R_Crowd) (T := F_Crowd) (N := 5) hx hb hbw in_Crowd hown hK hP 7 rfl rfl 0 (by decide) (hbw _ w_156) (fun _ h9 => h9) rfl d_Crowd_sum_20 ?_
          refine lv_iload hx hb d_Crowd_sum_23 (lv_at hl 0 rfl) ?_
          refine va_iald hx hb hK hP 22 0 rfl rfl (ix_ge hi c_1 hI.2.2.2.1.2) d_Crowd_sum_25 ?_
          refine lv_iload_n hx hb d_Crowd_sum_26 rfl (lv_at hl 3 rfl) ?_
          refine lv_icmp_ne (tgt := 34) hx hb d_Crowd_sum_27 (by decide) (fun c_5 => ?_) (fun c_5 => ?_)
          · refine lv_iconst (v := 0) hx hb d_Crowd_sum_34 (by decide) ?_
            refine lv_istore (lv' := [(5, .int 0), (4, .int i), (3, .int n), (0, .ref (ad 7)), (1, .int a1), (2, .int a2)]) hx hb d_Crowd_sum_35 hl (by decide) rfl (fun ls hl => ?_)
            refine lv_iload hx hb d_Crowd_sum_37 (lv_at hl 0 rfl) ?_
            refine lv_if_eq (tgt := 73) hx hb d_Crowd_sum_39 (by decide) (fun c_6 => ?_) (fun c_6 => ?_)
            · refine lv_iinc (v := i + 1) (lv' := [(4, .int (i + 1)), (5, .int 0), (3, .int n), (0, .ref (ad 7)), (1, .int a1), (2, .int a2)]) hx hb d_Crowd_sum_73 hl (k := 1) rfl rfl (by decide) rfl (fun ls hl => ?_)
              refine lv_goto (tgt := 5) hx hb d_Crowd_sum_76 (by decide) ?_
              exact ih n (i + 1) ls (lp_inc hi c_1 hI.2.2.2.1.2 (by decide)) (by rw [hq, if_neg c_1, if_neg c_2, if_neg c_5]) (lv_sub hl [0, 2, 3, 4, 5] rfl)
            · exact absurd c_6 (by decide)
          · refine lv_iconst (v := 1) hx hb d_Crowd_sum_30 (by decide) ?_
            refine lv_goto (tgt := 35) hx hb d_Crowd_sum_31 (by decide) ?_
            refine lv_istore (lv' := [(5, .int 1), (4, .int i), (3, .int n), (0, .ref (ad 7)), (1, .int a1), (2, .int a2)]) hx hb d_Crowd_sum_35 hl (by decide) rfl (fun ls hl => ?_)
            refine lv_iload hx hb d_Crowd_sum_37 (lv_at hl 0 rfl) ?_
            refine lv_if_eq (tgt := 73) hx hb d_Crowd_sum_39 (by decide) (fun c_7 => ?_) (fun c_7 => ?_)
            · exact absurd c_7 (by decide)
            · refine lv_iload_n hx hb d_Crowd_sum_42 rfl (lv_at hl 5 rfl) ?_
              refine lv_aload_n hx hb d_Crowd_sum_43 rfl (lv_at hl 3 rfl) ?_
              refine va_get (D := (dC, dI)) (ci := 0) (v := .ref (ad 23)) (C := R_Crowd) (T := F_Crowd) (N := 5) hx hb hbw in_Crowd hown hK hP 7 rfl rfl 1 (by decide) (hbw _ w_157) (fun _ h9 => h9) rfl d_Crowd_sum_44 ?_
              refine lv_iload hx hb d_Crowd_sum_47 (lv_at hl 1 rfl) ?_
              refine va_iald hx hb hK hP 23 0 rfl rfl (ix_ge hi c_1 hI.2.2.2.1.2) d_Crowd_sum_49 ?_
              refine lv_aload_n hx hb d_Crowd_sum_50 rfl (lv_at hl 3 rfl) ?_
              refine va_get (D := (dC, dI)) (ci := 0) (v := .ref (ad 24)) (C := R_Crowd) (T := F_Crowd) (N := 5) hx hb hbw in_Crowd hown hK hP 7 rfl rfl 2 (by decide) (hbw _ w_158) (fun _ h9 => h9) rfl d_Crowd_sum_51 ?_
              refine lv_iload hx hb d_Crowd_sum_54 (lv_at hl 1 rfl) ?_
              refine va_iald hx hb hK hP 24 0 rfl rfl (ix_ge hi c_1 hI.2.2.2.1.2) d_Crowd_sum_56 ?_
              refine xs (As := [.int a2, .int ((q_pa x) i.toNatClampNeg), .int ((q_pb x) i.toNatClampNeg)]) (rest := []) ⟨hx, hb, hml, hown, hts⟩ (c_Crowd_isBetween l dC dI _ _ a2 ((q_pa x) i.toNatClampNeg) ((q_pb x) i.toNatClampNeg)) (cw_Crowd_28 hts rfl rfl ⟨Nat.le_of_ble_eq_true rfl, Nat.le_of_ble_eq_true rfl⟩) hK hN hP rfl hl.1 rfl (Nat.le_of_ble_eq_true rfl) d_Crowd_sum_57 ⟨Nat.zero_le _, Nat.zero_le _⟩ ?_
              refine lv_if_eq (tgt := 73) hx hb d_Crowd_sum_60 (by decide) (fun c_8 => ?_) (fun c_8 => ?_)
              · refine lv_iinc (v := i + 1) (lv' := [(4, .int (i + 1)), (5, .int 1), (3, .int n), (0, .ref (ad 7)), (1, .int a1), (2, .int a2)]) hx hb d_Crowd_sum_73 hl (k := 1) rfl rfl (by decide) rfl (fun ls hl => ?_)
                refine lv_goto (tgt := 5) hx hb d_Crowd_sum_76 (by decide) ?_
                exact ih n (i + 1) ls (lp_inc hi c_1 hI.2.2.2.1.2 (by decide)) (by rw [hq, if_neg c_1, if_neg c_2, if_pos c_5, if_pos c_8]) (lv_sub hl [0, 2, 3, 4, 5] rfl)
              · refine lv_iload_n hx hb d_Crowd_sum_63 rfl (lv_at hl 2 rfl) ?_
                refine lv_aload_n hx hb d_Crowd_sum_64 rfl (lv_at hl 3 rfl) ?_
                refine va_get (D := (dC, dI)) (ci := 0) (v := .ref (ad 25)) (C := R_Crowd) (T := F_Crowd) (N := 5) hx hb hbw in_Crowd hown hK hP 7 rfl rfl 3 (by decide) (hbw _ w_159) (fun _ h9 => h9) rfl d_Crowd_sum_65 ?_
                refine lv_iload hx hb d_Crowd_sum_68 (lv_at hl 1 rfl) ?_
                refine va_iald hx hb hK hP 25 0 rfl rfl (ix_ge hi c_1 hI.2.2.2.1.2) d_Crowd_sum_70 ?_
                refine lv_iadd hx hb d_Crowd_sum_71 ?_
                refine lv_istore_n (lv' := [(3, .int (n + ((q_pn x) i.toNatClampNeg))), (5, .int 1), (4, .int i), (0, .ref (ad 7)), (1, .int a1), (2, .int a2)]) hx hb d_Crowd_sum_72 rfl hl (by decide) rfl (fun ls hl => ?_)
                refine lv_iinc (v := i + 1) (lv' := [(4, .int (i + 1)), (3, .int (n + ((q_pn x) i.toNatClampNeg))), (5, .int 1), (0, .ref (ad 7)), (1, .int a1), (2, .int a2)]) hx hb d_Crowd_sum_73 hl (k := 2) rfl rfl (by decide) rfl (fun ls hl => ?_)
                refine lv_goto (tgt := 5) hx hb d_Crowd_sum_76 (by decide) ?_
                exact ih (n + ((q_pn x) i.toNatClampNeg)) (i + 1) ls (lp_inc hi c_1 hI.2.2.2.1.2 (by decide)) (by rw [hq, if_neg c_1, if_neg c_2, if_pos c_5, if_neg c_8]) (lv_sub hl [0, 1, 3, 4, 5] rfl)
  exact loop 61 0 0 ls (lp_0 (N := 60) hI.2.2.2.1 (by decide)) (rfl) (lv_sub hl [0, 1, 2, 3, 4] rfl)
def L_Search_nearestOf (x : ST) (a1 : Int32) : Nat → Int32 → Int32 → Int32 → Int32
  | 0, _, _, _ => 0
  | k + 1, bst, lst, i => if (q_rn x) ≤ i then bst else (if (f_Rooms_isOfKind x i a1) = 0 then L_Search_nearestOf x a1 k bst lst (i + 1) else (if lst ≤ ((q_co x) i.toNatClampNeg) then L_Search_nearestOf x a1 k bst lst (i + 1) else L_Search_nearestOf x a1 k i ((q_co x) i.toNatClampNeg) (i + 1)))
theorem L_Search_nearestOf_s (x : ST) (a1 : Int32) (k : Nat) (bst lst i : Int32) : L_Search_nearestOf x a1 (k + 1) bst lst i = if (q_rn x) ≤ i then bst else (if (f_Rooms_isOfKind x i a1) = 0 then L_Search_nearestOf x a1 k bst lst (i + 1) else (if lst ≤ ((q_co x) i.toNatClampNeg) then L_Search_nearestOf x a1 k bst lst (i + 1) else L_Search_nearestOf x a1 k i ((q_co x) i.toNatClampNeg) (i + 1))) := rfl
def f_Search_nearestOf (x : ST) (a1 : Int32) : Int32 := L_Search_nearestOf x a1 41 (-1) 1000000000 0
set_option maxHeartbeats 4000000 in
set_option maxRecDepth 100000 in
theorem c_Search_nearestOf (l : Launch) (dC : Nat → ClassId) (dI : Nat → Nat → Nat) (cI cZ : ClassId) (ad : Nat → Nat) (x : ST) (hI : CIn x) (a1 : Int32) : MX l y_Search_nearestOf (Cond.code y_Search_nearestOf b_Search_nearestOf 5 (some .int) :: BW) { frames := 2, cells := 0, slots := 0, locals := 43 } (PC (dC, dI) [(cI, .int), (cZ, .boolean)] (wC cI cZ ad x) [.ref (ad 4), .int a1]) (PQ (some (.int (f_Search_nearestOf x a1)))) 0 0 (fun _ => False) := by
  refine MX.ofW (cc := b_Search_nearestOf) (maxL := 5) (ret := (some .int)) (by decide) rfl ?_
  intro p e s m args below meth c s₁ B hml hex hv
  obtain ⟨rfl, hP, hK, hN⟩ := hv
  have hx := B.exec
  have hb := B.bytes
  have hr := B.returns
  have hts := atoms_spec (ws := Cond.code y_Search_nearestOf b_Search_nearestOf 5 (some .int) :: BW) B.pre
  have hbw : ∀ w ∈ BW, w.before ([.ref (ad 4), .int a1]).toArray s = true := fun w h => hts w (List.mem_cons_of_mem _ h)
  have hown : s.vm.findClass "PlanRows$Search" = some m.cls := findClass_of_methodNamed B.named
  have hlocks := B.notSynchronized
  have hl := lv_entry ([.ref (ad 4), .int a1]) (n := 5) (Nat.le_of_ble_eq_true rfl)
  rw [lg_entry_eq]
  generalize (lg_sl ([.ref (ad 4), .int a1]) ++ List.replicate (5 - (lg_sl ([.ref (ad 4), .int a1])).length) Slot.unset).toArray = ls at hl ⊢
  have hl : lv_has ls 5 [(0, .ref (ad 4)), (1, .int a1)] := hl
  refine lv_iconst (v := (-1)) hx hb d_Search_nearestOf_0 (by decide) ?_
  refine lv_istore_n (lv' := [(2, .int (-1)), (0, .ref (ad 4)), (1, .int a1)]) hx hb d_Search_nearestOf_1 rfl hl (by decide) rfl (fun ls hl => ?_)
  refine lv_ldc (v := 1000000000) hx hb hown (hbw _ w_436) d_Search_nearestOf_2 ?_
  refine lv_istore_n (lv' := [(3, .int 1000000000), (2, .int (-1)), (0, .ref (ad 4)), (1, .int a1)]) hx hb d_Search_nearestOf_4 rfl hl (by decide) rfl (fun ls hl => ?_)
  refine lv_iconst (v := 0) hx hb d_Search_nearestOf_5 (by decide) ?_
  refine lv_istore (lv' := [(4, .int 0), (3, .int 1000000000), (2, .int (-1)), (0, .ref (ad 4)), (1, .int a1)]) hx hb d_Search_nearestOf_6 hl (by decide) rfl (fun ls hl => ?_)
  have loop : ∀ (k : Nat) (bst lst i : Int32) (ls : Array Slot), 0 ≤ i.toInt ∧ i.toInt ≤ (q_rn x).toInt ∧ (q_rn x).toInt - i.toInt < ((k : Nat) : Int) → f_Search_nearestOf x a1 = L_Search_nearestOf x a1 k bst lst i → lv_has ls 5 [(4, .int i), (3, .int lst), (2, .int bst), (0, .ref (ad 4)), (1, .int a1)] → W p l e { frames := 2, cells := 0, slots := 0, locals := 43 } s m ([.ref (ad 4), .int a1]).toArray below meth c s.heap [] 0 0 (MQX below (PQ (some (.int (f_Search_nearestOf x a1)))) ([.ref (ad 4), .int a1]).toArray s 0 0 (fun _ => False)) (F0 m 8 ls []) := by
    intro k
    induction k with
    | zero =>
      intro bst lst i ls hi hq hl
      obtain ⟨h1, h2, h3⟩ := hi
      omega
    | succ k ih =>
      intro bst lst i ls hi hq hl
      have hq := hq.trans (L_Search_nearestOf_s x a1 k bst lst i)
      refine lv_iload hx hb d_Search_nearestOf_8 (lv_at hl 0 rfl) ?_
      refine lv_aload_n hx hb d_Search_nearestOf_10 rfl (lv_at hl 3 rfl) ?_
      refine va_get (D := (dC, dI)) (ci := 6) (v := .ref (ad 1)) (C := R_Search) (T := F_Search) (N := 4) hx hb hbw in_Search hown hK hP 4 rfl rfl 0 (by decide) (hbw _ w_95) (fun _ h9 => h9) rfl d_Search_nearestOf_11 ?_
      refine va_getN (D := (dC, dI)) (ci := 4) (v := .int (q_rn x)) (C := R_Rooms) (T := F_Rooms) (N := 4) hx hb hbw in_Rooms hown hK hP 1 rfl rfl 3 (by decide) (va_Nw.use rfl (hN _ nw_1)) (fun _ h9 => h9) rfl d_Search_nearestOf_14 ?_
      refine lv_icmp_ge (tgt := 61) hx hb d_Search_nearestOf_17 (by decide) (fun c_1 => ?_) (fun c_1 => ?_)
      · refine lv_iload_n hx hb d_Search_nearestOf_61 rfl (lv_at hl 2 rfl) ?_
        exact W.toX (W.iret (v := bst) hx hb hr (fun t ht hW => ⟨by rw [show f_Search_nearestOf x a1 = bst from by rw [hq, if_pos c_1]], ht⟩) (fun q hq => by cases hq) d_Search_nearestOf_62)
      · refine lv_aload_n hx hb d_Search_nearestOf_20 rfl (lv_at hl 3 rfl) ?_
        refine va_get (D := (dC, dI)) (ci := 6) (v := .ref (ad 1)) (C := R_Search) (T := F_Search) (N := 4) hx hb hbw in_Search hown hK hP 4 rfl rfl 0 (by decide) (hbw _ w_95) (fun _ h9 => h9) rfl d_Search_nearestOf_21 ?_
        refine lv_iload hx hb d_Search_nearestOf_24 (lv_at hl 0 rfl) ?_
        refine lv_iload_n hx hb d_Search_nearestOf_26 rfl (lv_at hl 4 rfl) ?_
        refine xv (As := [.int i, .int a1]) (rest := []) (C := "PlanRows$Rooms") ⟨hx, hb, hml, hown, hts⟩ (c_Rooms_isOfKind l dC dI cI cZ ad x hI i a1) (cw_Search_44 hts rfl rfl ⟨Nat.le_of_ble_eq_true rfl, Nat.le_of_ble_eq_true rfl⟩) hK hN hP 1 rfl rfl rfl rfl hl.1 rfl (Nat.le_of_ble_eq_true rfl) d_Search_nearestOf_27 ⟨Nat.zero_le _, Nat.zero_le _⟩ ?_
        refine lv_if_eq (tgt := 55) hx hb d_Search_nearestOf_30 (by decide) (fun c_2 => ?_) (fun c_2 => ?_)
        · refine lv_iinc (v := i + 1) (lv' := [(4, .int (i + 1)), (3, .int lst), (2, .int bst), (0, .ref (ad 4)), (1, .int a1)]) hx hb d_Search_nearestOf_55 hl (k := 0) rfl rfl (by decide) rfl (fun ls hl => ?_)
          refine lv_goto (tgt := 8) hx hb d_Search_nearestOf_58 (by decide) ?_
          exact ih bst lst (i + 1) ls (lp_inc hi c_1 hI.1.2 (by decide)) (by rw [hq, if_neg c_1, if_pos c_2]) (lv_sub hl [0, 1, 2, 3, 4] rfl)
        · refine lv_aload_n hx hb d_Search_nearestOf_33 rfl (lv_at hl 3 rfl) ?_
          refine va_get (D := (dC, dI)) (ci := 6) (v := .ref (ad 17)) (C := R_Search) (T := F_Search) (N := 4) hx hb hbw in_Search hown hK hP 4 rfl rfl 3 (by decide) (hbw _ w_98) (fun _ h9 => h9) rfl d_Search_nearestOf_34 ?_
          refine lv_iload hx hb d_Search_nearestOf_37 (lv_at hl 0 rfl) ?_
          refine va_iald hx hb hK hP 17 0 rfl rfl (ix_ge hi c_1 hI.1.2) d_Search_nearestOf_39 ?_
          refine lv_iload_n hx hb d_Search_nearestOf_40 rfl (lv_at hl 1 rfl) ?_
          refine lv_icmp_ge (tgt := 55) hx hb d_Search_nearestOf_41 (by decide) (fun c_3 => ?_) (fun c_3 => ?_)
          · refine lv_iinc (v := i + 1) (lv' := [(4, .int (i + 1)), (3, .int lst), (2, .int bst), (0, .ref (ad 4)), (1, .int a1)]) hx hb d_Search_nearestOf_55 hl (k := 0) rfl rfl (by decide) rfl (fun ls hl => ?_)
            refine lv_goto (tgt := 8) hx hb d_Search_nearestOf_58 (by decide) ?_
            exact ih bst lst (i + 1) ls (lp_inc hi c_1 hI.1.2 (by decide)) (by rw [hq, if_neg c_1, if_neg c_2, if_pos c_3]) (lv_sub hl [0, 1, 2, 3, 4] rfl)
          · refine lv_iload hx hb d_Search_nearestOf_44 (lv_at hl 0 rfl) ?_
            refine lv_istore_n (lv' := [(2, .int i), (4, .int i), (3, .int lst), (0, .ref (ad 4)), (1, .int a1)]) hx hb d_Search_nearestOf_46 rfl hl (by decide) rfl (fun ls hl => ?_)
            refine lv_aload_n hx hb d_Search_nearestOf_47 rfl (lv_at hl 3 rfl) ?_
            refine va_get (D := (dC, dI)) (ci := 6) (v := .ref (ad 17)) (C := R_Search) (T := F_Search) (N := 4) hx hb hbw in_Search hown hK hP 4 rfl rfl 3 (by decide) (hbw _ w_98) (fun _ h9 => h9) rfl d_Search_nearestOf_48 ?_
            refine lv_iload hx hb d_Search_nearestOf_51 (lv_at hl 1 rfl) ?_
            refine va_iald hx hb hK hP 17 0 rfl rfl (ix_ge hi c_1 hI.1.2) d_Search_nearestOf_53 ?_
            refine lv_istore_n (lv' := [(3, .int ((q_co x) i.toNatClampNeg)), (2, .int i), (4, .int i), (0, .ref (ad 4)), (1, .int a1)]) hx hb d_Search_nearestOf_54 rfl hl (by decide) rfl (fun ls hl => ?_)
            refine lv_iinc (v := i + 1) (lv' := [(4, .int (i + 1)), (3, .int ((q_co x) i.toNatClampNeg)), (2, .int i), (0, .ref (ad 4)), (1, .int a1)]) hx hb d_Search_nearestOf_55 hl (k := 2) rfl rfl (by decide) rfl (fun ls hl => ?_)
            refine lv_goto (tgt := 8) hx hb d_Search_nearestOf_58 (by decide) ?_
            exact ih i ((q_co x) i.toNatClampNeg) (i + 1) ls (lp_inc hi c_1 hI.1.2 (by decide)) (by rw [hq, if_neg c_1, if_neg c_2, if_neg c_3]) (lv_sub hl [0, 1, 2, 3, 4] rfl)
  exact loop 41 (-1) 1000000000 0 ls (lp_0 (N := 40) hI.1 (by decide)) (rfl) (lv_sub hl [0, 1, 2, 3, 4] rfl)
def L_Search_unreachedAt (x : ST) (a1 : Int32) : Nat → Int32 → Int32 → Int32
  | 0, _, _ => 0
  | k + 1, lft, i => if (q_rn x) ≤ i then (-1) else (if (f_Search_isReached x i) = 0 then (if lft = 0 then i else L_Search_unreachedAt x a1 k (lft + (-1)) (i + 1)) else L_Search_unreachedAt x a1 k lft (i + 1))
theorem L_Search_unreachedAt_s (x : ST) (a1 : Int32) (k : Nat) (lft i : Int32) : L_Search_unreachedAt x a1 (k + 1) lft i = if (q_rn x) ≤ i then (-1) else (if (f_Search_isReached x i) = 0 then (if lft = 0 then i else L_Search_unreachedAt x a1 k (lft + (-1)) (i + 1)) else L_Search_unreachedAt x a1 k lft (i + 1)) := rfl
def f_Search_unreachedAt (x : ST) (a1 : Int32) : Int32 := L_Search_unreachedAt x a1 41 a1 0
set_option maxHeartbeats 4000000 in
set_option maxRecDepth 100000 in
theorem c_Search_unreachedAt (l : Launch) (dC : Nat → ClassId) (dI : Nat → Nat → Nat) (cI cZ : ClassId) (ad : Nat → Nat) (x : ST) (hI : CIn x) (a1 : Int32) : MX l y_Search_unreachedAt (Cond.code y_Search_unreachedAt b_Search_unreachedAt 4 (some .int) :: BW) { frames := 2, cells := 0, slots := 0, locals := 42 } (PC (dC, dI) [(cI, .int), (cZ, .boolean)] (wC cI cZ ad x) [.ref (ad 4), .int a1]) (PQ (some (.int (f_Search_unreachedAt x a1)))) 0 0 (fun _ => False) := by
  refine MX.ofW (cc := b_Search_unreachedAt) (maxL := 4) (ret := (some .int)) (by decide) rfl ?_
  intro p e s m args below meth c s₁ B hml hex hv
  obtain ⟨rfl, hP, hK, hN⟩ := hv
  have hx := B.exec
  have hb := B.bytes
  have hr := B.returns
  have hts := atoms_spec (ws := Cond.code y_Search_unreachedAt b_Search_unreachedAt 4 (some .int) :: BW) B.pre
  have hbw : ∀ w ∈ BW, w.before ([.ref (ad 4), .int a1]).toArray s = true := fun w h => hts w (List.mem_cons_of_mem _ h)
  have hown : s.vm.findClass "PlanRows$Search" = some m.cls := findClass_of_methodNamed B.named
  have hlocks := B.notSynchronized
  have hl := lv_entry ([.ref (ad 4), .int a1]) (n := 4) (Nat.le_of_ble_eq_true rfl)
  rw [lg_entry_eq]
  generalize (lg_sl ([.ref (ad 4), .int a1]) ++ List.replicate (4 - (lg_sl ([.ref (ad 4), .int a1])).length) Slot.unset).toArray = ls at hl ⊢
  have hl : lv_has ls 4 [(0, .ref (ad 4)), (1, .int a1)] := hl
  refine lv_iload_n hx hb d_Search_unreachedAt_0 rfl (lv_at hl 1 rfl) ?_
  refine lv_istore_n (lv' := [(2, .int a1), (0, .ref (ad 4)), (1, .int a1)]) hx hb d_Search_unreachedAt_1 rfl hl (by decide) rfl (fun ls hl => ?_)
  refine lv_iconst (v := 0) hx hb d_Search_unreachedAt_2 (by decide) ?_
  refine lv_istore_n (lv' := [(3, .int 0), (2, .int a1), (0, .ref (ad 4)), (1, .int a1)]) hx hb d_Search_unreachedAt_3 rfl hl (by decide) rfl (fun ls hl => ?_)
  have loop : ∀ (k : Nat) (lft i : Int32) (ls : Array Slot), 0 ≤ i.toInt ∧ i.toInt ≤ (q_rn x).toInt ∧ (q_rn x).toInt - i.toInt < ((k : Nat) : Int) → f_Search_unreachedAt x a1 = L_Search_unreachedAt x a1 k lft i → lv_has ls 4 [(3, .int i), (2, .int lft), (0, .ref (ad 4)), (1, .int a1)] → W p l e { frames := 2, cells := 0, slots := 0, locals := 42 } s m ([.ref (ad 4), .int a1]).toArray below meth c s.heap [] 0 0 (MQX below (PQ (some (.int (f_Search_unreachedAt x a1)))) ([.ref (ad 4), .int a1]).toArray s 0 0 (fun _ => False)) (F0 m 4 ls []) := by
    intro k
    induction k with
    | zero =>
      intro lft i ls hi hq hl
      obtain ⟨h1, h2, h3⟩ := hi
      omega
    | succ k ih =>
      intro lft i ls hi hq hl
      have hq := hq.trans (L_Search_unreachedAt_s x a1 k lft i)
      refine lv_iload_n hx hb d_Search_unreachedAt_4 rfl (lv_at hl 0 rfl) ?_
      refine lv_aload_n hx hb d_Search_unreachedAt_5 rfl (lv_at hl 2 rfl) ?_
      refine va_get (D := (dC, dI)) (ci := 6) (v := .ref (ad 1)) (C := R_Search) (T := F_Search) (N := 4) hx hb hbw in_Search hown hK hP 4 rfl rfl 0 (by decide) (hbw _ w_95) (fun _ h9 => h9) rfl d_Search_unreachedAt_6 ?_
      refine va_getN (D := (dC, dI)) (ci := 4) (v := .int (q_rn x)) (C := R_Rooms) (T := F_Rooms) (N := 4) hx hb hbw in_Rooms hown hK hP 1 rfl rfl 3 (by decide) (va_Nw.use rfl (hN _ nw_1)) (fun _ h9 => h9) rfl d_Search_unreachedAt_9 ?_
      refine lv_icmp_ge (tgt := 38) hx hb d_Search_unreachedAt_12 (by decide) (fun c_1 => ?_) (fun c_1 => ?_)
      · refine lv_iconst (v := (-1)) hx hb d_Search_unreachedAt_38 (by decide) ?_
        exact W.toX (W.iret (v := (-1)) hx hb hr (fun t ht hW => ⟨by rw [show f_Search_unreachedAt x a1 = (-1) from by rw [hq, if_pos c_1]], ht⟩) (fun q hq => by cases hq) d_Search_unreachedAt_39)
      · refine lv_aload_n hx hb d_Search_unreachedAt_15 rfl (lv_at hl 2 rfl) ?_
        refine lv_iload_n hx hb d_Search_unreachedAt_16 rfl (lv_at hl 0 rfl) ?_
        refine xv (As := [.int i]) (rest := []) (C := "PlanRows$Search") ⟨hx, hb, hml, hown, hts⟩ (c_Search_isReached l dC dI cI cZ ad x hI i) (cw_Search_74 hts rfl rfl ⟨Nat.le_of_ble_eq_true rfl, Nat.le_of_ble_eq_true rfl⟩) hK hN hP 4 rfl rfl rfl rfl hl.1 rfl (Nat.le_of_ble_eq_true rfl) d_Search_unreachedAt_17 ⟨Nat.zero_le _, Nat.zero_le _⟩ ?_
        refine lv_if_ne (tgt := 32) hx hb d_Search_unreachedAt_20 (by decide) (fun c_2 => ?_) (fun c_2 => ?_)
        · refine lv_iinc (v := i + 1) (lv' := [(3, .int (i + 1)), (2, .int lft), (0, .ref (ad 4)), (1, .int a1)]) hx hb d_Search_unreachedAt_32 hl (k := 0) rfl rfl (by decide) rfl (fun ls hl => ?_)
          refine lv_goto (tgt := 4) hx hb d_Search_unreachedAt_35 (by decide) ?_
          exact ih lft (i + 1) ls (lp_inc hi c_1 hI.1.2 (by decide)) (by rw [hq, if_neg c_1, if_neg c_2]) (lv_sub hl [0, 1, 2, 3] rfl)
        · refine lv_iload_n hx hb d_Search_unreachedAt_23 rfl (lv_at hl 1 rfl) ?_
          refine lv_if_ne (tgt := 29) hx hb d_Search_unreachedAt_24 (by decide) (fun c_3 => ?_) (fun c_3 => ?_)
          · refine lv_iinc (v := lft + (-1)) (lv' := [(2, .int (lft + (-1))), (3, .int i), (0, .ref (ad 4)), (1, .int a1)]) hx hb d_Search_unreachedAt_29 hl (k := 1) rfl rfl (by decide) rfl (fun ls hl => ?_)
            refine lv_iinc (v := i + 1) (lv' := [(3, .int (i + 1)), (2, .int (lft + (-1))), (0, .ref (ad 4)), (1, .int a1)]) hx hb d_Search_unreachedAt_32 hl (k := 1) rfl rfl (by decide) rfl (fun ls hl => ?_)
            refine lv_goto (tgt := 4) hx hb d_Search_unreachedAt_35 (by decide) ?_
            exact ih (lft + (-1)) (i + 1) ls (lp_inc hi c_1 hI.1.2 (by decide)) (by rw [hq, if_neg c_1, if_pos c_2, if_neg c_3]) (lv_sub hl [0, 1, 2, 3] rfl)
          · refine lv_iload_n hx hb d_Search_unreachedAt_27 rfl (lv_at hl 0 rfl) ?_
            exact W.toX (W.iret (v := i) hx hb hr (fun t ht hW => ⟨by rw [show f_Search_unreachedAt x a1 = i from by rw [hq, if_neg c_1, if_pos c_2, if_pos c_3]], ht⟩) (fun q hq => by cases hq) d_Search_unreachedAt_28)
  exact loop 41 a1 0 ls (lp_0 (N := 40) hI.1 (by decide)) (rfl) (lv_sub hl [0, 1, 2, 3] rfl)
def L_Search_lowestDoorInto (x : ST) (a1 : Int32) : Nat → Int32 → Int32
  | 0, _ => 0
  | k + 1, i => if (q_dn x) ≤ i then (-1) else (if (f_Search_isPassed x i) = 0 then L_Search_lowestDoorInto x a1 k (i + 1) else (if (f_Search_isReached x (f_Doors_roomBehind x i a1)) = 0 then L_Search_lowestDoorInto x a1 k (i + 1) else (if (((q_co x) (f_Doors_roomBehind x i a1).toNatClampNeg) + (f_Doors_costOf x i)) = ((q_co x) a1.toNatClampNeg) then i else L_Search_lowestDoorInto x a1 k (i + 1))))
theorem L_Search_lowestDoorInto_s (x : ST) (a1 : Int32) (k : Nat) (i : Int32) : L_Search_lowestDoorInto x a1 (k + 1) i = if (q_dn x) ≤ i then (-1) else (if (f_Search_isPassed x i) = 0 then L_Search_lowestDoorInto x a1 k (i + 1) else (if (f_Search_isReached x (f_Doors_roomBehind x i a1)) = 0 then L_Search_lowestDoorInto x a1 k (i + 1) else (if (((q_co x) (f_Doors_roomBehind x i a1).toNatClampNeg) + (f_Doors_costOf x i)) = ((q_co x) a1.toNatClampNeg) then i else L_Search_lowestDoorInto x a1 k (i + 1)))) := rfl
def f_Search_lowestDoorInto (x : ST) (a1 : Int32) : Int32 := if (f_Search_isReached x a1) = 0 then (-1) else L_Search_lowestDoorInto x a1 81 0
set_option maxHeartbeats 4000000 in
set_option maxRecDepth 100000 in
theorem c_Search_lowestDoorInto (l : Launch) (dC : Nat → ClassId) (dI : Nat → Nat → Nat) (cI cZ : ClassId) (ad : Nat → Nat) (x : ST) (hI : CIn x) (a1 : Int32) : MX l y_Search_lowestDoorInto (Cond.code y_Search_lowestDoorInto b_Search_lowestDoorInto 4 (some .int) :: BW) { frames := 3, cells := 0, slots := 0, locals := 64 } (PC (dC, dI) [(cI, .int), (cZ, .boolean)] (wC cI cZ ad x) [.ref (ad 4), .int a1]) (PQ (some (.int (f_Search_lowestDoorInto x a1)))) 0 0 (fun _ => False) := by
  refine MX.ofW (cc := b_Search_lowestDoorInto) (maxL := 4) (ret := (some .int)) (by decide) rfl ?_
  intro p e s m args below meth c s₁ B hml hex hv
  obtain ⟨rfl, hP, hK, hN⟩ := hv
  have hx := B.exec
  have hb := B.bytes
  have hr := B.returns
  have hts := atoms_spec (ws := Cond.code y_Search_lowestDoorInto b_Search_lowestDoorInto 4 (some .int) :: BW) B.pre
  have hbw : ∀ w ∈ BW, w.before ([.ref (ad 4), .int a1]).toArray s = true := fun w h => hts w (List.mem_cons_of_mem _ h)
  have hown : s.vm.findClass "PlanRows$Search" = some m.cls := findClass_of_methodNamed B.named
  have hlocks := B.notSynchronized
  have hl := lv_entry ([.ref (ad 4), .int a1]) (n := 4) (Nat.le_of_ble_eq_true rfl)
  rw [lg_entry_eq]
  generalize (lg_sl ([.ref (ad 4), .int a1]) ++ List.replicate (4 - (lg_sl ([.ref (ad 4), .int a1])).length) Slot.unset).toArray = ls at hl ⊢
  have hl : lv_has ls 4 [(0, .ref (ad 4)), (1, .int a1)] := hl
  refine lv_aload_n hx hb d_Search_lowestDoorInto_0 rfl (lv_at hl 0 rfl) ?_
  refine lv_iload_n hx hb d_Search_lowestDoorInto_1 rfl (lv_at hl 1 rfl) ?_
  refine xv (As := [.int a1]) (rest := []) (C := "PlanRows$Search") ⟨hx, hb, hml, hown, hts⟩ (c_Search_isReached l dC dI cI cZ ad x hI a1) (cw_Search_74 hts rfl rfl ⟨Nat.le_of_ble_eq_true rfl, Nat.le_of_ble_eq_true rfl⟩) hK hN hP 4 rfl rfl rfl rfl hl.1 rfl (Nat.le_of_ble_eq_true rfl) d_Search_lowestDoorInto_2 ⟨Nat.zero_le _, Nat.zero_le _⟩ ?_
  refine lv_if_ne (tgt := 10) hx hb d_Search_lowestDoorInto_5 (by decide) (fun c_1 => ?_) (fun c_1 => ?_)
  · refine lv_iconst (v := 0) hx hb d_Search_lowestDoorInto_10 (by decide) ?_
    refine lv_istore_n (lv' := [(2, .int 0), (0, .ref (ad 4)), (1, .int a1)]) hx hb d_Search_lowestDoorInto_11 rfl hl (by decide) rfl (fun ls hl => ?_)
    have loop : ∀ (k : Nat) (i : Int32) (ls : Array Slot), 0 ≤ i.toInt ∧ i.toInt ≤ (q_dn x).toInt ∧ (q_dn x).toInt - i.toInt < ((k : Nat) : Int) → f_Search_lowestDoorInto x a1 = L_Search_lowestDoorInto x a1 k i → lv_has ls 4 [(2, .int i), (0, .ref (ad 4)), (1, .int a1)] → W p l e { frames := 3, cells := 0, slots := 0, locals := 64 } s m ([.ref (ad 4), .int a1]).toArray below meth c s.heap [] 0 0 (MQX below (PQ (some (.int (f_Search_lowestDoorInto x a1)))) ([.ref (ad 4), .int a1]).toArray s 0 0 (fun _ => False)) (F0 m 12 ls []) := by
      intro k
      induction k with
      | zero =>
        intro i ls hi hq hl
        obtain ⟨h1, h2, h3⟩ := hi
        omega
      | succ k ih =>
        intro i ls hi hq hl
        have hq := hq.trans (L_Search_lowestDoorInto_s x a1 k i)
        refine lv_iload_n hx hb d_Search_lowestDoorInto_12 rfl (lv_at hl 0 rfl) ?_
        refine lv_aload_n hx hb d_Search_lowestDoorInto_13 rfl (lv_at hl 1 rfl) ?_
        refine va_get (D := (dC, dI)) (ci := 6) (v := .ref (ad 2)) (C := R_Search) (T := F_Search) (N := 4) hx hb hbw in_Search hown hK hP 4 rfl rfl 1 (by decide) (hbw _ w_96) (fun _ h9 => h9) rfl d_Search_lowestDoorInto_14 ?_
        refine va_getN (D := (dC, dI)) (ci := 2) (v := .int (q_dn x)) (C := R_Doors) (T := F_Doors) (N := 5) hx hb hbw in_Doors hown hK hP 2 rfl rfl 4 (by decide) (va_Nw.use rfl (hN _ nw_4)) (fun _ h9 => h9) rfl d_Search_lowestDoorInto_17 ?_
        refine lv_icmp_ge (tgt := 81) hx hb d_Search_lowestDoorInto_20 (by decide) (fun c_2 => ?_) (fun c_2 => ?_)
        · refine lv_iconst (v := (-1)) hx hb d_Search_lowestDoorInto_81 (by decide) ?_
          exact W.toX (W.iret (v := (-1)) hx hb hr (fun t ht hW => ⟨by rw [show f_Search_lowestDoorInto x a1 = (-1) from by rw [hq, if_pos c_2]], ht⟩) (fun q hq => by cases hq) d_Search_lowestDoorInto_82)
        · refine lv_aload_n hx hb d_Search_lowestDoorInto_23 rfl (lv_at hl 1 rfl) ?_
          refine va_get (D := (dC, dI)) (ci := 6) (v := .ref (ad 2)) (C := R_Search) (T := F_Search) (N := 4) hx hb hbw in_Search hown hK hP 4 rfl rfl 1 (by decide) (hbw _ w_96) (fun _ h9 => h9) rfl d_Search_lowestDoorInto_24 ?_
          refine lv_iload_n hx hb d_Search_lowestDoorInto_27 rfl (lv_at hl 0 rfl) ?_
          refine lv_iload_n hx hb d_Search_lowestDoorInto_28 rfl (lv_at hl 2 rfl) ?_
          refine xv (As := [.int i, .int a1]) (rest := []) (C := "PlanRows$Doors") ⟨hx, hb, hml, hown, hts⟩ (c_Doors_roomBehind l dC dI cI cZ ad x hI i a1) (cw_Search_104 hts rfl rfl ⟨Nat.le_of_ble_eq_true rfl, Nat.le_of_ble_eq_true rfl⟩) hK hN hP 2 rfl rfl rfl rfl hl.1 rfl (Nat.le_of_ble_eq_true rfl) d_Search_lowestDoorInto_29 ⟨Nat.zero_le _, Nat.zero_le _⟩ ?_
          refine lv_istore_n (lv' := [(3, .int (f_Doors_roomBehind x i a1)), (2, .int i), (0, .ref (ad 4)), (1, .int a1)]) hx hb d_Search_lowestDoorInto_32 rfl hl (by decide) rfl (fun ls hl => ?_)
          refine lv_aload_n hx hb d_Search_lowestDoorInto_33 rfl (lv_at hl 2 rfl) ?_
          refine lv_iload_n hx hb d_Search_lowestDoorInto_34 rfl (lv_at hl 1 rfl) ?_
          refine xv (As := [.int i]) (rest := []) (C := "PlanRows$Search") ⟨hx, hb, hml, hown, hts⟩ (c_Search_isPassed l dC dI cI cZ ad x hI i) (cw_Search_57 hts rfl rfl ⟨Nat.le_of_ble_eq_true rfl, Nat.le_of_ble_eq_true rfl⟩) hK hN hP 4 rfl rfl rfl rfl hl.1 rfl (Nat.le_of_ble_eq_true rfl) d_Search_lowestDoorInto_35 ⟨Nat.zero_le _, Nat.zero_le _⟩ ?_
          refine lv_if_eq (tgt := 75) hx hb d_Search_lowestDoorInto_38 (by decide) (fun c_3 => ?_) (fun c_3 => ?_)
          · refine lv_iinc (v := i + 1) (lv' := [(2, .int (i + 1)), (3, .int (f_Doors_roomBehind x i a1)), (0, .ref (ad 4)), (1, .int a1)]) hx hb d_Search_lowestDoorInto_75 hl (k := 1) rfl rfl (by decide) rfl (fun ls hl => ?_)
            refine lv_goto (tgt := 12) hx hb d_Search_lowestDoorInto_78 (by decide) ?_
            exact ih (i + 1) ls (lp_inc hi c_2 hI.2.1.2 (by decide)) (by rw [hq, if_neg c_2, if_pos c_3]) (lv_sub hl [0, 2, 3] rfl)
          · refine lv_aload_n hx hb d_Search_lowestDoorInto_41 rfl (lv_at hl 2 rfl) ?_
            refine lv_iload_n hx hb d_Search_lowestDoorInto_42 rfl (lv_at hl 0 rfl) ?_
            refine xv (As := [.int (f_Doors_roomBehind x i a1)]) (rest := []) (C := "PlanRows$Search") ⟨hx, hb, hml, hown, hts⟩ (c_Search_isReached l dC dI cI cZ ad x hI (f_Doors_roomBehind x i a1)) (cw_Search_74 hts rfl rfl ⟨Nat.le_of_ble_eq_true rfl, Nat.le_of_ble_eq_true rfl⟩) hK hN hP 4 rfl rfl rfl rfl hl.1 rfl (Nat.le_of_ble_eq_true rfl) d_Search_lowestDoorInto_43 ⟨Nat.zero_le _, Nat.zero_le _⟩ ?_
            refine lv_if_eq (tgt := 75) hx hb d_Search_lowestDoorInto_46 (by decide) (fun c_4 => ?_) (fun c_4 => ?_)
            · refine lv_iinc (v := i + 1) (lv' := [(2, .int (i + 1)), (3, .int (f_Doors_roomBehind x i a1)), (0, .ref (ad 4)), (1, .int a1)]) hx hb d_Search_lowestDoorInto_75 hl (k := 1) rfl rfl (by decide) rfl (fun ls hl => ?_)
              refine lv_goto (tgt := 12) hx hb d_Search_lowestDoorInto_78 (by decide) ?_
              exact ih (i + 1) ls (lp_inc hi c_2 hI.2.1.2 (by decide)) (by rw [hq, if_neg c_2, if_neg c_3, if_pos c_4]) (lv_sub hl [0, 2, 3] rfl)
            · refine lv_aload_n hx hb d_Search_lowestDoorInto_49 rfl (lv_at hl 2 rfl) ?_
              refine va_get (D := (dC, dI)) (ci := 6) (v := .ref (ad 17)) (C := R_Search) (T := F_Search) (N := 4) hx hb hbw in_Search hown hK hP 4 rfl rfl 3 (by decide) (hbw _ w_98) (fun _ h9 => h9) rfl d_Search_lowestDoorInto_50 ?_
              refine lv_iload_n hx hb d_Search_lowestDoorInto_53 rfl (lv_at hl 0 rfl) ?_
              refine va_iald hx hb hK hP 17 0 rfl rfl (ix_reached hI c_4) d_Search_lowestDoorInto_54 ?_
              refine lv_aload_n hx hb d_Search_lowestDoorInto_55 rfl (lv_at hl 2 rfl) ?_
              refine va_get (D := (dC, dI)) (ci := 6) (v := .ref (ad 2)) (C := R_Search) (T := F_Search) (N := 4) hx hb hbw in_Search hown hK hP 4 rfl rfl 1 (by decide) (hbw _ w_96) (fun _ h9 => h9) rfl d_Search_lowestDoorInto_56 ?_
              refine lv_iload_n hx hb d_Search_lowestDoorInto_59 rfl (lv_at hl 1 rfl) ?_
              refine xv (As := [.int i]) (rest := [.int ((q_co x) (f_Doors_roomBehind x i a1).toNatClampNeg)]) (C := "PlanRows$Doors") ⟨hx, hb, hml, hown, hts⟩ (c_Doors_costOf l dC dI cI cZ ad x hI i) (cw_Search_67 hts rfl rfl ⟨Nat.le_of_ble_eq_true rfl, Nat.le_of_ble_eq_true rfl⟩) hK hN hP 2 rfl rfl rfl rfl hl.1 rfl (Nat.le_of_ble_eq_true rfl) d_Search_lowestDoorInto_60 ⟨Nat.zero_le _, Nat.zero_le _⟩ ?_
              refine lv_iadd hx hb d_Search_lowestDoorInto_63 ?_
              refine lv_aload_n hx hb d_Search_lowestDoorInto_64 rfl (lv_at hl 2 rfl) ?_
              refine va_get (D := (dC, dI)) (ci := 6) (v := .ref (ad 17)) (C := R_Search) (T := F_Search) (N := 4) hx hb hbw in_Search hown hK hP 4 rfl rfl 3 (by decide) (hbw _ w_98) (fun _ h9 => h9) rfl d_Search_lowestDoorInto_65 ?_
              refine lv_iload_n hx hb d_Search_lowestDoorInto_68 rfl (lv_at hl 3 rfl) ?_
              refine va_iald hx hb hK hP 17 0 rfl rfl (ix_reached hI c_1) d_Search_lowestDoorInto_69 ?_
              refine lv_icmp_ne (tgt := 75) hx hb d_Search_lowestDoorInto_70 (by decide) (fun c_5 => ?_) (fun c_5 => ?_)
              · refine lv_iinc (v := i + 1) (lv' := [(2, .int (i + 1)), (3, .int (f_Doors_roomBehind x i a1)), (0, .ref (ad 4)), (1, .int a1)]) hx hb d_Search_lowestDoorInto_75 hl (k := 1) rfl rfl (by decide) rfl (fun ls hl => ?_)
                refine lv_goto (tgt := 12) hx hb d_Search_lowestDoorInto_78 (by decide) ?_
                exact ih (i + 1) ls (lp_inc hi c_2 hI.2.1.2 (by decide)) (by rw [hq, if_neg c_2, if_neg c_3, if_neg c_4, if_neg c_5]) (lv_sub hl [0, 2, 3] rfl)
              · refine lv_iload_n hx hb d_Search_lowestDoorInto_73 rfl (lv_at hl 1 rfl) ?_
                exact W.toX (W.iret (v := i) hx hb hr (fun t ht hW => ⟨by rw [show f_Search_lowestDoorInto x a1 = i from by rw [hq, if_neg c_2, if_neg c_3, if_neg c_4, if_pos c_5]], ht⟩) (fun q hq => by cases hq) d_Search_lowestDoorInto_74)
    exact loop 81 0 ls (lp_0 (N := 80) hI.2.1 (by decide)) (by unfold f_Search_lowestDoorInto; rw [if_neg c_1]) (lv_sub hl [0, 1, 2] rfl)
  · refine lv_iconst (v := (-1)) hx hb d_Search_lowestDoorInto_8 (by decide) ?_
    exact W.toX (W.iret (v := (-1)) hx hb hr (fun t ht hW => ⟨by rw [show f_Search_lowestDoorInto x a1 = (-1) from by unfold f_Search_lowestDoorInto; rw [if_pos c_1]], ht⟩) (fun q hq => by cases hq) d_Search_lowestDoorInto_9)
end
section
theorem ix_win {x : ST} {a : Int32} (hI : CIn x) (h : ¬ f_Win_has x a = 0) : vp_in a 30 := by
  unfold f_Win_has at h
  by_cases h0 : a < 0
  · exact absurd (if_pos h0) h
  · rw [if_neg h0] at h
    by_cases h1 : q_wc x ≤ a
    · exact absurd (if_pos h1) h
    · exact ix_lt h0 h1 hI.2.2.2.2.1.2
theorem lp_bit {b : Int32} {k : Nat} (hi : 1 ≤ k + 1 ∧ 0 ≤ b.toInt ∧ b.toInt < ((2 ^ (k + 1 - 1) : Nat) : Int)) (hc : ¬ b ≤ 0) : 1 ≤ k ∧ 0 ≤ (b >>> ((1 : Int32) &&& 31)).toInt ∧ (b >>> ((1 : Int32) &&& 31)).toInt < ((2 ^ (k - 1) : Nat) : Int) := by
  have e : (b >>> ((1 : Int32) &&& 31)).toInt = b.toInt >>> 1 := pk_shr b _ 1 (by decide)
  have e2 : b.toInt >>> 1 = b.toInt / 2 := by rw [Int.shiftRight_eq_div_pow]; rfl
  rw [Int32.le_iff_toInt_le] at hc
  have h0 : (0 : Int32).toInt = 0 := rfl
  obtain ⟨-, h1, h2⟩ := hi
  rw [e, e2]
  cases k with
  | zero =>
    have h3 : ((2 ^ (0 + 1 - 1) : Nat) : Int) = 1 := rfl
    omega
  | succ j =>
    have e3 : (2 ^ (j + 1 + 1 - 1) : Nat) = 2 * 2 ^ j := by rw [show j + 1 + 1 - 1 = j + 1 from rfl, Nat.pow_succ]; omega
    rw [e3] at h2
    show 1 ≤ j + 1 ∧ 0 ≤ b.toInt / 2 ∧ b.toInt / 2 < ((2 ^ j : Nat) : Int)
    generalize 2 ^ j = P at h2 ⊢
    omega
def f_Win_isReached (x : ST) (a1 a2 a3 a4 a5 : Int32) : Int32 := if (f_Win_has x a1) = 0 then 0 else (if a4 ≤ ((q_wz x) a1.toNatClampNeg) then (if 0 < (lg_cmp (((((((q_wx x) a1.toNatClampNeg) - a2).toInt64) * ((((q_wx x) a1.toNatClampNeg) - a2).toInt64)) + (((((q_wy x) a1.toNatClampNeg) - a3).toInt64) * ((((q_wy x) a1.toNatClampNeg) - a3).toInt64))) + (((((q_wz x) a1.toNatClampNeg) - a4).toInt64) * ((((q_wz x) a1.toNatClampNeg) - a4).toInt64))) (a5.toInt64 * a5.toInt64)) then 0 else 1) else 0)
set_option maxHeartbeats 4000000 in
set_option maxRecDepth 100000 in
theorem c_Win_isReached (l : Launch) (dC : Nat → ClassId) (dI : Nat → Nat → Nat) (cI cZ : ClassId) (ad : Nat → Nat) (x : ST) (hI : CIn x) (a1 a2 a3 a4 a5 : Int32) : MX l y_Win_isReached (Cond.code y_Win_isReached b_Win_isReached 12 (some .boolean) :: BW) { frames := 1, cells := 0, slots := 0, locals := 21 } (PC (dC, dI) [(cI, .int), (cZ, .boolean)] (wC cI cZ ad x) [.ref (ad 8), .int a1, .int a2, .int a3, .int a4, .int a5]) (PQ (some (.int (f_Win_isReached x a1 a2 a3 a4 a5)))) 0 0 (fun _ => False) := by
  refine MX.ofW (cc := b_Win_isReached) (maxL := 12) (ret := (some .boolean)) (by decide) rfl ?_
  intro p e s m args below meth c s₁ B hml hex hv
  obtain ⟨rfl, hP, hK, hN⟩ := hv
  have hx := B.exec
  have hb := B.bytes
  have hr := B.returns
  have hts := atoms_spec (ws := Cond.code y_Win_isReached b_Win_isReached 12 (some .boolean) :: BW) B.pre
  have hbw : ∀ w ∈ BW, w.before ([.ref (ad 8), .int a1, .int a2, .int a3, .int a4, .int a5]).toArray s = true := fun w h => hts w (List.mem_cons_of_mem _ h)
  have hown : s.vm.findClass "PlanRows$Windows" = some m.cls := findClass_of_methodNamed B.named
  have hlocks := B.notSynchronized
  have hl := lv_entry ([.ref (ad 8), .int a1, .int a2, .int a3, .int a4, .int a5]) (n := 12) (Nat.le_of_ble_eq_true rfl)
  rw [lg_entry_eq]
  generalize (lg_sl ([.ref (ad 8), .int a1, .int a2, .int a3, .int a4, .int a5]) ++ List.replicate (12 - (lg_sl ([.ref (ad 8), .int a1, .int a2, .int a3, .int a4, .int a5])).length) Slot.unset).toArray = ls at hl ⊢
  have hl : lv_has ls 12 [(0, .ref (ad 8)), (1, .int a1), (2, .int a2), (3, .int a3), (4, .int a4), (5, .int a5)] := hl
  refine lv_aload_n hx hb d_Win_isReached_0 rfl (lv_at hl 0 rfl) ?_
  refine lv_iload_n hx hb d_Win_isReached_1 rfl (lv_at hl 1 rfl) ?_
  refine xv (As := [.int a1]) (rest := []) (C := "PlanRows$Windows") ⟨hx, hb, hml, hown, hts⟩ (c_Win_has l dC dI cI cZ ad x hI a1) (cw_Win_25 hts rfl rfl ⟨Nat.le_of_ble_eq_true rfl, Nat.le_of_ble_eq_true rfl⟩) hK hN hP 8 rfl rfl rfl rfl hl.1 rfl (Nat.le_of_ble_eq_true rfl) d_Win_isReached_2 ⟨Nat.zero_le _, Nat.zero_le _⟩ ?_
  refine lv_if_eq (tgt := 19) hx hb d_Win_isReached_5 (by decide) (fun c_1 => ?_) (fun c_1 => ?_)
  · refine lv_iconst (v := 0) hx hb d_Win_isReached_19 (by decide) ?_
    exact W.toX (W.zret (v := 0) (ty := .boolean) hx hb hr (by rfl) (fun t ht hW => ⟨by rw [show f_Win_isReached x a1 a2 a3 a4 a5 = 0 from by unfold f_Win_isReached; rw [if_pos c_1]], ht⟩) (fun q hq => by cases hq) d_Win_isReached_20)
  · refine lv_aload_n hx hb d_Win_isReached_8 rfl (lv_at hl 0 rfl) ?_
    refine va_get (D := (dC, dI)) (ci := 7) (v := .ref (ad 28)) (C := R_Win) (T := F_Win) (N := 4) hx hb hbw in_Win hown hK hP 8 rfl rfl 2 (by decide) (hbw _ w_180) (fun _ h9 => h9) rfl d_Win_isReached_9 ?_
    refine lv_iload_n hx hb d_Win_isReached_12 rfl (lv_at hl 1 rfl) ?_
    refine va_iald hx hb hK hP 28 0 rfl rfl (ix_win hI c_1) d_Win_isReached_13 ?_
    refine lv_iload hx hb d_Win_isReached_14 (lv_at hl 4 rfl) ?_
    refine lv_icmp_ge (tgt := 21) hx hb d_Win_isReached_16 (by decide) (fun c_2 => ?_) (fun c_2 => ?_)
    · refine lv_aload_n hx hb d_Win_isReached_21 rfl (lv_at hl 0 rfl) ?_
      refine va_get (D := (dC, dI)) (ci := 7) (v := .ref (ad 26)) (C := R_Win) (T := F_Win) (N := 4) hx hb hbw in_Win hown hK hP 8 rfl rfl 0 (by decide) (hbw _ w_178) (fun _ h9 => h9) rfl d_Win_isReached_22 ?_
      refine lv_iload_n hx hb d_Win_isReached_25 rfl (lv_at hl 1 rfl) ?_
      refine va_iald hx hb hK hP 26 0 rfl rfl (ix_win hI c_1) d_Win_isReached_26 ?_
      refine lv_iload_n hx hb d_Win_isReached_27 rfl (lv_at hl 2 rfl) ?_
      refine lv_isub hx hb d_Win_isReached_28 ?_
      refine lv_i2l hx hb d_Win_isReached_29 rfl ?_
      refine lv_lstore (lv' := [(6, .long ((((q_wx x) a1.toNatClampNeg) - a2).toInt64)), (0, .ref (ad 8)), (1, .int a1), (2, .int a2), (3, .int a3), (4, .int a4), (5, .int a5)]) hx hb d_Win_isReached_30 hl (by decide) rfl (fun ls hl => ?_)
      refine lv_aload_n hx hb d_Win_isReached_32 rfl (lv_at hl 1 rfl) ?_
      refine va_get (D := (dC, dI)) (ci := 7) (v := .ref (ad 27)) (C := R_Win) (T := F_Win) (N := 4) hx hb hbw in_Win hown hK hP 8 rfl rfl 1 (by decide) (hbw _ w_179) (fun _ h9 => h9) rfl d_Win_isReached_33 ?_
      refine lv_iload_n hx hb d_Win_isReached_36 rfl (lv_at hl 2 rfl) ?_
      refine va_iald hx hb hK hP 27 0 rfl rfl (ix_win hI c_1) d_Win_isReached_37 ?_
      refine lv_iload_n hx hb d_Win_isReached_38 rfl (lv_at hl 4 rfl) ?_
      refine lv_isub hx hb d_Win_isReached_39 ?_
      refine lv_i2l hx hb d_Win_isReached_40 rfl ?_
      refine lv_lstore (lv' := [(8, .long ((((q_wy x) a1.toNatClampNeg) - a3).toInt64)), (6, .long ((((q_wx x) a1.toNatClampNeg) - a2).toInt64)), (0, .ref (ad 8)), (1, .int a1), (2, .int a2), (3, .int a3), (4, .int a4), (5, .int a5)]) hx hb d_Win_isReached_41 hl (by decide) rfl (fun ls hl => ?_)
      refine lv_aload_n hx hb d_Win_isReached_43 rfl (lv_at hl 2 rfl) ?_
      refine va_get (D := (dC, dI)) (ci := 7) (v := .ref (ad 28)) (C := R_Win) (T := F_Win) (N := 4) hx hb hbw in_Win hown hK hP 8 rfl rfl 2 (by decide) (hbw _ w_180) (fun _ h9 => h9) rfl d_Win_isReached_44 ?_
      refine lv_iload_n hx hb d_Win_isReached_47 rfl (lv_at hl 3 rfl) ?_
      refine va_iald hx hb hK hP 28 0 rfl rfl (ix_win hI c_1) d_Win_isReached_48 ?_
      refine lv_iload hx hb d_Win_isReached_49 (lv_at hl 6 rfl) ?_
      refine lv_isub hx hb d_Win_isReached_51 ?_
      refine lv_i2l hx hb d_Win_isReached_52 rfl ?_
      refine lv_lstore (lv' := [(10, .long ((((q_wz x) a1.toNatClampNeg) - a4).toInt64)), (8, .long ((((q_wy x) a1.toNatClampNeg) - a3).toInt64)), (6, .long ((((q_wx x) a1.toNatClampNeg) - a2).toInt64)), (0, .ref (ad 8)), (1, .int a1), (2, .int a2), (3, .int a3), (4, .int a4), (5, .int a5)]) hx hb d_Win_isReached_53 hl (by decide) rfl (fun ls hl => ?_)
      refine lv_lload hx hb d_Win_isReached_55 (lv_at hl 2 rfl) ?_
      refine lv_lload hx hb d_Win_isReached_57 (lv_at hl 2 rfl) ?_
      refine lv_lmul hx hb d_Win_isReached_59 ?_
      refine lv_lload hx hb d_Win_isReached_60 (lv_at hl 1 rfl) ?_
      refine lv_lload hx hb d_Win_isReached_62 (lv_at hl 1 rfl) ?_
      refine lv_lmul hx hb d_Win_isReached_64 ?_
      refine lv_ladd hx hb d_Win_isReached_65 ?_
      refine lv_lload hx hb d_Win_isReached_66 (lv_at hl 0 rfl) ?_
      refine lv_lload hx hb d_Win_isReached_68 (lv_at hl 0 rfl) ?_
      refine lv_lmul hx hb d_Win_isReached_70 ?_
      refine lv_ladd hx hb d_Win_isReached_71 ?_
      refine lv_iload hx hb d_Win_isReached_72 (lv_at hl 8 rfl) ?_
      refine lv_i2l hx hb d_Win_isReached_74 rfl ?_
      refine lv_iload hx hb d_Win_isReached_75 (lv_at hl 8 rfl) ?_
      refine lv_i2l hx hb d_Win_isReached_77 rfl ?_
      refine lv_lmul hx hb d_Win_isReached_78 ?_
      refine W.lcmp hx hb d_Win_isReached_79 ?_
      refine lv_if_gt (tgt := 87) hx hb d_Win_isReached_80 (by decide) (fun c_3 => ?_) (fun c_3 => ?_)
      · refine lv_iconst (v := 0) hx hb d_Win_isReached_87 (by decide) ?_
        exact W.toX (W.zret (v := 0) (ty := .boolean) hx hb hr (by rfl) (fun t ht hW => ⟨by rw [show f_Win_isReached x a1 a2 a3 a4 a5 = 0 from by unfold f_Win_isReached; rw [if_neg c_1, if_pos c_2, if_pos c_3]], ht⟩) (fun q hq => by cases hq) d_Win_isReached_88)
      · refine lv_iconst (v := 1) hx hb d_Win_isReached_83 (by decide) ?_
        refine lv_goto (tgt := 88) hx hb d_Win_isReached_84 (by decide) ?_
        exact W.toX (W.zret (v := 1) (ty := .boolean) hx hb hr (by rfl) (fun t ht hW => ⟨by rw [show f_Win_isReached x a1 a2 a3 a4 a5 = 1 from by unfold f_Win_isReached; rw [if_neg c_1, if_pos c_2, if_neg c_3]], ht⟩) (fun q hq => by cases hq) d_Win_isReached_88)
    · refine lv_iconst (v := 0) hx hb d_Win_isReached_19 (by decide) ?_
      exact W.toX (W.zret (v := 0) (ty := .boolean) hx hb hr (by rfl) (fun t ht hW => ⟨by rw [show f_Win_isReached x a1 a2 a3 a4 a5 = 0 from by unfold f_Win_isReached; rw [if_neg c_1, if_neg c_2]], ht⟩) (fun q hq => by cases hq) d_Win_isReached_20)
def L_Win_leastLength (x : ST) (a1 a2 a3 a4 : Int32) : Nat → Int32 → Int32 → Int32
  | 0, _, _ => 0
  | k + 1, sh, bt => if bt ≤ 0 then sh + 1 else (if (f_Win_isReached x a1 a2 a3 a4 (sh + bt)) = 0 then L_Win_leastLength x a1 a2 a3 a4 k (sh + bt) (bt >>> (1 &&& 31)) else L_Win_leastLength x a1 a2 a3 a4 k sh (bt >>> (1 &&& 31)))
theorem L_Win_leastLength_s (x : ST) (a1 a2 a3 a4 : Int32) (k : Nat) (sh bt : Int32) : L_Win_leastLength x a1 a2 a3 a4 (k + 1) sh bt = if bt ≤ 0 then sh + 1 else (if (f_Win_isReached x a1 a2 a3 a4 (sh + bt)) = 0 then L_Win_leastLength x a1 a2 a3 a4 k (sh + bt) (bt >>> (1 &&& 31)) else L_Win_leastLength x a1 a2 a3 a4 k sh (bt >>> (1 &&& 31))) := rfl
def f_Win_leastLength (x : ST) (a1 a2 a3 a4 : Int32) : Int32 := if (f_Win_isReached x a1 a2 a3 a4 200000) = 0 then (-1) else L_Win_leastLength x a1 a2 a3 a4 19 0 131072
set_option maxHeartbeats 4000000 in
set_option maxRecDepth 100000 in
theorem c_Win_leastLength (l : Launch) (dC : Nat → ClassId) (dI : Nat → Nat → Nat) (cI cZ : ClassId) (ad : Nat → Nat) (x : ST) (hI : CIn x) (a1 a2 a3 a4 : Int32) : MX l y_Win_leastLength (Cond.code y_Win_leastLength b_Win_leastLength 7 (some .int) :: BW) { frames := 2, cells := 0, slots := 0, locals := 52 } (PC (dC, dI) [(cI, .int), (cZ, .boolean)] (wC cI cZ ad x) [.ref (ad 8), .int a1, .int a2, .int a3, .int a4]) (PQ (some (.int (f_Win_leastLength x a1 a2 a3 a4)))) 0 0 (fun _ => False) := by
  refine MX.ofW (cc := b_Win_leastLength) (maxL := 7) (ret := (some .int)) (by decide) rfl ?_
  intro p e s m args below meth c s₁ B hml hex hv
  obtain ⟨rfl, hP, hK, hN⟩ := hv
  have hx := B.exec
  have hb := B.bytes
  have hr := B.returns
  have hts := atoms_spec (ws := Cond.code y_Win_leastLength b_Win_leastLength 7 (some .int) :: BW) B.pre
  have hbw : ∀ w ∈ BW, w.before ([.ref (ad 8), .int a1, .int a2, .int a3, .int a4]).toArray s = true := fun w h => hts w (List.mem_cons_of_mem _ h)
  have hown : s.vm.findClass "PlanRows$Windows" = some m.cls := findClass_of_methodNamed B.named
  have hlocks := B.notSynchronized
  have hl := lv_entry ([.ref (ad 8), .int a1, .int a2, .int a3, .int a4]) (n := 7) (Nat.le_of_ble_eq_true rfl)
  rw [lg_entry_eq]
  generalize (lg_sl ([.ref (ad 8), .int a1, .int a2, .int a3, .int a4]) ++ List.replicate (7 - (lg_sl ([.ref (ad 8), .int a1, .int a2, .int a3, .int a4])).length) Slot.unset).toArray = ls at hl ⊢
  have hl : lv_has ls 7 [(0, .ref (ad 8)), (1, .int a1), (2, .int a2), (3, .int a3), (4, .int a4)] := hl
  refine lv_aload_n hx hb d_Win_leastLength_0 rfl (lv_at hl 0 rfl) ?_
  refine lv_iload_n hx hb d_Win_leastLength_1 rfl (lv_at hl 1 rfl) ?_
  refine lv_iload_n hx hb d_Win_leastLength_2 rfl (lv_at hl 2 rfl) ?_
  refine lv_iload_n hx hb d_Win_leastLength_3 rfl (lv_at hl 3 rfl) ?_
  refine lv_iload hx hb d_Win_leastLength_4 (lv_at hl 4 rfl) ?_
  refine lv_ldc (v := 200000) hx hb hown (hbw _ w_677) d_Win_leastLength_6 ?_
  refine xv (As := [.int a1, .int a2, .int a3, .int a4, .int 200000]) (rest := []) (C := "PlanRows$Windows") ⟨hx, hb, hml, hown, hts⟩ (c_Win_isReached l dC dI cI cZ ad x hI a1 a2 a3 a4 200000) (cw_Win_30 hts rfl rfl ⟨Nat.le_of_ble_eq_true rfl, Nat.le_of_ble_eq_true rfl⟩) hK hN hP 8 rfl rfl rfl rfl hl.1 rfl (Nat.le_of_ble_eq_true rfl) d_Win_leastLength_8 ⟨Nat.zero_le _, Nat.zero_le _⟩ ?_
  refine lv_if_ne (tgt := 16) hx hb d_Win_leastLength_11 (by decide) (fun c_1 => ?_) (fun c_1 => ?_)
  · refine lv_iconst (v := 0) hx hb d_Win_leastLength_16 (by decide) ?_
    refine lv_istore (lv' := [(5, .int 0), (0, .ref (ad 8)), (1, .int a1), (2, .int a2), (3, .int a3), (4, .int a4)]) hx hb d_Win_leastLength_17 hl (by decide) rfl (fun ls hl => ?_)
    refine lv_ldc (v := 131072) hx hb hown (hbw _ w_679) d_Win_leastLength_19 ?_
    refine lv_istore (lv' := [(6, .int 131072), (5, .int 0), (0, .ref (ad 8)), (1, .int a1), (2, .int a2), (3, .int a3), (4, .int a4)]) hx hb d_Win_leastLength_21 hl (by decide) rfl (fun ls hl => ?_)
    have loop : ∀ (k : Nat) (sh bt : Int32) (ls : Array Slot), 1 ≤ k ∧ 0 ≤ bt.toInt ∧ bt.toInt < ((2 ^ (k - 1) : Nat) : Int) → f_Win_leastLength x a1 a2 a3 a4 = L_Win_leastLength x a1 a2 a3 a4 k sh bt → lv_has ls 7 [(6, .int bt), (5, .int sh), (0, .ref (ad 8)), (1, .int a1), (2, .int a2), (3, .int a3), (4, .int a4)] → W p l e { frames := 2, cells := 0, slots := 0, locals := 52 } s m ([.ref (ad 8), .int a1, .int a2, .int a3, .int a4]).toArray below meth c s.heap [] 0 0 (MQX below (PQ (some (.int (f_Win_leastLength x a1 a2 a3 a4)))) ([.ref (ad 8), .int a1, .int a2, .int a3, .int a4]).toArray s 0 0 (fun _ => False)) (F0 m 23 ls []) := by
      intro k
      induction k with
      | zero =>
        intro sh bt ls hi hq hl
        exact absurd hi.1 (by decide)
      | succ k ih =>
        intro sh bt ls hi hq hl
        have hq := hq.trans (L_Win_leastLength_s x a1 a2 a3 a4 k sh bt)
        refine lv_iload hx hb d_Win_leastLength_23 (lv_at hl 0 rfl) ?_
        refine lv_if_le (tgt := 61) hx hb d_Win_leastLength_25 (by decide) (fun c_2 => ?_) (fun c_2 => ?_)
        · refine lv_iload hx hb d_Win_leastLength_61 (lv_at hl 1 rfl) ?_
          refine lv_iconst (v := 1) hx hb d_Win_leastLength_63 (by decide) ?_
          refine lv_iadd hx hb d_Win_leastLength_64 ?_
          exact W.toX (W.iret (v := sh + 1) hx hb hr (fun t ht hW => ⟨by rw [show f_Win_leastLength x a1 a2 a3 a4 = sh + 1 from by rw [hq, if_pos c_2]], ht⟩) (fun q hq => by cases hq) d_Win_leastLength_65)
        · refine lv_aload_n hx hb d_Win_leastLength_28 rfl (lv_at hl 2 rfl) ?_
          refine lv_iload_n hx hb d_Win_leastLength_29 rfl (lv_at hl 3 rfl) ?_
          refine lv_iload_n hx hb d_Win_leastLength_30 rfl (lv_at hl 4 rfl) ?_
          refine lv_iload_n hx hb d_Win_leastLength_31 rfl (lv_at hl 5 rfl) ?_
          refine lv_iload hx hb d_Win_leastLength_32 (lv_at hl 6 rfl) ?_
          refine lv_iload hx hb d_Win_leastLength_34 (lv_at hl 1 rfl) ?_
          refine lv_iload hx hb d_Win_leastLength_36 (lv_at hl 0 rfl) ?_
          refine lv_iadd hx hb d_Win_leastLength_38 ?_
          refine xv (As := [.int a1, .int a2, .int a3, .int a4, .int (sh + bt)]) (rest := []) (C := "PlanRows$Windows") ⟨hx, hb, hml, hown, hts⟩ (c_Win_isReached l dC dI cI cZ ad x hI a1 a2 a3 a4 (sh + bt)) (cw_Win_30 hts rfl rfl ⟨Nat.le_of_ble_eq_true rfl, Nat.le_of_ble_eq_true rfl⟩) hK hN hP 8 rfl rfl rfl rfl hl.1 rfl (Nat.le_of_ble_eq_true rfl) d_Win_leastLength_39 ⟨Nat.zero_le _, Nat.zero_le _⟩ ?_
          refine lv_if_ne (tgt := 52) hx hb d_Win_leastLength_42 (by decide) (fun c_3 => ?_) (fun c_3 => ?_)
          · refine lv_iload hx hb d_Win_leastLength_52 (lv_at hl 0 rfl) ?_
            refine lv_iconst (v := 1) hx hb d_Win_leastLength_54 (by decide) ?_
            refine lv_ishr hx hb d_Win_leastLength_55 ?_
            refine lv_istore (lv' := [(6, .int (bt >>> (1 &&& 31))), (5, .int sh), (0, .ref (ad 8)), (1, .int a1), (2, .int a2), (3, .int a3), (4, .int a4)]) hx hb d_Win_leastLength_56 hl (by decide) rfl (fun ls hl => ?_)
            refine lv_goto (tgt := 23) hx hb d_Win_leastLength_58 (by decide) ?_
            exact ih sh (bt >>> (1 &&& 31)) ls (lp_bit hi c_2) (by rw [hq, if_neg c_2, if_neg c_3]) (lv_sub hl [0, 1, 2, 3, 4, 5, 6] rfl)
          · refine lv_iload hx hb d_Win_leastLength_45 (lv_at hl 1 rfl) ?_
            refine lv_iload hx hb d_Win_leastLength_47 (lv_at hl 0 rfl) ?_
            refine lv_iadd hx hb d_Win_leastLength_49 ?_
            refine lv_istore (lv' := [(5, .int (sh + bt)), (6, .int bt), (0, .ref (ad 8)), (1, .int a1), (2, .int a2), (3, .int a3), (4, .int a4)]) hx hb d_Win_leastLength_50 hl (by decide) rfl (fun ls hl => ?_)
            refine lv_iload hx hb d_Win_leastLength_52 (lv_at hl 1 rfl) ?_
            refine lv_iconst (v := 1) hx hb d_Win_leastLength_54 (by decide) ?_
            refine lv_ishr hx hb d_Win_leastLength_55 ?_
            refine lv_istore (lv' := [(6, .int (bt >>> (1 &&& 31))), (5, .int (sh + bt)), (0, .ref (ad 8)), (1, .int a1), (2, .int a2), (3, .int a3), (4, .int a4)]) hx hb d_Win_leastLength_56 hl (by decide) rfl (fun ls hl => ?_)
            refine lv_goto (tgt := 23) hx hb d_Win_leastLength_58 (by decide) ?_
            exact ih (sh + bt) (bt >>> (1 &&& 31)) ls (lp_bit hi c_2) (by rw [hq, if_neg c_2, if_pos c_3]) (lv_sub hl [0, 1, 2, 3, 4, 5, 6] rfl)
    exact loop 19 0 131072 ls (by decide) (by unfold f_Win_leastLength; rw [if_neg c_1]) (lv_sub hl [0, 1, 2, 3, 4, 5, 6] rfl)
  · refine lv_iconst (v := (-1)) hx hb d_Win_leastLength_14 (by decide) ?_
    exact W.toX (W.iret (v := (-1)) hx hb hr (fun t ht hW => ⟨by rw [show f_Win_leastLength x a1 a2 a3 a4 = (-1) from by unfold f_Win_leastLength; rw [if_pos c_1]], ht⟩) (fun q hq => by cases hq) d_Win_leastLength_15)
/-- a contract's start where the world will change -/
def PCZ (sz : Nat) (D : va_G) (tys : List (ClassId × FieldType)) (ww : va_W) (av : List Value) : Array Value → State → Prop := fun v U => U.heap.size = sz ∧ PC D tys ww av v U
theorem PCZ.blind {sz : Nat} {D : va_G} {tys : List (ClassId × FieldType)} {ww : va_W} {av : List Value} : FrameBlind (PCZ sz D tys ww av) := fun a U g mk q => ⟨q.1, PC.blind a U g mk q.2⟩
theorem PCZ.at {s : State} {D : va_G} {tys : List (ClassId × FieldType)} {ww : va_W} {av : List Value} {H : Heap} (hK : va_K D clsA tys s) (hN : NW s) (hP : va_P D clsA ww H) : ∀ U : State, U.heap = H → s.WarmedH U.vm → PCZ H.size D tys ww av av.toArray U := fun U hU hW => ⟨by rw [hU], PC.at hK hN hP U hU hW⟩
def WB (D : va_G) (tys : List (ClassId × FieldType)) (ww : va_W) : State → Prop := fun t => va_P D clsA ww t.heap ∧ va_K D clsA tys t ∧ NW t
theorem ix_sz {n : Int32} {N : Nat} (h : 0 ≤ n.toInt) (hl : n.toInt < N) : vp_in n N := vp_in_iff.mpr (by omega)
theorem ix_szl {n N : Int32} {M : Nat} (h : 0 ≤ n.toInt ∧ n.toInt ≤ M) (hl : n < N) (hN : N.toInt = M) : vp_in n M := vp_in_iff.mpr (by
  rw [Int32.lt_iff_toInt_lt] at hl
  omega)
def g_Rooms_add (x : ST) (a1 a2 : Int32) : Int32 × ST := if (q_rn x) < 40 then ((q_rn (s_rn (s_kd (s_fl x (upd (q_fl x) (q_rn x).toNatClampNeg a1)) (upd (q_kd (s_fl x (upd (q_fl x) (q_rn x).toNatClampNeg a1))) (q_rn (s_fl x (upd (q_fl x) (q_rn x).toNatClampNeg a1))).toNatClampNeg a2)) ((q_rn (s_kd (s_fl x (upd (q_fl x) (q_rn x).toNatClampNeg a1)) (upd (q_kd (s_fl x (upd (q_fl x) (q_rn x).toNatClampNeg a1))) (q_rn (s_fl x (upd (q_fl x) (q_rn x).toNatClampNeg a1))).toNatClampNeg a2))) + 1))) - 1, s_rn (s_kd (s_fl x (upd (q_fl x) (q_rn x).toNatClampNeg a1)) (upd (q_kd (s_fl x (upd (q_fl x) (q_rn x).toNatClampNeg a1))) (q_rn (s_fl x (upd (q_fl x) (q_rn x).toNatClampNeg a1))).toNatClampNeg a2)) ((q_rn (s_kd (s_fl x (upd (q_fl x) (q_rn x).toNatClampNeg a1)) (upd (q_kd (s_fl x (upd (q_fl x) (q_rn x).toNatClampNeg a1))) (q_rn (s_fl x (upd (q_fl x) (q_rn x).toNatClampNeg a1))).toNatClampNeg a2))) + 1)) else ((-1), x)
set_option maxHeartbeats 4000000 in
set_option maxRecDepth 100000 in
theorem u_Rooms_add (l : Launch) (dC : Nat → ClassId) (dI : Nat → Nat → Nat) (cI cZ : ClassId) (ad : Nat → Nat) (hj : aInj 29 ad) (x : ST) (hI : CIn x) (sz : Nat) (a1 a2 : Int32) : MX l y_Rooms_add (Cond.code y_Rooms_add b_Rooms_add 3 (some .int) :: BW) { frames := 0, cells := 0, slots := 0, locals := 0 } (PCZ sz (dC, dI) [(cI, .int), (cZ, .boolean)] (wC cI cZ ad x) [.ref (ad 1), .int a1, .int a2]) (UQ (some (.int (g_Rooms_add x a1 a2).1)) (WB (dC, dI) [(cI, .int), (cZ, .boolean)] (wC cI cZ ad (g_Rooms_add x a1 a2).2)) (aC 29 ad sz)) 0 0 (aC 29 ad sz) := by
  refine MX.ofW (cc := b_Rooms_add) (maxL := 3) (ret := (some .int)) (by decide) rfl ?_
  intro p e s m args below meth c s₁ B hml hex hv
  obtain ⟨hsz, rfl, hP, hK, hN⟩ := hv
  subst hsz
  have hx := B.exec
  have hb := B.bytes
  have hr := B.returns
  have hts := atoms_spec (ws := Cond.code y_Rooms_add b_Rooms_add 3 (some .int) :: BW) B.pre
  have hbw : ∀ w ∈ BW, w.before ([.ref (ad 1), .int a1, .int a2]).toArray s = true := fun w h => hts w (List.mem_cons_of_mem _ h)
  have hown : s.vm.findClass "PlanRows$Rooms" = some m.cls := findClass_of_methodNamed B.named
  have hlocks := B.notSynchronized
  have hDx : ∀ z, va_D (aC 29 ad s.heap.size) (wC cI cZ ad z) := fun z => w_D hj (wC_ad cI cZ ad z) _
  have hA : ∀ H : Heap, s.heap.size ≤ H.size → ∀ q, aC 29 ad H.size q → aC 29 ad s.heap.size q := fun H h => aC_le h
  generalize aC 29 ad s.heap.size = A at hDx hA ⊢
  have hD := hDx x
  have hS : va_S A s.heap s.heap [] := va_S.rf
  have hI0 := hI
  have hl := lv_entry ([.ref (ad 1), .int a1, .int a2]) (n := 3) (Nat.le_of_ble_eq_true rfl)
  rw [lg_entry_eq]
  generalize (lg_sl ([.ref (ad 1), .int a1, .int a2]) ++ List.replicate (3 - (lg_sl ([.ref (ad 1), .int a1, .int a2])).length) Slot.unset).toArray = ls at hl ⊢
  obtain ⟨H, hH⟩ : ∃ H, H = s.heap := ⟨_, rfl⟩
  obtain ⟨locs, hlocs⟩ : ∃ locs : List Loc, locs = [] := ⟨_, rfl⟩
  have hP : va_P (dC, dI) clsA (wC cI cZ ad x) H := by rw [hH]; exact hP
  have hS : va_S A s.heap H locs := by rw [hH, hlocs]; exact hS
  rw [← hlocs]
  have hW0 : ∀ (R : Room) (Q : State → Prop) (g : JFrame), W p l e R s m ([.ref (ad 1), .int a1, .int a2]).toArray below meth c H locs 0 0 Q g → W p l e R s m ([.ref (ad 1), .int a1, .int a2]).toArray below meth c s.heap locs 0 0 Q g := fun R Q g h => by rw [← hH]; exact h
  refine hW0 _ _ _ ?_
  have hl : lv_has ls 3 [(0, .ref (ad 1)), (1, .int a1), (2, .int a2)] := hl
  refine lv_aload_n hx hb d_Rooms_add_0 rfl (lv_at hl 0 rfl) ?_
  refine va_get (D := (dC, dI)) (ci := 4) (v := .int (q_rn x)) (C := R_Rooms) (T := F_Rooms) (N := 4) hx hb hbw in_Rooms hown hK hP 1 rfl rfl 3 (by decide) (hbw _ w_37) (fun _ h9 => h9) rfl d_Rooms_add_1 ?_
  refine lv_bipush (v := 40) hx hb d_Rooms_add_4 (by decide) ?_
  refine lv_icmp_lt (tgt := 11) hx hb d_Rooms_add_6 (by decide) (fun c_1 => ?_) (fun c_1 => ?_)
  · refine lv_aload_n hx hb d_Rooms_add_11 rfl (lv_at hl 0 rfl) ?_
    refine va_get (D := (dC, dI)) (ci := 4) (v := .ref (ad 9)) (C := R_Rooms) (T := F_Rooms) (N := 4) hx hb hbw in_Rooms hown hK hP 1 rfl rfl 0 (by decide) (hbw _ w_34) (fun _ h9 => h9) rfl d_Rooms_add_12 ?_
    refine lv_aload_n hx hb d_Rooms_add_15 rfl (lv_at hl 0 rfl) ?_
    refine va_get (D := (dC, dI)) (ci := 4) (v := .int (q_rn x)) (C := R_Rooms) (T := F_Rooms) (N := 4) hx hb hbw in_Rooms hown hK hP 1 rfl rfl 3 (by decide) (hbw _ w_37) (fun _ h9 => h9) rfl d_Rooms_add_16 ?_
    refine lv_iload_n hx hb d_Rooms_add_19 rfl (lv_at hl 1 rfl) ?_
    refine va_iast hx hb hK hP hD hS 9 0 rfl rfl (ix_szl hI.1 c_1 rfl) d_Rooms_add_20 (fun H locs hP hD hS => ?_)
    rw [wC_s_fl] at hP hD
    refine lv_aload_n hx hb d_Rooms_add_21 rfl (lv_at hl 0 rfl) ?_
    refine va_get (D := (dC, dI)) (ci := 4) (v := .ref (ad 10)) (C := R_Rooms) (T := F_Rooms) (N := 4) hx hb hbw in_Rooms hown hK hP 1 rfl rfl 1 (by decide) (hbw _ w_35) (fun _ h9 => h9) rfl d_Rooms_add_22 ?_
    refine lv_aload_n hx hb d_Rooms_add_25 rfl (lv_at hl 0 rfl) ?_
    refine va_get (D := (dC, dI)) (ci := 4) (v := .int (q_rn (s_fl x (upd (q_fl x) (q_rn x).toNatClampNeg a1)))) (C := R_Rooms) (T := F_Rooms) (N := 4) hx hb hbw in_Rooms hown hK hP 1 rfl rfl 3 (by decide) (hbw _ w_37) (fun _ h9 => h9) rfl d_Rooms_add_26 ?_
    refine lv_iload_n hx hb d_Rooms_add_29 rfl (lv_at hl 2 rfl) ?_
    refine va_iast hx hb hK hP hD hS 10 0 rfl rfl (ix_szl hI.1 c_1 rfl) d_Rooms_add_30 (fun H locs hP hD hS => ?_)
    rw [wC_s_kd] at hP hD
    refine lv_aload_n hx hb d_Rooms_add_31 rfl (lv_at hl 0 rfl) ?_
    refine lv_dup hx hb d_Rooms_add_32 rfl ?_
    refine va_get (D := (dC, dI)) (ci := 4) (v := .int (q_rn (s_kd (s_fl x (upd (q_fl x) (q_rn x).toNatClampNeg a1)) (upd (q_kd (s_fl x (upd (q_fl x) (q_rn x).toNatClampNeg a1))) (q_rn (s_fl x (upd (q_fl x) (q_rn x).toNatClampNeg a1))).toNatClampNeg a2)))) (C := R_Rooms) (T := F_Rooms) (N := 4) hx hb hbw in_Rooms hown hK hP 1 rfl rfl 3 (by decide) (hbw _ w_37) (fun _ h9 => h9) rfl d_Rooms_add_33 ?_
    refine lv_iconst (v := 1) hx hb d_Rooms_add_36 (by decide) ?_
    refine lv_iadd hx hb d_Rooms_add_37 ?_
    refine va_put (D := (dC, dI)) (ci := 4) (v := .int ((q_rn (s_kd (s_fl x (upd (q_fl x) (q_rn x).toNatClampNeg a1)) (upd (q_kd (s_fl x (upd (q_fl x) (q_rn x).toNatClampNeg a1))) (q_rn (s_fl x (upd (q_fl x) (q_rn x).toNatClampNeg a1))).toNatClampNeg a2))) + 1)) (ty := .int) (C := R_Rooms) (T := F_Rooms) (N := 4) hx hb hbw in_Rooms t_Rooms t_Rooms_ok n_Rooms hown hK hP hD hS 1 rfl rfl 3 (by decide) (hbw _ w_37) (fun _ h9 => h9) rfl (by decide +kernel) rfl rfl (Nat.le_of_ble_eq_true rfl) d_Rooms_add_38 (fun H locs hP hD hS => ?_)
    rw [wC_s_rn] at hP hD
    refine lv_aload_n hx hb d_Rooms_add_41 rfl (lv_at hl 0 rfl) ?_
    refine va_get (D := (dC, dI)) (ci := 4) (v := .int (q_rn (s_rn (s_kd (s_fl x (upd (q_fl x) (q_rn x).toNatClampNeg a1)) (upd (q_kd (s_fl x (upd (q_fl x) (q_rn x).toNatClampNeg a1))) (q_rn (s_fl x (upd (q_fl x) (q_rn x).toNatClampNeg a1))).toNatClampNeg a2)) ((q_rn (s_kd (s_fl x (upd (q_fl x) (q_rn x).toNatClampNeg a1)) (upd (q_kd (s_fl x (upd (q_fl x) (q_rn x).toNatClampNeg a1))) (q_rn (s_fl x (upd (q_fl x) (q_rn x).toNatClampNeg a1))).toNatClampNeg a2))) + 1)))) (C := R_Rooms) (T := F_Rooms) (N := 4) hx hb hbw in_Rooms hown hK hP 1 rfl rfl 3 (by decide) (hbw _ w_37) (fun _ h9 => h9) rfl d_Rooms_add_42 ?_
    refine lv_iconst (v := 1) hx hb d_Rooms_add_45 (by decide) ?_
    refine lv_isub hx hb d_Rooms_add_46 ?_
    have hg : g_Rooms_add x a1 a2 = ((q_rn (s_rn (s_kd (s_fl x (upd (q_fl x) (q_rn x).toNatClampNeg a1)) (upd (q_kd (s_fl x (upd (q_fl x) (q_rn x).toNatClampNeg a1))) (q_rn (s_fl x (upd (q_fl x) (q_rn x).toNatClampNeg a1))).toNatClampNeg a2)) ((q_rn (s_kd (s_fl x (upd (q_fl x) (q_rn x).toNatClampNeg a1)) (upd (q_kd (s_fl x (upd (q_fl x) (q_rn x).toNatClampNeg a1))) (q_rn (s_fl x (upd (q_fl x) (q_rn x).toNatClampNeg a1))).toNatClampNeg a2))) + 1))) - 1, s_rn (s_kd (s_fl x (upd (q_fl x) (q_rn x).toNatClampNeg a1)) (upd (q_kd (s_fl x (upd (q_fl x) (q_rn x).toNatClampNeg a1))) (q_rn (s_fl x (upd (q_fl x) (q_rn x).toNatClampNeg a1))).toNatClampNeg a2)) ((q_rn (s_kd (s_fl x (upd (q_fl x) (q_rn x).toNatClampNeg a1)) (upd (q_kd (s_fl x (upd (q_fl x) (q_rn x).toNatClampNeg a1))) (q_rn (s_fl x (upd (q_fl x) (q_rn x).toNatClampNeg a1))).toNatClampNeg a2))) + 1)) := by unfold g_Rooms_add; rw [if_pos c_1]
    exact W.toX (W.iret (v := (q_rn (s_rn (s_kd (s_fl x (upd (q_fl x) (q_rn x).toNatClampNeg a1)) (upd (q_kd (s_fl x (upd (q_fl x) (q_rn x).toNatClampNeg a1))) (q_rn (s_fl x (upd (q_fl x) (q_rn x).toNatClampNeg a1))).toNatClampNeg a2)) ((q_rn (s_kd (s_fl x (upd (q_fl x) (q_rn x).toNatClampNeg a1)) (upd (q_kd (s_fl x (upd (q_fl x) (q_rn x).toNatClampNeg a1))) (q_rn (s_fl x (upd (q_fl x) (q_rn x).toNatClampNeg a1))).toNatClampNeg a2))) + 1))) - 1) hx hb hr (fun t ht hW => ⟨by rw [hg], ⟨by rw [ht, hg]; exact hP, va_K.moved hW.alike hK, hN.warm hW⟩, hS.F ht⟩) hS.2.2 d_Rooms_add_47)
  · refine lv_iconst (v := (-1)) hx hb d_Rooms_add_9 (by decide) ?_
    have hg : g_Rooms_add x a1 a2 = ((-1), x) := by unfold g_Rooms_add; rw [if_neg c_1]
    exact W.toX (W.iret (v := (-1)) hx hb hr (fun t ht hW => ⟨by rw [hg], ⟨by rw [ht, hg]; exact hP, va_K.moved hW.alike hK, hN.warm hW⟩, hS.F ht⟩) hS.2.2 d_Rooms_add_10)
def g_Doors_add (x : ST) (a1 a2 a3 a4 : Int32) : Int32 × ST := if (q_dn x) < 80 then ((q_dn (s_dn (s_dk (s_dc (s_db (s_da x (upd (q_da x) (q_dn x).toNatClampNeg a1)) (upd (q_db (s_da x (upd (q_da x) (q_dn x).toNatClampNeg a1))) (q_dn (s_da x (upd (q_da x) (q_dn x).toNatClampNeg a1))).toNatClampNeg a2)) (upd (q_dc (s_db (s_da x (upd (q_da x) (q_dn x).toNatClampNeg a1)) (upd (q_db (s_da x (upd (q_da x) (q_dn x).toNatClampNeg a1))) (q_dn (s_da x (upd (q_da x) (q_dn x).toNatClampNeg a1))).toNatClampNeg a2))) (q_dn (s_db (s_da x (upd (q_da x) (q_dn x).toNatClampNeg a1)) (upd (q_db (s_da x (upd (q_da x) (q_dn x).toNatClampNeg a1))) (q_dn (s_da x (upd (q_da x) (q_dn x).toNatClampNeg a1))).toNatClampNeg a2))).toNatClampNeg a3)) (upd (q_dk (s_dc (s_db (s_da x (upd (q_da x) (q_dn x).toNatClampNeg a1)) (upd (q_db (s_da x (upd (q_da x) (q_dn x).toNatClampNeg a1))) (q_dn (s_da x (upd (q_da x) (q_dn x).toNatClampNeg a1))).toNatClampNeg a2)) (upd (q_dc (s_db (s_da x (upd (q_da x) (q_dn x).toNatClampNeg a1)) (upd (q_db (s_da x (upd (q_da x) (q_dn x).toNatClampNeg a1))) (q_dn (s_da x (upd (q_da x) (q_dn x).toNatClampNeg a1))).toNatClampNeg a2))) (q_dn (s_db (s_da x (upd (q_da x) (q_dn x).toNatClampNeg a1)) (upd (q_db (s_da x (upd (q_da x) (q_dn x).toNatClampNeg a1))) (q_dn (s_da x (upd (q_da x) (q_dn x).toNatClampNeg a1))).toNatClampNeg a2))).toNatClampNeg a3))) (q_dn (s_dc (s_db (s_da x (upd (q_da x) (q_dn x).toNatClampNeg a1)) (upd (q_db (s_da x (upd (q_da x) (q_dn x).toNatClampNeg a1))) (q_dn (s_da x (upd (q_da x) (q_dn x).toNatClampNeg a1))).toNatClampNeg a2)) (upd (q_dc (s_db (s_da x (upd (q_da x) (q_dn x).toNatClampNeg a1)) (upd (q_db (s_da x (upd (q_da x) (q_dn x).toNatClampNeg a1))) (q_dn (s_da x (upd (q_da x) (q_dn x).toNatClampNeg a1))).toNatClampNeg a2))) (q_dn (s_db (s_da x (upd (q_da x) (q_dn x).toNatClampNeg a1)) (upd (q_db (s_da x (upd (q_da x) (q_dn x).toNatClampNeg a1))) (q_dn (s_da x (upd (q_da x) (q_dn x).toNatClampNeg a1))).toNatClampNeg a2))).toNatClampNeg a3))).toNatClampNeg a4)) ((q_dn (s_dk (s_dc (s_db (s_da x (upd (q_da x) (q_dn x).toNatClampNeg a1)) (upd (q_db (s_da x (upd (q_da x) (q_dn x).toNatClampNeg a1))) (q_dn (s_da x (upd (q_da x) (q_dn x).toNatClampNeg a1))).toNatClampNeg a2)) (upd (q_dc (s_db (s_da x (upd (q_da x) (q_dn x).toNatClampNeg a1)) (upd (q_db (s_da x (upd (q_da x) (q_dn x).toNatClampNeg a1))) (q_dn (s_da x (upd (q_da x) (q_dn x).toNatClampNeg a1))).toNatClampNeg a2))) (q_dn (s_db (s_da x (upd (q_da x) (q_dn x).toNatClampNeg a1)) (upd (q_db (s_da x (upd (q_da x) (q_dn x).toNatClampNeg a1))) (q_dn (s_da x (upd (q_da x) (q_dn x).toNatClampNeg a1))).toNatClampNeg a2))).toNatClampNeg a3)) (upd (q_dk (s_dc (s_db (s_da x (upd (q_da x) (q_dn x).toNatClampNeg a1)) (upd (q_db (s_da x (upd (q_da x) (q_dn x).toNatClampNeg a1))) (q_dn (s_da x (upd (q_da x) (q_dn x).toNatClampNeg a1))).toNatClampNeg a2)) (upd (q_dc (s_db (s_da x (upd (q_da x) (q_dn x).toNatClampNeg a1)) (upd (q_db (s_da x (upd (q_da x) (q_dn x).toNatClampNeg a1))) (q_dn (s_da x (upd (q_da x) (q_dn x).toNatClampNeg a1))).toNatClampNeg a2))) (q_dn (s_db (s_da x (upd (q_da x) (q_dn x).toNatClampNeg a1)) (upd (q_db (s_da x (upd (q_da x) (q_dn x).toNatClampNeg a1))) (q_dn (s_da x (upd (q_da x) (q_dn x).toNatClampNeg a1))).toNatClampNeg a2))).toNatClampNeg a3))) (q_dn (s_dc (s_db (s_da x (upd (q_da x) (q_dn x).toNatClampNeg a1)) (upd (q_db (s_da x (upd (q_da x) (q_dn x).toNatClampNeg a1))) (q_dn (s_da x (upd (q_da x) (q_dn x).toNatClampNeg a1))).toNatClampNeg a2)) (upd (q_dc (s_db (s_da x (upd (q_da x) (q_dn x).toNatClampNeg a1)) (upd (q_db (s_da x (upd (q_da x) (q_dn x).toNatClampNeg a1))) (q_dn (s_da x (upd (q_da x) (q_dn x).toNatClampNeg a1))).toNatClampNeg a2))) (q_dn (s_db (s_da x (upd (q_da x) (q_dn x).toNatClampNeg a1)) (upd (q_db (s_da x (upd (q_da x) (q_dn x).toNatClampNeg a1))) (q_dn (s_da x (upd (q_da x) (q_dn x).toNatClampNeg a1))).toNatClampNeg a2))).toNatClampNeg a3))).toNatClampNeg a4))) + 1))) - 1, s_dn (s_dk (s_dc (s_db (s_da x (upd (q_da x) (q_dn x).toNatClampNeg a1)) (upd (q_db (s_da x (upd (q_da x) (q_dn x).toNatClampNeg a1))) (q_dn (s_da x (upd (q_da x) (q_dn x).toNatClampNeg a1))).toNatClampNeg a2)) (upd (q_dc (s_db (s_da x (upd (q_da x) (q_dn x).toNatClampNeg a1)) (upd (q_db (s_da x (upd (q_da x) (q_dn x).toNatClampNeg a1))) (q_dn (s_da x (upd (q_da x) (q_dn x).toNatClampNeg a1))).toNatClampNeg a2))) (q_dn (s_db (s_da x (upd (q_da x) (q_dn x).toNatClampNeg a1)) (upd (q_db (s_da x (upd (q_da x) (q_dn x).toNatClampNeg a1))) (q_dn (s_da x (upd (q_da x) (q_dn x).toNatClampNeg a1))).toNatClampNeg a2))).toNatClampNeg a3)) (upd (q_dk (s_dc (s_db (s_da x (upd (q_da x) (q_dn x).toNatClampNeg a1)) (upd (q_db (s_da x (upd (q_da x) (q_dn x).toNatClampNeg a1))) (q_dn (s_da x (upd (q_da x) (q_dn x).toNatClampNeg a1))).toNatClampNeg a2)) (upd (q_dc (s_db (s_da x (upd (q_da x) (q_dn x).toNatClampNeg a1)) (upd (q_db (s_da x (upd (q_da x) (q_dn x).toNatClampNeg a1))) (q_dn (s_da x (upd (q_da x) (q_dn x).toNatClampNeg a1))).toNatClampNeg a2))) (q_dn (s_db (s_da x (upd (q_da x) (q_dn x).toNatClampNeg a1)) (upd (q_db (s_da x (upd (q_da x) (q_dn x).toNatClampNeg a1))) (q_dn (s_da x (upd (q_da x) (q_dn x).toNatClampNeg a1))).toNatClampNeg a2))).toNatClampNeg a3))) (q_dn (s_dc (s_db (s_da x (upd (q_da x) (q_dn x).toNatClampNeg a1)) (upd (q_db (s_da x (upd (q_da x) (q_dn x).toNatClampNeg a1))) (q_dn (s_da x (upd (q_da x) (q_dn x).toNatClampNeg a1))).toNatClampNeg a2)) (upd (q_dc (s_db (s_da x (upd (q_da x) (q_dn x).toNatClampNeg a1)) (upd (q_db (s_da x (upd (q_da x) (q_dn x).toNatClampNeg a1))) (q_dn (s_da x (upd (q_da x) (q_dn x).toNatClampNeg a1))).toNatClampNeg a2))) (q_dn (s_db (s_da x (upd (q_da x) (q_dn x).toNatClampNeg a1)) (upd (q_db (s_da x (upd (q_da x) (q_dn x).toNatClampNeg a1))) (q_dn (s_da x (upd (q_da x) (q_dn x).toNatClampNeg a1))).toNatClampNeg a2))).toNatClampNeg a3))).toNatClampNeg a4)) ((q_dn (s_dk (s_dc (s_db (s_da x (upd (q_da x) (q_dn x).toNatClampNeg a1)) (upd (q_db (s_da x (upd (q_da x) (q_dn x).toNatClampNeg a1))) (q_dn (s_da x (upd (q_da x) (q_dn x).toNatClampNeg a1))).toNatClampNeg a2)) (upd (q_dc (s_db (s_da x (upd (q_da x) (q_dn x).toNatClampNeg a1)) (upd (q_db (s_da x (upd (q_da x) (q_dn x).toNatClampNeg a1))) (q_dn (s_da x (upd (q_da x) (q_dn x).toNatClampNeg a1))).toNatClampNeg a2))) (q_dn (s_db (s_da x (upd (q_da x) (q_dn x).toNatClampNeg a1)) (upd (q_db (s_da x (upd (q_da x) (q_dn x).toNatClampNeg a1))) (q_dn (s_da x (upd (q_da x) (q_dn x).toNatClampNeg a1))).toNatClampNeg a2))).toNatClampNeg a3)) (upd (q_dk (s_dc (s_db (s_da x (upd (q_da x) (q_dn x).toNatClampNeg a1)) (upd (q_db (s_da x (upd (q_da x) (q_dn x).toNatClampNeg a1))) (q_dn (s_da x (upd (q_da x) (q_dn x).toNatClampNeg a1))).toNatClampNeg a2)) (upd (q_dc (s_db (s_da x (upd (q_da x) (q_dn x).toNatClampNeg a1)) (upd (q_db (s_da x (upd (q_da x) (q_dn x).toNatClampNeg a1))) (q_dn (s_da x (upd (q_da x) (q_dn x).toNatClampNeg a1))).toNatClampNeg a2))) (q_dn (s_db (s_da x (upd (q_da x) (q_dn x).toNatClampNeg a1)) (upd (q_db (s_da x (upd (q_da x) (q_dn x).toNatClampNeg a1))) (q_dn (s_da x (upd (q_da x) (q_dn x).toNatClampNeg a1))).toNatClampNeg a2))).toNatClampNeg a3))) (q_dn (s_dc (s_db (s_da x (upd (q_da x) (q_dn x).toNatClampNeg a1)) (upd (q_db (s_da x (upd (q_da x) (q_dn x).toNatClampNeg a1))) (q_dn (s_da x (upd (q_da x) (q_dn x).toNatClampNeg a1))).toNatClampNeg a2)) (upd (q_dc (s_db (s_da x (upd (q_da x) (q_dn x).toNatClampNeg a1)) (upd (q_db (s_da x (upd (q_da x) (q_dn x).toNatClampNeg a1))) (q_dn (s_da x (upd (q_da x) (q_dn x).toNatClampNeg a1))).toNatClampNeg a2))) (q_dn (s_db (s_da x (upd (q_da x) (q_dn x).toNatClampNeg a1)) (upd (q_db (s_da x (upd (q_da x) (q_dn x).toNatClampNeg a1))) (q_dn (s_da x (upd (q_da x) (q_dn x).toNatClampNeg a1))).toNatClampNeg a2))).toNatClampNeg a3))).toNatClampNeg a4))) + 1)) else ((-1), x)
set_option maxHeartbeats 4000000 in
set_option maxRecDepth 100000 in
theorem u_Doors_add (l : Launch) (dC : Nat → ClassId) (dI : Nat → Nat → Nat) (cI cZ : ClassId) (ad : Nat → Nat) (hj : aInj 29 ad) (x : ST) (hI : CIn x) (sz : Nat) (a1 a2 a3 a4 : Int32) : MX l y_Doors_add (Cond.code y_Doors_add b_Doors_add 5 (some .int) :: BW) { frames := 0, cells := 0, slots := 0, locals := 0 } (PCZ sz (dC, dI) [(cI, .int), (cZ, .boolean)] (wC cI cZ ad x) [.ref (ad 2), .int a1, .int a2, .int a3, .int a4]) (UQ (some (.int (g_Doors_add x a1 a2 a3 a4).1)) (WB (dC, dI) [(cI, .int), (cZ, .boolean)] (wC cI cZ ad (g_Doors_add x a1 a2 a3 a4).2)) (aC 29 ad sz)) 0 0 (aC 29 ad sz) := by
  refine MX.ofW (cc := b_Doors_add) (maxL := 5) (ret := (some .int)) (by decide) rfl ?_
  intro p e s m args below meth c s₁ B hml hex hv
  obtain ⟨hsz, rfl, hP, hK, hN⟩ := hv
  subst hsz
  have hx := B.exec
  have hb := B.bytes
  have hr := B.returns
  have hts := atoms_spec (ws := Cond.code y_Doors_add b_Doors_add 5 (some .int) :: BW) B.pre
  have hbw : ∀ w ∈ BW, w.before ([.ref (ad 2), .int a1, .int a2, .int a3, .int a4]).toArray s = true := fun w h => hts w (List.mem_cons_of_mem _ h)
  have hown : s.vm.findClass "PlanRows$Doors" = some m.cls := findClass_of_methodNamed B.named
  have hlocks := B.notSynchronized
  have hDx : ∀ z, va_D (aC 29 ad s.heap.size) (wC cI cZ ad z) := fun z => w_D hj (wC_ad cI cZ ad z) _
  have hA : ∀ H : Heap, s.heap.size ≤ H.size → ∀ q, aC 29 ad H.size q → aC 29 ad s.heap.size q := fun H h => aC_le h
  generalize aC 29 ad s.heap.size = A at hDx hA ⊢
  have hD := hDx x
  have hS : va_S A s.heap s.heap [] := va_S.rf
  have hI0 := hI
  have hl := lv_entry ([.ref (ad 2), .int a1, .int a2, .int a3, .int a4]) (n := 5) (Nat.le_of_ble_eq_true rfl)
  rw [lg_entry_eq]
  generalize (lg_sl ([.ref (ad 2), .int a1, .int a2, .int a3, .int a4]) ++ List.replicate (5 - (lg_sl ([.ref (ad 2), .int a1, .int a2, .int a3, .int a4])).length) Slot.unset).toArray = ls at hl ⊢
  obtain ⟨H, hH⟩ : ∃ H, H = s.heap := ⟨_, rfl⟩
  obtain ⟨locs, hlocs⟩ : ∃ locs : List Loc, locs = [] := ⟨_, rfl⟩
  have hP : va_P (dC, dI) clsA (wC cI cZ ad x) H := by rw [hH]; exact hP
  have hS : va_S A s.heap H locs := by rw [hH, hlocs]; exact hS
  rw [← hlocs]
  have hW0 : ∀ (R : Room) (Q : State → Prop) (g : JFrame), W p l e R s m ([.ref (ad 2), .int a1, .int a2, .int a3, .int a4]).toArray below meth c H locs 0 0 Q g → W p l e R s m ([.ref (ad 2), .int a1, .int a2, .int a3, .int a4]).toArray below meth c s.heap locs 0 0 Q g := fun R Q g h => by rw [← hH]; exact h
  refine hW0 _ _ _ ?_
  have hl : lv_has ls 5 [(0, .ref (ad 2)), (1, .int a1), (2, .int a2), (3, .int a3), (4, .int a4)] := hl
  refine lv_aload_n hx hb d_Doors_add_0 rfl (lv_at hl 0 rfl) ?_
  refine va_get (D := (dC, dI)) (ci := 2) (v := .int (q_dn x)) (C := R_Doors) (T := F_Doors) (N := 5) hx hb hbw in_Doors hown hK hP 2 rfl rfl 4 (by decide) (hbw _ w_60) (fun _ h9 => h9) rfl d_Doors_add_1 ?_
  refine lv_bipush (v := 80) hx hb d_Doors_add_4 (by decide) ?_
  refine lv_icmp_lt (tgt := 11) hx hb d_Doors_add_6 (by decide) (fun c_1 => ?_) (fun c_1 => ?_)
  · refine lv_aload_n hx hb d_Doors_add_11 rfl (lv_at hl 0 rfl) ?_
    refine va_get (D := (dC, dI)) (ci := 2) (v := .ref (ad 12)) (C := R_Doors) (T := F_Doors) (N := 5) hx hb hbw in_Doors hown hK hP 2 rfl rfl 0 (by decide) (hbw _ w_56) (fun _ h9 => h9) rfl d_Doors_add_12 ?_
    refine lv_aload_n hx hb d_Doors_add_15 rfl (lv_at hl 0 rfl) ?_
    refine va_get (D := (dC, dI)) (ci := 2) (v := .int (q_dn x)) (C := R_Doors) (T := F_Doors) (N := 5) hx hb hbw in_Doors hown hK hP 2 rfl rfl 4 (by decide) (hbw _ w_60) (fun _ h9 => h9) rfl d_Doors_add_16 ?_
    refine lv_iload_n hx hb d_Doors_add_19 rfl (lv_at hl 1 rfl) ?_
    refine va_iast hx hb hK hP hD hS 12 0 rfl rfl (ix_szl hI.2.1 c_1 rfl) d_Doors_add_20 (fun H locs hP hD hS => ?_)
    rw [wC_s_da] at hP hD
    refine lv_aload_n hx hb d_Doors_add_21 rfl (lv_at hl 0 rfl) ?_
    refine va_get (D := (dC, dI)) (ci := 2) (v := .ref (ad 13)) (C := R_Doors) (T := F_Doors) (N := 5) hx hb hbw in_Doors hown hK hP 2 rfl rfl 1 (by decide) (hbw _ w_57) (fun _ h9 => h9) rfl d_Doors_add_22 ?_
    refine lv_aload_n hx hb d_Doors_add_25 rfl (lv_at hl 0 rfl) ?_
    refine va_get (D := (dC, dI)) (ci := 2) (v := .int (q_dn (s_da x (upd (q_da x) (q_dn x).toNatClampNeg a1)))) (C := R_Doors) (T := F_Doors) (N := 5) hx hb hbw in_Doors hown hK hP 2 rfl rfl 4 (by decide) (hbw _ w_60) (fun _ h9 => h9) rfl d_Doors_add_26 ?_
    refine lv_iload_n hx hb d_Doors_add_29 rfl (lv_at hl 2 rfl) ?_
    refine va_iast hx hb hK hP hD hS 13 0 rfl rfl (ix_szl hI.2.1 c_1 rfl) d_Doors_add_30 (fun H locs hP hD hS => ?_)
    rw [wC_s_db] at hP hD
    refine lv_aload_n hx hb d_Doors_add_31 rfl (lv_at hl 0 rfl) ?_
    refine va_get (D := (dC, dI)) (ci := 2) (v := .ref (ad 14)) (C := R_Doors) (T := F_Doors) (N := 5) hx hb hbw in_Doors hown hK hP 2 rfl rfl 2 (by decide) (hbw _ w_58) (fun _ h9 => h9) rfl d_Doors_add_32 ?_
    refine lv_aload_n hx hb d_Doors_add_35 rfl (lv_at hl 0 rfl) ?_
    refine va_get (D := (dC, dI)) (ci := 2) (v := .int (q_dn (s_db (s_da x (upd (q_da x) (q_dn x).toNatClampNeg a1)) (upd (q_db (s_da x (upd (q_da x) (q_dn x).toNatClampNeg a1))) (q_dn (s_da x (upd (q_da x) (q_dn x).toNatClampNeg a1))).toNatClampNeg a2)))) (C := R_Doors) (T := F_Doors) (N := 5) hx hb hbw in_Doors hown hK hP 2 rfl rfl 4 (by decide) (hbw _ w_60) (fun _ h9 => h9) rfl d_Doors_add_36 ?_
    refine lv_iload_n hx hb d_Doors_add_39 rfl (lv_at hl 3 rfl) ?_
    refine va_iast hx hb hK hP hD hS 14 0 rfl rfl (ix_szl hI.2.1 c_1 rfl) d_Doors_add_40 (fun H locs hP hD hS => ?_)
    rw [wC_s_dc] at hP hD
    refine lv_aload_n hx hb d_Doors_add_41 rfl (lv_at hl 0 rfl) ?_
    refine va_get (D := (dC, dI)) (ci := 2) (v := .ref (ad 15)) (C := R_Doors) (T := F_Doors) (N := 5) hx hb hbw in_Doors hown hK hP 2 rfl rfl 3 (by decide) (hbw _ w_59) (fun _ h9 => h9) rfl d_Doors_add_42 ?_
    refine lv_aload_n hx hb d_Doors_add_45 rfl (lv_at hl 0 rfl) ?_
    refine va_get (D := (dC, dI)) (ci := 2) (v := .int (q_dn (s_dc (s_db (s_da x (upd (q_da x) (q_dn x).toNatClampNeg a1)) (upd (q_db (s_da x (upd (q_da x) (q_dn x).toNatClampNeg a1))) (q_dn (s_da x (upd (q_da x) (q_dn x).toNatClampNeg a1))).toNatClampNeg a2)) (upd (q_dc (s_db (s_da x (upd (q_da x) (q_dn x).toNatClampNeg a1)) (upd (q_db (s_da x (upd (q_da x) (q_dn x).toNatClampNeg a1))) (q_dn (s_da x (upd (q_da x) (q_dn x).toNatClampNeg a1))).toNatClampNeg a2))) (q_dn (s_db (s_da x (upd (q_da x) (q_dn x).toNatClampNeg a1)) (upd (q_db (s_da x (upd (q_da x) (q_dn x).toNatClampNeg a1))) (q_dn (s_da x (upd (q_da x) (q_dn x).toNatClampNeg a1))).toNatClampNeg a2))).toNatClampNeg a3)))) (C := R_Doors) (T := F_Doors) (N := 5) hx hb hbw in_Doors hown hK hP 2 rfl rfl 4 (by decide) (hbw _ w_60) (fun _ h9 => h9) rfl d_Doors_add_46 ?_
    refine lv_iload hx hb d_Doors_add_49 (lv_at hl 4 rfl) ?_
    refine va_iast hx hb hK hP hD hS 15 0 rfl rfl (ix_szl hI.2.1 c_1 rfl) d_Doors_add_51 (fun H locs hP hD hS => ?_)
    rw [wC_s_dk] at hP hD
    refine lv_aload_n hx hb d_Doors_add_52 rfl (lv_at hl 0 rfl) ?_
    refine lv_dup hx hb d_Doors_add_53 rfl ?_
    refine va_get (D := (dC, dI)) (ci := 2) (v := .int (q_dn (s_dk (s_dc (s_db (s_da x (upd (q_da x) (q_dn x).toNatClampNeg a1)) (upd (q_db (s_da x (upd (q_da x) (q_dn x).toNatClampNeg a1))) (q_dn (s_da x (upd (q_da x) (q_dn x).toNatClampNeg a1))).toNatClampNeg a2)) (upd (q_dc (s_db (s_da x (upd (q_da x) (q_dn x).toNatClampNeg a1)) (upd (q_db (s_da x (upd (q_da x) (q_dn x).toNatClampNeg a1))) (q_dn (s_da x (upd (q_da x) (q_dn x).toNatClampNeg a1))).toNatClampNeg a2))) (q_dn (s_db (s_da x (upd (q_da x) (q_dn x).toNatClampNeg a1)) (upd (q_db (s_da x (upd (q_da x) (q_dn x).toNatClampNeg a1))) (q_dn (s_da x (upd (q_da x) (q_dn x).toNatClampNeg a1))).toNatClampNeg a2))).toNatClampNeg a3)) (upd (q_dk (s_dc (s_db (s_da x (upd (q_da x) (q_dn x).toNatClampNeg a1)) (upd (q_db (s_da x (upd (q_da x) (q_dn x).toNatClampNeg a1))) (q_dn (s_da x (upd (q_da x) (q_dn x).toNatClampNeg a1))).toNatClampNeg a2)) (upd (q_dc (s_db (s_da x (upd (q_da x) (q_dn x).toNatClampNeg a1)) (upd (q_db (s_da x (upd (q_da x) (q_dn x).toNatClampNeg a1))) (q_dn (s_da x (upd (q_da x) (q_dn x).toNatClampNeg a1))).toNatClampNeg a2))) (q_dn (s_db (s_da x (upd (q_da x) (q_dn x).toNatClampNeg a1)) (upd (q_db (s_da x (upd (q_da x) (q_dn x).toNatClampNeg a1))) (q_dn (s_da x (upd (q_da x) (q_dn x).toNatClampNeg a1))).toNatClampNeg a2))).toNatClampNeg a3))) (q_dn (s_dc (s_db (s_da x (upd (q_da x) (q_dn x).toNatClampNeg a1)) (upd (q_db (s_da x (upd (q_da x) (q_dn x).toNatClampNeg a1))) (q_dn (s_da x (upd (q_da x) (q_dn x).toNatClampNeg a1))).toNatClampNeg a2)) (upd (q_dc (s_db (s_da x (upd (q_da x) (q_dn x).toNatClampNeg a1)) (upd (q_db (s_da x (upd (q_da x) (q_dn x).toNatClampNeg a1))) (q_dn (s_da x (upd (q_da x) (q_dn x).toNatClampNeg a1))).toNatClampNeg a2))) (q_dn (s_db (s_da x (upd (q_da x) (q_dn x).toNatClampNeg a1)) (upd (q_db (s_da x (upd (q_da x) (q_dn x).toNatClampNeg a1))) (q_dn (s_da x (upd (q_da x) (q_dn x).toNatClampNeg a1))).toNatClampNeg a2))).toNatClampNeg a3))).toNatClampNeg a4)))) (C := R_Doors) (T := F_Doors) (N := 5) hx hb hbw in_Doors hown hK hP 2 rfl rfl 4 (by decide) (hbw _ w_60) (fun _ h9 => h9) rfl d_Doors_add_54 ?_
    refine lv_iconst (v := 1) hx hb d_Doors_add_57 (by decide) ?_
    refine lv_iadd hx hb d_Doors_add_58 ?_
    refine va_put (D := (dC, dI)) (ci := 2) (v := .int ((q_dn (s_dk (s_dc (s_db (s_da x (upd (q_da x) (q_dn x).toNatClampNeg a1)) (upd (q_db (s_da x (upd (q_da x) (q_dn x).toNatClampNeg a1))) (q_dn (s_da x (upd (q_da x) (q_dn x).toNatClampNeg a1))).toNatClampNeg a2)) (upd (q_dc (s_db (s_da x (upd (q_da x) (q_dn x).toNatClampNeg a1)) (upd (q_db (s_da x (upd (q_da x) (q_dn x).toNatClampNeg a1))) (q_dn (s_da x (upd (q_da x) (q_dn x).toNatClampNeg a1))).toNatClampNeg a2))) (q_dn (s_db (s_da x (upd (q_da x) (q_dn x).toNatClampNeg a1)) (upd (q_db (s_da x (upd (q_da x) (q_dn x).toNatClampNeg a1))) (q_dn (s_da x (upd (q_da x) (q_dn x).toNatClampNeg a1))).toNatClampNeg a2))).toNatClampNeg a3)) (upd (q_dk (s_dc (s_db (s_da x (upd (q_da x) (q_dn x).toNatClampNeg a1)) (upd (q_db (s_da x (upd (q_da x) (q_dn x).toNatClampNeg a1))) (q_dn (s_da x (upd (q_da x) (q_dn x).toNatClampNeg a1))).toNatClampNeg a2)) (upd (q_dc (s_db (s_da x (upd (q_da x) (q_dn x).toNatClampNeg a1)) (upd (q_db (s_da x (upd (q_da x) (q_dn x).toNatClampNeg a1))) (q_dn (s_da x (upd (q_da x) (q_dn x).toNatClampNeg a1))).toNatClampNeg a2))) (q_dn (s_db (s_da x (upd (q_da x) (q_dn x).toNatClampNeg a1)) (upd (q_db (s_da x (upd (q_da x) (q_dn x).toNatClampNeg a1))) (q_dn (s_da x (upd (q_da x) (q_dn x).toNatClampNeg a1))).toNatClampNeg a2))).toNatClampNeg a3))) (q_dn (s_dc (s_db (s_da x (upd (q_da x) (q_dn x).toNatClampNeg a1)) (upd (q_db (s_da x (upd (q_da x) (q_dn x).toNatClampNeg a1))) (q_dn (s_da x (upd (q_da x) (q_dn x).toNatClampNeg a1))).toNatClampNeg a2)) (upd (q_dc (s_db (s_da x (upd (q_da x) (q_dn x).toNatClampNeg a1)) (upd (q_db (s_da x (upd (q_da x) (q_dn x).toNatClampNeg a1))) (q_dn (s_da x (upd (q_da x) (q_dn x).toNatClampNeg a1))).toNatClampNeg a2))) (q_dn (s_db (s_da x (upd (q_da x) (q_dn x).toNatClampNeg a1)) (upd (q_db (s_da x (upd (q_da x) (q_dn x).toNatClampNeg a1))) (q_dn (s_da x (upd (q_da x) (q_dn x).toNatClampNeg a1))).toNatClampNeg a2))).toNatClampNeg a3))).toNatClampNeg a4))) + 1)) (ty := .int) (C := R_Doors) (T := F_Doors) (N := 5) hx hb hbw in_Doors t_Doors t_Doors_ok n_Doors hown hK hP hD hS 2 rfl rfl 4 (by decide) (hbw _ w_60) (fun _ h9 => h9) rfl (by decide +kernel) rfl rfl (Nat.le_of_ble_eq_true rfl) d_Doors_add_59 (fun H locs hP hD hS => ?_)
    rw [wC_s_dn] at hP hD
    refine lv_aload_n hx hb d_Doors_add_62 rfl (lv_at hl 0 rfl) ?_
    refine va_get (D := (dC, dI)) (ci := 2) (v := .int (q_dn (s_dn (s_dk (s_dc (s_db (s_da x (upd (q_da x) (q_dn x).toNatClampNeg a1)) (upd (q_db (s_da x (upd (q_da x) (q_dn x).toNatClampNeg a1))) (q_dn (s_da x (upd (q_da x) (q_dn x).toNatClampNeg a1))).toNatClampNeg a2)) (upd (q_dc (s_db (s_da x (upd (q_da x) (q_dn x).toNatClampNeg a1)) (upd (q_db (s_da x (upd (q_da x) (q_dn x).toNatClampNeg a1))) (q_dn (s_da x (upd (q_da x) (q_dn x).toNatClampNeg a1))).toNatClampNeg a2))) (q_dn (s_db (s_da x (upd (q_da x) (q_dn x).toNatClampNeg a1)) (upd (q_db (s_da x (upd (q_da x) (q_dn x).toNatClampNeg a1))) (q_dn (s_da x (upd (q_da x) (q_dn x).toNatClampNeg a1))).toNatClampNeg a2))).toNatClampNeg a3)) (upd (q_dk (s_dc (s_db (s_da x (upd (q_da x) (q_dn x).toNatClampNeg a1)) (upd (q_db (s_da x (upd (q_da x) (q_dn x).toNatClampNeg a1))) (q_dn (s_da x (upd (q_da x) (q_dn x).toNatClampNeg a1))).toNatClampNeg a2)) (upd (q_dc (s_db (s_da x (upd (q_da x) (q_dn x).toNatClampNeg a1)) (upd (q_db (s_da x (upd (q_da x) (q_dn x).toNatClampNeg a1))) (q_dn (s_da x (upd (q_da x) (q_dn x).toNatClampNeg a1))).toNatClampNeg a2))) (q_dn (s_db (s_da x (upd (q_da x) (q_dn x).toNatClampNeg a1)) (upd (q_db (s_da x (upd (q_da x) (q_dn x).toNatClampNeg a1))) (q_dn (s_da x (upd (q_da x) (q_dn x).toNatClampNeg a1))).toNatClampNeg a2))).toNatClampNeg a3))) (q_dn (s_dc (s_db (s_da x (upd (q_da x) (q_dn x).toNatClampNeg a1)) (upd (q_db (s_da x (upd (q_da x) (q_dn x).toNatClampNeg a1))) (q_dn (s_da x (upd (q_da x) (q_dn x).toNatClampNeg a1))).toNatClampNeg a2)) (upd (q_dc (s_db (s_da x (upd (q_da x) (q_dn x).toNatClampNeg a1)) (upd (q_db (s_da x (upd (q_da x) (q_dn x).toNatClampNeg a1))) (q_dn (s_da x (upd (q_da x) (q_dn x).toNatClampNeg a1))).toNatClampNeg a2))) (q_dn (s_db (s_da x (upd (q_da x) (q_dn x).toNatClampNeg a1)) (upd (q_db (s_da x (upd (q_da x) (q_dn x).toNatClampNeg a1))) (q_dn (s_da x (upd (q_da x) (q_dn x).toNatClampNeg a1))).toNatClampNeg a2))).toNatClampNeg a3))).toNatClampNeg a4)) ((q_dn (s_dk (s_dc (s_db (s_da x (upd (q_da x) (q_dn x).toNatClampNeg a1)) (upd (q_db (s_da x (upd (q_da x) (q_dn x).toNatClampNeg a1))) (q_dn (s_da x (upd (q_da x) (q_dn x).toNatClampNeg a1))).toNatClampNeg a2)) (upd (q_dc (s_db (s_da x (upd (q_da x) (q_dn x).toNatClampNeg a1)) (upd (q_db (s_da x (upd (q_da x) (q_dn x).toNatClampNeg a1))) (q_dn (s_da x (upd (q_da x) (q_dn x).toNatClampNeg a1))).toNatClampNeg a2))) (q_dn (s_db (s_da x (upd (q_da x) (q_dn x).toNatClampNeg a1)) (upd (q_db (s_da x (upd (q_da x) (q_dn x).toNatClampNeg a1))) (q_dn (s_da x (upd (q_da x) (q_dn x).toNatClampNeg a1))).toNatClampNeg a2))).toNatClampNeg a3)) (upd (q_dk (s_dc (s_db (s_da x (upd (q_da x) (q_dn x).toNatClampNeg a1)) (upd (q_db (s_da x (upd (q_da x) (q_dn x).toNatClampNeg a1))) (q_dn (s_da x (upd (q_da x) (q_dn x).toNatClampNeg a1))).toNatClampNeg a2)) (upd (q_dc (s_db (s_da x (upd (q_da x) (q_dn x).toNatClampNeg a1)) (upd (q_db (s_da x (upd (q_da x) (q_dn x).toNatClampNeg a1))) (q_dn (s_da x (upd (q_da x) (q_dn x).toNatClampNeg a1))).toNatClampNeg a2))) (q_dn (s_db (s_da x (upd (q_da x) (q_dn x).toNatClampNeg a1)) (upd (q_db (s_da x (upd (q_da x) (q_dn x).toNatClampNeg a1))) (q_dn (s_da x (upd (q_da x) (q_dn x).toNatClampNeg a1))).toNatClampNeg a2))).toNatClampNeg a3))) (q_dn (s_dc (s_db (s_da x (upd (q_da x) (q_dn x).toNatClampNeg a1)) (upd (q_db (s_da x (upd (q_da x) (q_dn x).toNatClampNeg a1))) (q_dn (s_da x (upd (q_da x) (q_dn x).toNatClampNeg a1))).toNatClampNeg a2)) (upd (q_dc (s_db (s_da x (upd (q_da x) (q_dn x).toNatClampNeg a1)) (upd (q_db (s_da x (upd (q_da x) (q_dn x).toNatClampNeg a1))) (q_dn (s_da x (upd (q_da x) (q_dn x).toNatClampNeg a1))).toNatClampNeg a2))) (q_dn (s_db (s_da x (upd (q_da x) (q_dn x).toNatClampNeg a1)) (upd (q_db (s_da x (upd (q_da x) (q_dn x).toNatClampNeg a1))) (q_dn (s_da x (upd (q_da x) (q_dn x).toNatClampNeg a1))).toNatClampNeg a2))).toNatClampNeg a3))).toNatClampNeg a4))) + 1)))) (C := R_Doors) (T := F_Doors) (N := 5) hx hb hbw in_Doors hown hK hP 2 rfl rfl 4 (by decide) (hbw _ w_60) (fun _ h9 => h9) rfl d_Doors_add_63 ?_
    refine lv_iconst (v := 1) hx hb d_Doors_add_66 (by decide) ?_
    refine lv_isub hx hb d_Doors_add_67 ?_
    have hg : g_Doors_add x a1 a2 a3 a4 = ((q_dn (s_dn (s_dk (s_dc (s_db (s_da x (upd (q_da x) (q_dn x).toNatClampNeg a1)) (upd (q_db (s_da x (upd (q_da x) (q_dn x).toNatClampNeg a1))) (q_dn (s_da x (upd (q_da x) (q_dn x).toNatClampNeg a1))).toNatClampNeg a2)) (upd (q_dc (s_db (s_da x (upd (q_da x) (q_dn x).toNatClampNeg a1)) (upd (q_db (s_da x (upd (q_da x) (q_dn x).toNatClampNeg a1))) (q_dn (s_da x (upd (q_da x) (q_dn x).toNatClampNeg a1))).toNatClampNeg a2))) (q_dn (s_db (s_da x (upd (q_da x) (q_dn x).toNatClampNeg a1)) (upd (q_db (s_da x (upd (q_da x) (q_dn x).toNatClampNeg a1))) (q_dn (s_da x (upd (q_da x) (q_dn x).toNatClampNeg a1))).toNatClampNeg a2))).toNatClampNeg a3)) (upd (q_dk (s_dc (s_db (s_da x (upd (q_da x) (q_dn x).toNatClampNeg a1)) (upd (q_db (s_da x (upd (q_da x) (q_dn x).toNatClampNeg a1))) (q_dn (s_da x (upd (q_da x) (q_dn x).toNatClampNeg a1))).toNatClampNeg a2)) (upd (q_dc (s_db (s_da x (upd (q_da x) (q_dn x).toNatClampNeg a1)) (upd (q_db (s_da x (upd (q_da x) (q_dn x).toNatClampNeg a1))) (q_dn (s_da x (upd (q_da x) (q_dn x).toNatClampNeg a1))).toNatClampNeg a2))) (q_dn (s_db (s_da x (upd (q_da x) (q_dn x).toNatClampNeg a1)) (upd (q_db (s_da x (upd (q_da x) (q_dn x).toNatClampNeg a1))) (q_dn (s_da x (upd (q_da x) (q_dn x).toNatClampNeg a1))).toNatClampNeg a2))).toNatClampNeg a3))) (q_dn (s_dc (s_db (s_da x (upd (q_da x) (q_dn x).toNatClampNeg a1)) (upd (q_db (s_da x (upd (q_da x) (q_dn x).toNatClampNeg a1))) (q_dn (s_da x (upd (q_da x) (q_dn x).toNatClampNeg a1))).toNatClampNeg a2)) (upd (q_dc (s_db (s_da x (upd (q_da x) (q_dn x).toNatClampNeg a1)) (upd (q_db (s_da x (upd (q_da x) (q_dn x).toNatClampNeg a1))) (q_dn (s_da x (upd (q_da x) (q_dn x).toNatClampNeg a1))).toNatClampNeg a2))) (q_dn (s_db (s_da x (upd (q_da x) (q_dn x).toNatClampNeg a1)) (upd (q_db (s_da x (upd (q_da x) (q_dn x).toNatClampNeg a1))) (q_dn (s_da x (upd (q_da x) (q_dn x).toNatClampNeg a1))).toNatClampNeg a2))).toNatClampNeg a3))).toNatClampNeg a4)) ((q_dn (s_dk (s_dc (s_db (s_da x (upd (q_da x) (q_dn x).toNatClampNeg a1)) (upd (q_db (s_da x (upd (q_da x) (q_dn x).toNatClampNeg a1))) (q_dn (s_da x (upd (q_da x) (q_dn x).toNatClampNeg a1))).toNatClampNeg a2)) (upd (q_dc (s_db (s_da x (upd (q_da x) (q_dn x).toNatClampNeg a1)) (upd (q_db (s_da x (upd (q_da x) (q_dn x).toNatClampNeg a1))) (q_dn (s_da x (upd (q_da x) (q_dn x).toNatClampNeg a1))).toNatClampNeg a2))) (q_dn (s_db (s_da x (upd (q_da x) (q_dn x).toNatClampNeg a1)) (upd (q_db (s_da x (upd (q_da x) (q_dn x).toNatClampNeg a1))) (q_dn (s_da x (upd (q_da x) (q_dn x).toNatClampNeg a1))).toNatClampNeg a2))).toNatClampNeg a3)) (upd (q_dk (s_dc (s_db (s_da x (upd (q_da x) (q_dn x).toNatClampNeg a1)) (upd (q_db (s_da x (upd (q_da x) (q_dn x).toNatClampNeg a1))) (q_dn (s_da x (upd (q_da x) (q_dn x).toNatClampNeg a1))).toNatClampNeg a2)) (upd (q_dc (s_db (s_da x (upd (q_da x) (q_dn x).toNatClampNeg a1)) (upd (q_db (s_da x (upd (q_da x) (q_dn x).toNatClampNeg a1))) (q_dn (s_da x (upd (q_da x) (q_dn x).toNatClampNeg a1))).toNatClampNeg a2))) (q_dn (s_db (s_da x (upd (q_da x) (q_dn x).toNatClampNeg a1)) (upd (q_db (s_da x (upd (q_da x) (q_dn x).toNatClampNeg a1))) (q_dn (s_da x (upd (q_da x) (q_dn x).toNatClampNeg a1))).toNatClampNeg a2))).toNatClampNeg a3))) (q_dn (s_dc (s_db (s_da x (upd (q_da x) (q_dn x).toNatClampNeg a1)) (upd (q_db (s_da x (upd (q_da x) (q_dn x).toNatClampNeg a1))) (q_dn (s_da x (upd (q_da x) (q_dn x).toNatClampNeg a1))).toNatClampNeg a2)) (upd (q_dc (s_db (s_da x (upd (q_da x) (q_dn x).toNatClampNeg a1)) (upd (q_db (s_da x (upd (q_da x) (q_dn x).toNatClampNeg a1))) (q_dn (s_da x (upd (q_da x) (q_dn x).toNatClampNeg a1))).toNatClampNeg a2))) (q_dn (s_db (s_da x (upd (q_da x) (q_dn x).toNatClampNeg a1)) (upd (q_db (s_da x (upd (q_da x) (q_dn x).toNatClampNeg a1))) (q_dn (s_da x (upd (q_da x) (q_dn x).toNatClampNeg a1))).toNatClampNeg a2))).toNatClampNeg a3))).toNatClampNeg a4))) + 1))) - 1, s_dn (s_dk (s_dc (s_db (s_da x (upd (q_da x) (q_dn x).toNatClampNeg a1)) (upd (q_db (s_da x (upd (q_da x) (q_dn x).toNatClampNeg a1))) (q_dn (s_da x (upd (q_da x) (q_dn x).toNatClampNeg a1))).toNatClampNeg a2)) (upd (q_dc (s_db (s_da x (upd (q_da x) (q_dn x).toNatClampNeg a1)) (upd (q_db (s_da x (upd (q_da x) (q_dn x).toNatClampNeg a1))) (q_dn (s_da x (upd (q_da x) (q_dn x).toNatClampNeg a1))).toNatClampNeg a2))) (q_dn (s_db (s_da x (upd (q_da x) (q_dn x).toNatClampNeg a1)) (upd (q_db (s_da x (upd (q_da x) (q_dn x).toNatClampNeg a1))) (q_dn (s_da x (upd (q_da x) (q_dn x).toNatClampNeg a1))).toNatClampNeg a2))).toNatClampNeg a3)) (upd (q_dk (s_dc (s_db (s_da x (upd (q_da x) (q_dn x).toNatClampNeg a1)) (upd (q_db (s_da x (upd (q_da x) (q_dn x).toNatClampNeg a1))) (q_dn (s_da x (upd (q_da x) (q_dn x).toNatClampNeg a1))).toNatClampNeg a2)) (upd (q_dc (s_db (s_da x (upd (q_da x) (q_dn x).toNatClampNeg a1)) (upd (q_db (s_da x (upd (q_da x) (q_dn x).toNatClampNeg a1))) (q_dn (s_da x (upd (q_da x) (q_dn x).toNatClampNeg a1))).toNatClampNeg a2))) (q_dn (s_db (s_da x (upd (q_da x) (q_dn x).toNatClampNeg a1)) (upd (q_db (s_da x (upd (q_da x) (q_dn x).toNatClampNeg a1))) (q_dn (s_da x (upd (q_da x) (q_dn x).toNatClampNeg a1))).toNatClampNeg a2))).toNatClampNeg a3))) (q_dn (s_dc (s_db (s_da x (upd (q_da x) (q_dn x).toNatClampNeg a1)) (upd (q_db (s_da x (upd (q_da x) (q_dn x).toNatClampNeg a1))) (q_dn (s_da x (upd (q_da x) (q_dn x).toNatClampNeg a1))).toNatClampNeg a2)) (upd (q_dc (s_db (s_da x (upd (q_da x) (q_dn x).toNatClampNeg a1)) (upd (q_db (s_da x (upd (q_da x) (q_dn x).toNatClampNeg a1))) (q_dn (s_da x (upd (q_da x) (q_dn x).toNatClampNeg a1))).toNatClampNeg a2))) (q_dn (s_db (s_da x (upd (q_da x) (q_dn x).toNatClampNeg a1)) (upd (q_db (s_da x (upd (q_da x) (q_dn x).toNatClampNeg a1))) (q_dn (s_da x (upd (q_da x) (q_dn x).toNatClampNeg a1))).toNatClampNeg a2))).toNatClampNeg a3))).toNatClampNeg a4)) ((q_dn (s_dk (s_dc (s_db (s_da x (upd (q_da x) (q_dn x).toNatClampNeg a1)) (upd (q_db (s_da x (upd (q_da x) (q_dn x).toNatClampNeg a1))) (q_dn (s_da x (upd (q_da x) (q_dn x).toNatClampNeg a1))).toNatClampNeg a2)) (upd (q_dc (s_db (s_da x (upd (q_da x) (q_dn x).toNatClampNeg a1)) (upd (q_db (s_da x (upd (q_da x) (q_dn x).toNatClampNeg a1))) (q_dn (s_da x (upd (q_da x) (q_dn x).toNatClampNeg a1))).toNatClampNeg a2))) (q_dn (s_db (s_da x (upd (q_da x) (q_dn x).toNatClampNeg a1)) (upd (q_db (s_da x (upd (q_da x) (q_dn x).toNatClampNeg a1))) (q_dn (s_da x (upd (q_da x) (q_dn x).toNatClampNeg a1))).toNatClampNeg a2))).toNatClampNeg a3)) (upd (q_dk (s_dc (s_db (s_da x (upd (q_da x) (q_dn x).toNatClampNeg a1)) (upd (q_db (s_da x (upd (q_da x) (q_dn x).toNatClampNeg a1))) (q_dn (s_da x (upd (q_da x) (q_dn x).toNatClampNeg a1))).toNatClampNeg a2)) (upd (q_dc (s_db (s_da x (upd (q_da x) (q_dn x).toNatClampNeg a1)) (upd (q_db (s_da x (upd (q_da x) (q_dn x).toNatClampNeg a1))) (q_dn (s_da x (upd (q_da x) (q_dn x).toNatClampNeg a1))).toNatClampNeg a2))) (q_dn (s_db (s_da x (upd (q_da x) (q_dn x).toNatClampNeg a1)) (upd (q_db (s_da x (upd (q_da x) (q_dn x).toNatClampNeg a1))) (q_dn (s_da x (upd (q_da x) (q_dn x).toNatClampNeg a1))).toNatClampNeg a2))).toNatClampNeg a3))) (q_dn (s_dc (s_db (s_da x (upd (q_da x) (q_dn x).toNatClampNeg a1)) (upd (q_db (s_da x (upd (q_da x) (q_dn x).toNatClampNeg a1))) (q_dn (s_da x (upd (q_da x) (q_dn x).toNatClampNeg a1))).toNatClampNeg a2)) (upd (q_dc (s_db (s_da x (upd (q_da x) (q_dn x).toNatClampNeg a1)) (upd (q_db (s_da x (upd (q_da x) (q_dn x).toNatClampNeg a1))) (q_dn (s_da x (upd (q_da x) (q_dn x).toNatClampNeg a1))).toNatClampNeg a2))) (q_dn (s_db (s_da x (upd (q_da x) (q_dn x).toNatClampNeg a1)) (upd (q_db (s_da x (upd (q_da x) (q_dn x).toNatClampNeg a1))) (q_dn (s_da x (upd (q_da x) (q_dn x).toNatClampNeg a1))).toNatClampNeg a2))).toNatClampNeg a3))).toNatClampNeg a4))) + 1)) := by unfold g_Doors_add; rw [if_pos c_1]
    exact W.toX (W.iret (v := (q_dn (s_dn (s_dk (s_dc (s_db (s_da x (upd (q_da x) (q_dn x).toNatClampNeg a1)) (upd (q_db (s_da x (upd (q_da x) (q_dn x).toNatClampNeg a1))) (q_dn (s_da x (upd (q_da x) (q_dn x).toNatClampNeg a1))).toNatClampNeg a2)) (upd (q_dc (s_db (s_da x (upd (q_da x) (q_dn x).toNatClampNeg a1)) (upd (q_db (s_da x (upd (q_da x) (q_dn x).toNatClampNeg a1))) (q_dn (s_da x (upd (q_da x) (q_dn x).toNatClampNeg a1))).toNatClampNeg a2))) (q_dn (s_db (s_da x (upd (q_da x) (q_dn x).toNatClampNeg a1)) (upd (q_db (s_da x (upd (q_da x) (q_dn x).toNatClampNeg a1))) (q_dn (s_da x (upd (q_da x) (q_dn x).toNatClampNeg a1))).toNatClampNeg a2))).toNatClampNeg a3)) (upd (q_dk (s_dc (s_db (s_da x (upd (q_da x) (q_dn x).toNatClampNeg a1)) (upd (q_db (s_da x (upd (q_da x) (q_dn x).toNatClampNeg a1))) (q_dn (s_da x (upd (q_da x) (q_dn x).toNatClampNeg a1))).toNatClampNeg a2)) (upd (q_dc (s_db (s_da x (upd (q_da x) (q_dn x).toNatClampNeg a1)) (upd (q_db (s_da x (upd (q_da x) (q_dn x).toNatClampNeg a1))) (q_dn (s_da x (upd (q_da x) (q_dn x).toNatClampNeg a1))).toNatClampNeg a2))) (q_dn (s_db (s_da x (upd (q_da x) (q_dn x).toNatClampNeg a1)) (upd (q_db (s_da x (upd (q_da x) (q_dn x).toNatClampNeg a1))) (q_dn (s_da x (upd (q_da x) (q_dn x).toNatClampNeg a1))).toNatClampNeg a2))).toNatClampNeg a3))) (q_dn (s_dc (s_db (s_da x (upd (q_da x) (q_dn x).toNatClampNeg a1)) (upd (q_db (s_da x (upd (q_da x) (q_dn x).toNatClampNeg a1))) (q_dn (s_da x (upd (q_da x) (q_dn x).toNatClampNeg a1))).toNatClampNeg a2)) (upd (q_dc (s_db (s_da x (upd (q_da x) (q_dn x).toNatClampNeg a1)) (upd (q_db (s_da x (upd (q_da x) (q_dn x).toNatClampNeg a1))) (q_dn (s_da x (upd (q_da x) (q_dn x).toNatClampNeg a1))).toNatClampNeg a2))) (q_dn (s_db (s_da x (upd (q_da x) (q_dn x).toNatClampNeg a1)) (upd (q_db (s_da x (upd (q_da x) (q_dn x).toNatClampNeg a1))) (q_dn (s_da x (upd (q_da x) (q_dn x).toNatClampNeg a1))).toNatClampNeg a2))).toNatClampNeg a3))).toNatClampNeg a4)) ((q_dn (s_dk (s_dc (s_db (s_da x (upd (q_da x) (q_dn x).toNatClampNeg a1)) (upd (q_db (s_da x (upd (q_da x) (q_dn x).toNatClampNeg a1))) (q_dn (s_da x (upd (q_da x) (q_dn x).toNatClampNeg a1))).toNatClampNeg a2)) (upd (q_dc (s_db (s_da x (upd (q_da x) (q_dn x).toNatClampNeg a1)) (upd (q_db (s_da x (upd (q_da x) (q_dn x).toNatClampNeg a1))) (q_dn (s_da x (upd (q_da x) (q_dn x).toNatClampNeg a1))).toNatClampNeg a2))) (q_dn (s_db (s_da x (upd (q_da x) (q_dn x).toNatClampNeg a1)) (upd (q_db (s_da x (upd (q_da x) (q_dn x).toNatClampNeg a1))) (q_dn (s_da x (upd (q_da x) (q_dn x).toNatClampNeg a1))).toNatClampNeg a2))).toNatClampNeg a3)) (upd (q_dk (s_dc (s_db (s_da x (upd (q_da x) (q_dn x).toNatClampNeg a1)) (upd (q_db (s_da x (upd (q_da x) (q_dn x).toNatClampNeg a1))) (q_dn (s_da x (upd (q_da x) (q_dn x).toNatClampNeg a1))).toNatClampNeg a2)) (upd (q_dc (s_db (s_da x (upd (q_da x) (q_dn x).toNatClampNeg a1)) (upd (q_db (s_da x (upd (q_da x) (q_dn x).toNatClampNeg a1))) (q_dn (s_da x (upd (q_da x) (q_dn x).toNatClampNeg a1))).toNatClampNeg a2))) (q_dn (s_db (s_da x (upd (q_da x) (q_dn x).toNatClampNeg a1)) (upd (q_db (s_da x (upd (q_da x) (q_dn x).toNatClampNeg a1))) (q_dn (s_da x (upd (q_da x) (q_dn x).toNatClampNeg a1))).toNatClampNeg a2))).toNatClampNeg a3))) (q_dn (s_dc (s_db (s_da x (upd (q_da x) (q_dn x).toNatClampNeg a1)) (upd (q_db (s_da x (upd (q_da x) (q_dn x).toNatClampNeg a1))) (q_dn (s_da x (upd (q_da x) (q_dn x).toNatClampNeg a1))).toNatClampNeg a2)) (upd (q_dc (s_db (s_da x (upd (q_da x) (q_dn x).toNatClampNeg a1)) (upd (q_db (s_da x (upd (q_da x) (q_dn x).toNatClampNeg a1))) (q_dn (s_da x (upd (q_da x) (q_dn x).toNatClampNeg a1))).toNatClampNeg a2))) (q_dn (s_db (s_da x (upd (q_da x) (q_dn x).toNatClampNeg a1)) (upd (q_db (s_da x (upd (q_da x) (q_dn x).toNatClampNeg a1))) (q_dn (s_da x (upd (q_da x) (q_dn x).toNatClampNeg a1))).toNatClampNeg a2))).toNatClampNeg a3))).toNatClampNeg a4))) + 1))) - 1) hx hb hr (fun t ht hW => ⟨by rw [hg], ⟨by rw [ht, hg]; exact hP, va_K.moved hW.alike hK, hN.warm hW⟩, hS.F ht⟩) hS.2.2 d_Doors_add_68)
  · refine lv_iconst (v := (-1)) hx hb d_Doors_add_9 (by decide) ?_
    have hg : g_Doors_add x a1 a2 a3 a4 = ((-1), x) := by unfold g_Doors_add; rw [if_neg c_1]
    exact W.toX (W.iret (v := (-1)) hx hb hr (fun t ht hW => ⟨by rw [hg], ⟨by rw [ht, hg]; exact hP, va_K.moved hW.alike hK, hN.warm hW⟩, hS.F ht⟩) hS.2.2 d_Doors_add_10)
def g_Det_add (x : ST) (a1 a2 a3 : Int32) : Int32 × ST := if (q_tc x) < 100 then ((q_tc (s_tc (s_tr (s_tn (s_tl x (upd (q_tl x) (q_tc x).toNatClampNeg a1)) (upd (q_tn (s_tl x (upd (q_tl x) (q_tc x).toNatClampNeg a1))) (q_tc (s_tl x (upd (q_tl x) (q_tc x).toNatClampNeg a1))).toNatClampNeg a2)) (upd (q_tr (s_tn (s_tl x (upd (q_tl x) (q_tc x).toNatClampNeg a1)) (upd (q_tn (s_tl x (upd (q_tl x) (q_tc x).toNatClampNeg a1))) (q_tc (s_tl x (upd (q_tl x) (q_tc x).toNatClampNeg a1))).toNatClampNeg a2))) (q_tc (s_tn (s_tl x (upd (q_tl x) (q_tc x).toNatClampNeg a1)) (upd (q_tn (s_tl x (upd (q_tl x) (q_tc x).toNatClampNeg a1))) (q_tc (s_tl x (upd (q_tl x) (q_tc x).toNatClampNeg a1))).toNatClampNeg a2))).toNatClampNeg a3)) ((q_tc (s_tr (s_tn (s_tl x (upd (q_tl x) (q_tc x).toNatClampNeg a1)) (upd (q_tn (s_tl x (upd (q_tl x) (q_tc x).toNatClampNeg a1))) (q_tc (s_tl x (upd (q_tl x) (q_tc x).toNatClampNeg a1))).toNatClampNeg a2)) (upd (q_tr (s_tn (s_tl x (upd (q_tl x) (q_tc x).toNatClampNeg a1)) (upd (q_tn (s_tl x (upd (q_tl x) (q_tc x).toNatClampNeg a1))) (q_tc (s_tl x (upd (q_tl x) (q_tc x).toNatClampNeg a1))).toNatClampNeg a2))) (q_tc (s_tn (s_tl x (upd (q_tl x) (q_tc x).toNatClampNeg a1)) (upd (q_tn (s_tl x (upd (q_tl x) (q_tc x).toNatClampNeg a1))) (q_tc (s_tl x (upd (q_tl x) (q_tc x).toNatClampNeg a1))).toNatClampNeg a2))).toNatClampNeg a3))) + 1))) - 1, s_tc (s_tr (s_tn (s_tl x (upd (q_tl x) (q_tc x).toNatClampNeg a1)) (upd (q_tn (s_tl x (upd (q_tl x) (q_tc x).toNatClampNeg a1))) (q_tc (s_tl x (upd (q_tl x) (q_tc x).toNatClampNeg a1))).toNatClampNeg a2)) (upd (q_tr (s_tn (s_tl x (upd (q_tl x) (q_tc x).toNatClampNeg a1)) (upd (q_tn (s_tl x (upd (q_tl x) (q_tc x).toNatClampNeg a1))) (q_tc (s_tl x (upd (q_tl x) (q_tc x).toNatClampNeg a1))).toNatClampNeg a2))) (q_tc (s_tn (s_tl x (upd (q_tl x) (q_tc x).toNatClampNeg a1)) (upd (q_tn (s_tl x (upd (q_tl x) (q_tc x).toNatClampNeg a1))) (q_tc (s_tl x (upd (q_tl x) (q_tc x).toNatClampNeg a1))).toNatClampNeg a2))).toNatClampNeg a3)) ((q_tc (s_tr (s_tn (s_tl x (upd (q_tl x) (q_tc x).toNatClampNeg a1)) (upd (q_tn (s_tl x (upd (q_tl x) (q_tc x).toNatClampNeg a1))) (q_tc (s_tl x (upd (q_tl x) (q_tc x).toNatClampNeg a1))).toNatClampNeg a2)) (upd (q_tr (s_tn (s_tl x (upd (q_tl x) (q_tc x).toNatClampNeg a1)) (upd (q_tn (s_tl x (upd (q_tl x) (q_tc x).toNatClampNeg a1))) (q_tc (s_tl x (upd (q_tl x) (q_tc x).toNatClampNeg a1))).toNatClampNeg a2))) (q_tc (s_tn (s_tl x (upd (q_tl x) (q_tc x).toNatClampNeg a1)) (upd (q_tn (s_tl x (upd (q_tl x) (q_tc x).toNatClampNeg a1))) (q_tc (s_tl x (upd (q_tl x) (q_tc x).toNatClampNeg a1))).toNatClampNeg a2))).toNatClampNeg a3))) + 1)) else ((-1), x)
set_option maxHeartbeats 4000000 in
set_option maxRecDepth 100000 in
theorem u_Det_add (l : Launch) (dC : Nat → ClassId) (dI : Nat → Nat → Nat) (cI cZ : ClassId) (ad : Nat → Nat) (hj : aInj 29 ad) (x : ST) (hI : CIn x) (sz : Nat) (a1 a2 a3 : Int32) : MX l y_Det_add (Cond.code y_Det_add b_Det_add 4 (some .int) :: BW) { frames := 0, cells := 0, slots := 0, locals := 0 } (PCZ sz (dC, dI) [(cI, .int), (cZ, .boolean)] (wC cI cZ ad x) [.ref (ad 6), .int a1, .int a2, .int a3]) (UQ (some (.int (g_Det_add x a1 a2 a3).1)) (WB (dC, dI) [(cI, .int), (cZ, .boolean)] (wC cI cZ ad (g_Det_add x a1 a2 a3).2)) (aC 29 ad sz)) 0 0 (aC 29 ad sz) := by
  refine MX.ofW (cc := b_Det_add) (maxL := 4) (ret := (some .int)) (by decide) rfl ?_
  intro p e s m args below meth c s₁ B hml hex hv
  obtain ⟨hsz, rfl, hP, hK, hN⟩ := hv
  subst hsz
  have hx := B.exec
  have hb := B.bytes
  have hr := B.returns
  have hts := atoms_spec (ws := Cond.code y_Det_add b_Det_add 4 (some .int) :: BW) B.pre
  have hbw : ∀ w ∈ BW, w.before ([.ref (ad 6), .int a1, .int a2, .int a3]).toArray s = true := fun w h => hts w (List.mem_cons_of_mem _ h)
  have hown : s.vm.findClass "PlanRows$Detectors" = some m.cls := findClass_of_methodNamed B.named
  have hlocks := B.notSynchronized
  have hDx : ∀ z, va_D (aC 29 ad s.heap.size) (wC cI cZ ad z) := fun z => w_D hj (wC_ad cI cZ ad z) _
  have hA : ∀ H : Heap, s.heap.size ≤ H.size → ∀ q, aC 29 ad H.size q → aC 29 ad s.heap.size q := fun H h => aC_le h
  generalize aC 29 ad s.heap.size = A at hDx hA ⊢
  have hD := hDx x
  have hS : va_S A s.heap s.heap [] := va_S.rf
  have hI0 := hI
  have hl := lv_entry ([.ref (ad 6), .int a1, .int a2, .int a3]) (n := 4) (Nat.le_of_ble_eq_true rfl)
  rw [lg_entry_eq]
  generalize (lg_sl ([.ref (ad 6), .int a1, .int a2, .int a3]) ++ List.replicate (4 - (lg_sl ([.ref (ad 6), .int a1, .int a2, .int a3])).length) Slot.unset).toArray = ls at hl ⊢
  obtain ⟨H, hH⟩ : ∃ H, H = s.heap := ⟨_, rfl⟩
  obtain ⟨locs, hlocs⟩ : ∃ locs : List Loc, locs = [] := ⟨_, rfl⟩
  have hP : va_P (dC, dI) clsA (wC cI cZ ad x) H := by rw [hH]; exact hP
  have hS : va_S A s.heap H locs := by rw [hH, hlocs]; exact hS
  rw [← hlocs]
  have hW0 : ∀ (R : Room) (Q : State → Prop) (g : JFrame), W p l e R s m ([.ref (ad 6), .int a1, .int a2, .int a3]).toArray below meth c H locs 0 0 Q g → W p l e R s m ([.ref (ad 6), .int a1, .int a2, .int a3]).toArray below meth c s.heap locs 0 0 Q g := fun R Q g h => by rw [← hH]; exact h
  refine hW0 _ _ _ ?_
  have hl : lv_has ls 4 [(0, .ref (ad 6)), (1, .int a1), (2, .int a2), (3, .int a3)] := hl
  refine lv_aload_n hx hb d_Det_add_0 rfl (lv_at hl 0 rfl) ?_
  refine va_get (D := (dC, dI)) (ci := 1) (v := .int (q_tc x)) (C := R_Det) (T := F_Det) (N := 4) hx hb hbw in_Det hown hK hP 6 rfl rfl 3 (by decide) (hbw _ w_139) (fun _ h9 => h9) rfl d_Det_add_1 ?_
  refine lv_bipush (v := 100) hx hb d_Det_add_4 (by decide) ?_
  refine lv_icmp_lt (tgt := 11) hx hb d_Det_add_6 (by decide) (fun c_1 => ?_) (fun c_1 => ?_)
  · refine lv_aload_n hx hb d_Det_add_11 rfl (lv_at hl 0 rfl) ?_
    refine va_get (D := (dC, dI)) (ci := 1) (v := .ref (ad 19)) (C := R_Det) (T := F_Det) (N := 4) hx hb hbw in_Det hown hK hP 6 rfl rfl 0 (by decide) (hbw _ w_136) (fun _ h9 => h9) rfl d_Det_add_12 ?_
    refine lv_aload_n hx hb d_Det_add_15 rfl (lv_at hl 0 rfl) ?_
    refine va_get (D := (dC, dI)) (ci := 1) (v := .int (q_tc x)) (C := R_Det) (T := F_Det) (N := 4) hx hb hbw in_Det hown hK hP 6 rfl rfl 3 (by decide) (hbw _ w_139) (fun _ h9 => h9) rfl d_Det_add_16 ?_
    refine lv_iload_n hx hb d_Det_add_19 rfl (lv_at hl 1 rfl) ?_
    refine va_iast hx hb hK hP hD hS 19 0 rfl rfl (ix_szl hI.2.2.1 c_1 rfl) d_Det_add_20 (fun H locs hP hD hS => ?_)
    rw [wC_s_tl] at hP hD
    refine lv_aload_n hx hb d_Det_add_21 rfl (lv_at hl 0 rfl) ?_
    refine va_get (D := (dC, dI)) (ci := 1) (v := .ref (ad 20)) (C := R_Det) (T := F_Det) (N := 4) hx hb hbw in_Det hown hK hP 6 rfl rfl 1 (by decide) (hbw _ w_137) (fun _ h9 => h9) rfl d_Det_add_22 ?_
    refine lv_aload_n hx hb d_Det_add_25 rfl (lv_at hl 0 rfl) ?_
    refine va_get (D := (dC, dI)) (ci := 1) (v := .int (q_tc (s_tl x (upd (q_tl x) (q_tc x).toNatClampNeg a1)))) (C := R_Det) (T := F_Det) (N := 4) hx hb hbw in_Det hown hK hP 6 rfl rfl 3 (by decide) (hbw _ w_139) (fun _ h9 => h9) rfl d_Det_add_26 ?_
    refine lv_iload_n hx hb d_Det_add_29 rfl (lv_at hl 2 rfl) ?_
    refine va_iast hx hb hK hP hD hS 20 0 rfl rfl (ix_szl hI.2.2.1 c_1 rfl) d_Det_add_30 (fun H locs hP hD hS => ?_)
    rw [wC_s_tn] at hP hD
    refine lv_aload_n hx hb d_Det_add_31 rfl (lv_at hl 0 rfl) ?_
    refine va_get (D := (dC, dI)) (ci := 1) (v := .ref (ad 21)) (C := R_Det) (T := F_Det) (N := 4) hx hb hbw in_Det hown hK hP 6 rfl rfl 2 (by decide) (hbw _ w_138) (fun _ h9 => h9) rfl d_Det_add_32 ?_
    refine lv_aload_n hx hb d_Det_add_35 rfl (lv_at hl 0 rfl) ?_
    refine va_get (D := (dC, dI)) (ci := 1) (v := .int (q_tc (s_tn (s_tl x (upd (q_tl x) (q_tc x).toNatClampNeg a1)) (upd (q_tn (s_tl x (upd (q_tl x) (q_tc x).toNatClampNeg a1))) (q_tc (s_tl x (upd (q_tl x) (q_tc x).toNatClampNeg a1))).toNatClampNeg a2)))) (C := R_Det) (T := F_Det) (N := 4) hx hb hbw in_Det hown hK hP 6 rfl rfl 3 (by decide) (hbw _ w_139) (fun _ h9 => h9) rfl d_Det_add_36 ?_
    refine lv_iload_n hx hb d_Det_add_39 rfl (lv_at hl 3 rfl) ?_
    refine va_iast hx hb hK hP hD hS 21 0 rfl rfl (ix_szl hI.2.2.1 c_1 rfl) d_Det_add_40 (fun H locs hP hD hS => ?_)
    rw [wC_s_tr] at hP hD
    refine lv_aload_n hx hb d_Det_add_41 rfl (lv_at hl 0 rfl) ?_
    refine lv_dup hx hb d_Det_add_42 rfl ?_
    refine va_get (D := (dC, dI)) (ci := 1) (v := .int (q_tc (s_tr (s_tn (s_tl x (upd (q_tl x) (q_tc x).toNatClampNeg a1)) (upd (q_tn (s_tl x (upd (q_tl x) (q_tc x).toNatClampNeg a1))) (q_tc (s_tl x (upd (q_tl x) (q_tc x).toNatClampNeg a1))).toNatClampNeg a2)) (upd (q_tr (s_tn (s_tl x (upd (q_tl x) (q_tc x).toNatClampNeg a1)) (upd (q_tn (s_tl x (upd (q_tl x) (q_tc x).toNatClampNeg a1))) (q_tc (s_tl x (upd (q_tl x) (q_tc x).toNatClampNeg a1))).toNatClampNeg a2))) (q_tc (s_tn (s_tl x (upd (q_tl x) (q_tc x).toNatClampNeg a1)) (upd (q_tn (s_tl x (upd (q_tl x) (q_tc x).toNatClampNeg a1))) (q_tc (s_tl x (upd (q_tl x) (q_tc x).toNatClampNeg a1))).toNatClampNeg a2))).toNatClampNeg a3)))) (C := R_Det) (T := F_Det) (N := 4) hx hb hbw in_Det hown hK hP 6 rfl rfl 3 (by decide) (hbw _ w_139) (fun _ h9 => h9) rfl d_Det_add_43 ?_
    refine lv_iconst (v := 1) hx hb d_Det_add_46 (by decide) ?_
    refine lv_iadd hx hb d_Det_add_47 ?_
    refine va_put (D := (dC, dI)) (ci := 1) (v := .int ((q_tc (s_tr (s_tn (s_tl x (upd (q_tl x) (q_tc x).toNatClampNeg a1)) (upd (q_tn (s_tl x (upd (q_tl x) (q_tc x).toNatClampNeg a1))) (q_tc (s_tl x (upd (q_tl x) (q_tc x).toNatClampNeg a1))).toNatClampNeg a2)) (upd (q_tr (s_tn (s_tl x (upd (q_tl x) (q_tc x).toNatClampNeg a1)) (upd (q_tn (s_tl x (upd (q_tl x) (q_tc x).toNatClampNeg a1))) (q_tc (s_tl x (upd (q_tl x) (q_tc x).toNatClampNeg a1))).toNatClampNeg a2))) (q_tc (s_tn (s_tl x (upd (q_tl x) (q_tc x).toNatClampNeg a1)) (upd (q_tn (s_tl x (upd (q_tl x) (q_tc x).toNatClampNeg a1))) (q_tc (s_tl x (upd (q_tl x) (q_tc x).toNatClampNeg a1))).toNatClampNeg a2))).toNatClampNeg a3))) + 1)) (ty := .int) (C := R_Det) (T := F_Det) (N := 4) hx hb hbw in_Det t_Det t_Det_ok n_Det hown hK hP hD hS 6 rfl rfl 3 (by decide) (hbw _ w_139) (fun _ h9 => h9) rfl (by decide +kernel) rfl rfl (Nat.le_of_ble_eq_true rfl) d_Det_add_48 (fun H locs hP hD hS => ?_)
    rw [wC_s_tc] at hP hD
    refine lv_aload_n hx hb d_Det_add_51 rfl (lv_at hl 0 rfl) ?_
    refine va_get (D := (dC, dI)) (ci := 1) (v := .int (q_tc (s_tc (s_tr (s_tn (s_tl x (upd (q_tl x) (q_tc x).toNatClampNeg a1)) (upd (q_tn (s_tl x (upd (q_tl x) (q_tc x).toNatClampNeg a1))) (q_tc (s_tl x (upd (q_tl x) (q_tc x).toNatClampNeg a1))).toNatClampNeg a2)) (upd (q_tr (s_tn (s_tl x (upd (q_tl x) (q_tc x).toNatClampNeg a1)) (upd (q_tn (s_tl x (upd (q_tl x) (q_tc x).toNatClampNeg a1))) (q_tc (s_tl x (upd (q_tl x) (q_tc x).toNatClampNeg a1))).toNatClampNeg a2))) (q_tc (s_tn (s_tl x (upd (q_tl x) (q_tc x).toNatClampNeg a1)) (upd (q_tn (s_tl x (upd (q_tl x) (q_tc x).toNatClampNeg a1))) (q_tc (s_tl x (upd (q_tl x) (q_tc x).toNatClampNeg a1))).toNatClampNeg a2))).toNatClampNeg a3)) ((q_tc (s_tr (s_tn (s_tl x (upd (q_tl x) (q_tc x).toNatClampNeg a1)) (upd (q_tn (s_tl x (upd (q_tl x) (q_tc x).toNatClampNeg a1))) (q_tc (s_tl x (upd (q_tl x) (q_tc x).toNatClampNeg a1))).toNatClampNeg a2)) (upd (q_tr (s_tn (s_tl x (upd (q_tl x) (q_tc x).toNatClampNeg a1)) (upd (q_tn (s_tl x (upd (q_tl x) (q_tc x).toNatClampNeg a1))) (q_tc (s_tl x (upd (q_tl x) (q_tc x).toNatClampNeg a1))).toNatClampNeg a2))) (q_tc (s_tn (s_tl x (upd (q_tl x) (q_tc x).toNatClampNeg a1)) (upd (q_tn (s_tl x (upd (q_tl x) (q_tc x).toNatClampNeg a1))) (q_tc (s_tl x (upd (q_tl x) (q_tc x).toNatClampNeg a1))).toNatClampNeg a2))).toNatClampNeg a3))) + 1)))) (C := R_Det) (T := F_Det) (N := 4) hx hb hbw in_Det hown hK hP 6 rfl rfl 3 (by decide) (hbw _ w_139) (fun _ h9 => h9) rfl d_Det_add_52 ?_
    refine lv_iconst (v := 1) hx hb d_Det_add_55 (by decide) ?_
    refine lv_isub hx hb d_Det_add_56 ?_
    have hg : g_Det_add x a1 a2 a3 = ((q_tc (s_tc (s_tr (s_tn (s_tl x (upd (q_tl x) (q_tc x).toNatClampNeg a1)) (upd (q_tn (s_tl x (upd (q_tl x) (q_tc x).toNatClampNeg a1))) (q_tc (s_tl x (upd (q_tl x) (q_tc x).toNatClampNeg a1))).toNatClampNeg a2)) (upd (q_tr (s_tn (s_tl x (upd (q_tl x) (q_tc x).toNatClampNeg a1)) (upd (q_tn (s_tl x (upd (q_tl x) (q_tc x).toNatClampNeg a1))) (q_tc (s_tl x (upd (q_tl x) (q_tc x).toNatClampNeg a1))).toNatClampNeg a2))) (q_tc (s_tn (s_tl x (upd (q_tl x) (q_tc x).toNatClampNeg a1)) (upd (q_tn (s_tl x (upd (q_tl x) (q_tc x).toNatClampNeg a1))) (q_tc (s_tl x (upd (q_tl x) (q_tc x).toNatClampNeg a1))).toNatClampNeg a2))).toNatClampNeg a3)) ((q_tc (s_tr (s_tn (s_tl x (upd (q_tl x) (q_tc x).toNatClampNeg a1)) (upd (q_tn (s_tl x (upd (q_tl x) (q_tc x).toNatClampNeg a1))) (q_tc (s_tl x (upd (q_tl x) (q_tc x).toNatClampNeg a1))).toNatClampNeg a2)) (upd (q_tr (s_tn (s_tl x (upd (q_tl x) (q_tc x).toNatClampNeg a1)) (upd (q_tn (s_tl x (upd (q_tl x) (q_tc x).toNatClampNeg a1))) (q_tc (s_tl x (upd (q_tl x) (q_tc x).toNatClampNeg a1))).toNatClampNeg a2))) (q_tc (s_tn (s_tl x (upd (q_tl x) (q_tc x).toNatClampNeg a1)) (upd (q_tn (s_tl x (upd (q_tl x) (q_tc x).toNatClampNeg a1))) (q_tc (s_tl x (upd (q_tl x) (q_tc x).toNatClampNeg a1))).toNatClampNeg a2))).toNatClampNeg a3))) + 1))) - 1, s_tc (s_tr (s_tn (s_tl x (upd (q_tl x) (q_tc x).toNatClampNeg a1)) (upd (q_tn (s_tl x (upd (q_tl x) (q_tc x).toNatClampNeg a1))) (q_tc (s_tl x (upd (q_tl x) (q_tc x).toNatClampNeg a1))).toNatClampNeg a2)) (upd (q_tr (s_tn (s_tl x (upd (q_tl x) (q_tc x).toNatClampNeg a1)) (upd (q_tn (s_tl x (upd (q_tl x) (q_tc x).toNatClampNeg a1))) (q_tc (s_tl x (upd (q_tl x) (q_tc x).toNatClampNeg a1))).toNatClampNeg a2))) (q_tc (s_tn (s_tl x (upd (q_tl x) (q_tc x).toNatClampNeg a1)) (upd (q_tn (s_tl x (upd (q_tl x) (q_tc x).toNatClampNeg a1))) (q_tc (s_tl x (upd (q_tl x) (q_tc x).toNatClampNeg a1))).toNatClampNeg a2))).toNatClampNeg a3)) ((q_tc (s_tr (s_tn (s_tl x (upd (q_tl x) (q_tc x).toNatClampNeg a1)) (upd (q_tn (s_tl x (upd (q_tl x) (q_tc x).toNatClampNeg a1))) (q_tc (s_tl x (upd (q_tl x) (q_tc x).toNatClampNeg a1))).toNatClampNeg a2)) (upd (q_tr (s_tn (s_tl x (upd (q_tl x) (q_tc x).toNatClampNeg a1)) (upd (q_tn (s_tl x (upd (q_tl x) (q_tc x).toNatClampNeg a1))) (q_tc (s_tl x (upd (q_tl x) (q_tc x).toNatClampNeg a1))).toNatClampNeg a2))) (q_tc (s_tn (s_tl x (upd (q_tl x) (q_tc x).toNatClampNeg a1)) (upd (q_tn (s_tl x (upd (q_tl x) (q_tc x).toNatClampNeg a1))) (q_tc (s_tl x (upd (q_tl x) (q_tc x).toNatClampNeg a1))).toNatClampNeg a2))).toNatClampNeg a3))) + 1)) := by unfold g_Det_add; rw [if_pos c_1]
    exact W.toX (W.iret (v := (q_tc (s_tc (s_tr (s_tn (s_tl x (upd (q_tl x) (q_tc x).toNatClampNeg a1)) (upd (q_tn (s_tl x (upd (q_tl x) (q_tc x).toNatClampNeg a1))) (q_tc (s_tl x (upd (q_tl x) (q_tc x).toNatClampNeg a1))).toNatClampNeg a2)) (upd (q_tr (s_tn (s_tl x (upd (q_tl x) (q_tc x).toNatClampNeg a1)) (upd (q_tn (s_tl x (upd (q_tl x) (q_tc x).toNatClampNeg a1))) (q_tc (s_tl x (upd (q_tl x) (q_tc x).toNatClampNeg a1))).toNatClampNeg a2))) (q_tc (s_tn (s_tl x (upd (q_tl x) (q_tc x).toNatClampNeg a1)) (upd (q_tn (s_tl x (upd (q_tl x) (q_tc x).toNatClampNeg a1))) (q_tc (s_tl x (upd (q_tl x) (q_tc x).toNatClampNeg a1))).toNatClampNeg a2))).toNatClampNeg a3)) ((q_tc (s_tr (s_tn (s_tl x (upd (q_tl x) (q_tc x).toNatClampNeg a1)) (upd (q_tn (s_tl x (upd (q_tl x) (q_tc x).toNatClampNeg a1))) (q_tc (s_tl x (upd (q_tl x) (q_tc x).toNatClampNeg a1))).toNatClampNeg a2)) (upd (q_tr (s_tn (s_tl x (upd (q_tl x) (q_tc x).toNatClampNeg a1)) (upd (q_tn (s_tl x (upd (q_tl x) (q_tc x).toNatClampNeg a1))) (q_tc (s_tl x (upd (q_tl x) (q_tc x).toNatClampNeg a1))).toNatClampNeg a2))) (q_tc (s_tn (s_tl x (upd (q_tl x) (q_tc x).toNatClampNeg a1)) (upd (q_tn (s_tl x (upd (q_tl x) (q_tc x).toNatClampNeg a1))) (q_tc (s_tl x (upd (q_tl x) (q_tc x).toNatClampNeg a1))).toNatClampNeg a2))).toNatClampNeg a3))) + 1))) - 1) hx hb hr (fun t ht hW => ⟨by rw [hg], ⟨by rw [ht, hg]; exact hP, va_K.moved hW.alike hK, hN.warm hW⟩, hS.F ht⟩) hS.2.2 d_Det_add_57)
  · refine lv_iconst (v := (-1)) hx hb d_Det_add_9 (by decide) ?_
    have hg : g_Det_add x a1 a2 a3 = ((-1), x) := by unfold g_Det_add; rw [if_neg c_1]
    exact W.toX (W.iret (v := (-1)) hx hb hr (fun t ht hW => ⟨by rw [hg], ⟨by rw [ht, hg]; exact hP, va_K.moved hW.alike hK, hN.warm hW⟩, hS.F ht⟩) hS.2.2 d_Det_add_10)
def g_Crowd_add (x : ST) (a1 a2 a3 a4 : Int32) : Int32 × ST := if (q_pc x) < 60 then ((q_pc (s_pc (s_pn (s_pb (s_pa (s_pf x (upd (q_pf x) (q_pc x).toNatClampNeg a1)) (upd (q_pa (s_pf x (upd (q_pf x) (q_pc x).toNatClampNeg a1))) (q_pc (s_pf x (upd (q_pf x) (q_pc x).toNatClampNeg a1))).toNatClampNeg a2)) (upd (q_pb (s_pa (s_pf x (upd (q_pf x) (q_pc x).toNatClampNeg a1)) (upd (q_pa (s_pf x (upd (q_pf x) (q_pc x).toNatClampNeg a1))) (q_pc (s_pf x (upd (q_pf x) (q_pc x).toNatClampNeg a1))).toNatClampNeg a2))) (q_pc (s_pa (s_pf x (upd (q_pf x) (q_pc x).toNatClampNeg a1)) (upd (q_pa (s_pf x (upd (q_pf x) (q_pc x).toNatClampNeg a1))) (q_pc (s_pf x (upd (q_pf x) (q_pc x).toNatClampNeg a1))).toNatClampNeg a2))).toNatClampNeg a3)) (upd (q_pn (s_pb (s_pa (s_pf x (upd (q_pf x) (q_pc x).toNatClampNeg a1)) (upd (q_pa (s_pf x (upd (q_pf x) (q_pc x).toNatClampNeg a1))) (q_pc (s_pf x (upd (q_pf x) (q_pc x).toNatClampNeg a1))).toNatClampNeg a2)) (upd (q_pb (s_pa (s_pf x (upd (q_pf x) (q_pc x).toNatClampNeg a1)) (upd (q_pa (s_pf x (upd (q_pf x) (q_pc x).toNatClampNeg a1))) (q_pc (s_pf x (upd (q_pf x) (q_pc x).toNatClampNeg a1))).toNatClampNeg a2))) (q_pc (s_pa (s_pf x (upd (q_pf x) (q_pc x).toNatClampNeg a1)) (upd (q_pa (s_pf x (upd (q_pf x) (q_pc x).toNatClampNeg a1))) (q_pc (s_pf x (upd (q_pf x) (q_pc x).toNatClampNeg a1))).toNatClampNeg a2))).toNatClampNeg a3))) (q_pc (s_pb (s_pa (s_pf x (upd (q_pf x) (q_pc x).toNatClampNeg a1)) (upd (q_pa (s_pf x (upd (q_pf x) (q_pc x).toNatClampNeg a1))) (q_pc (s_pf x (upd (q_pf x) (q_pc x).toNatClampNeg a1))).toNatClampNeg a2)) (upd (q_pb (s_pa (s_pf x (upd (q_pf x) (q_pc x).toNatClampNeg a1)) (upd (q_pa (s_pf x (upd (q_pf x) (q_pc x).toNatClampNeg a1))) (q_pc (s_pf x (upd (q_pf x) (q_pc x).toNatClampNeg a1))).toNatClampNeg a2))) (q_pc (s_pa (s_pf x (upd (q_pf x) (q_pc x).toNatClampNeg a1)) (upd (q_pa (s_pf x (upd (q_pf x) (q_pc x).toNatClampNeg a1))) (q_pc (s_pf x (upd (q_pf x) (q_pc x).toNatClampNeg a1))).toNatClampNeg a2))).toNatClampNeg a3))).toNatClampNeg a4)) ((q_pc (s_pn (s_pb (s_pa (s_pf x (upd (q_pf x) (q_pc x).toNatClampNeg a1)) (upd (q_pa (s_pf x (upd (q_pf x) (q_pc x).toNatClampNeg a1))) (q_pc (s_pf x (upd (q_pf x) (q_pc x).toNatClampNeg a1))).toNatClampNeg a2)) (upd (q_pb (s_pa (s_pf x (upd (q_pf x) (q_pc x).toNatClampNeg a1)) (upd (q_pa (s_pf x (upd (q_pf x) (q_pc x).toNatClampNeg a1))) (q_pc (s_pf x (upd (q_pf x) (q_pc x).toNatClampNeg a1))).toNatClampNeg a2))) (q_pc (s_pa (s_pf x (upd (q_pf x) (q_pc x).toNatClampNeg a1)) (upd (q_pa (s_pf x (upd (q_pf x) (q_pc x).toNatClampNeg a1))) (q_pc (s_pf x (upd (q_pf x) (q_pc x).toNatClampNeg a1))).toNatClampNeg a2))).toNatClampNeg a3)) (upd (q_pn (s_pb (s_pa (s_pf x (upd (q_pf x) (q_pc x).toNatClampNeg a1)) (upd (q_pa (s_pf x (upd (q_pf x) (q_pc x).toNatClampNeg a1))) (q_pc (s_pf x (upd (q_pf x) (q_pc x).toNatClampNeg a1))).toNatClampNeg a2)) (upd (q_pb (s_pa (s_pf x (upd (q_pf x) (q_pc x).toNatClampNeg a1)) (upd (q_pa (s_pf x (upd (q_pf x) (q_pc x).toNatClampNeg a1))) (q_pc (s_pf x (upd (q_pf x) (q_pc x).toNatClampNeg a1))).toNatClampNeg a2))) (q_pc (s_pa (s_pf x (upd (q_pf x) (q_pc x).toNatClampNeg a1)) (upd (q_pa (s_pf x (upd (q_pf x) (q_pc x).toNatClampNeg a1))) (q_pc (s_pf x (upd (q_pf x) (q_pc x).toNatClampNeg a1))).toNatClampNeg a2))).toNatClampNeg a3))) (q_pc (s_pb (s_pa (s_pf x (upd (q_pf x) (q_pc x).toNatClampNeg a1)) (upd (q_pa (s_pf x (upd (q_pf x) (q_pc x).toNatClampNeg a1))) (q_pc (s_pf x (upd (q_pf x) (q_pc x).toNatClampNeg a1))).toNatClampNeg a2)) (upd (q_pb (s_pa (s_pf x (upd (q_pf x) (q_pc x).toNatClampNeg a1)) (upd (q_pa (s_pf x (upd (q_pf x) (q_pc x).toNatClampNeg a1))) (q_pc (s_pf x (upd (q_pf x) (q_pc x).toNatClampNeg a1))).toNatClampNeg a2))) (q_pc (s_pa (s_pf x (upd (q_pf x) (q_pc x).toNatClampNeg a1)) (upd (q_pa (s_pf x (upd (q_pf x) (q_pc x).toNatClampNeg a1))) (q_pc (s_pf x (upd (q_pf x) (q_pc x).toNatClampNeg a1))).toNatClampNeg a2))).toNatClampNeg a3))).toNatClampNeg a4))) + 1))) - 1, s_pc (s_pn (s_pb (s_pa (s_pf x (upd (q_pf x) (q_pc x).toNatClampNeg a1)) (upd (q_pa (s_pf x (upd (q_pf x) (q_pc x).toNatClampNeg a1))) (q_pc (s_pf x (upd (q_pf x) (q_pc x).toNatClampNeg a1))).toNatClampNeg a2)) (upd (q_pb (s_pa (s_pf x (upd (q_pf x) (q_pc x).toNatClampNeg a1)) (upd (q_pa (s_pf x (upd (q_pf x) (q_pc x).toNatClampNeg a1))) (q_pc (s_pf x (upd (q_pf x) (q_pc x).toNatClampNeg a1))).toNatClampNeg a2))) (q_pc (s_pa (s_pf x (upd (q_pf x) (q_pc x).toNatClampNeg a1)) (upd (q_pa (s_pf x (upd (q_pf x) (q_pc x).toNatClampNeg a1))) (q_pc (s_pf x (upd (q_pf x) (q_pc x).toNatClampNeg a1))).toNatClampNeg a2))).toNatClampNeg a3)) (upd (q_pn (s_pb (s_pa (s_pf x (upd (q_pf x) (q_pc x).toNatClampNeg a1)) (upd (q_pa (s_pf x (upd (q_pf x) (q_pc x).toNatClampNeg a1))) (q_pc (s_pf x (upd (q_pf x) (q_pc x).toNatClampNeg a1))).toNatClampNeg a2)) (upd (q_pb (s_pa (s_pf x (upd (q_pf x) (q_pc x).toNatClampNeg a1)) (upd (q_pa (s_pf x (upd (q_pf x) (q_pc x).toNatClampNeg a1))) (q_pc (s_pf x (upd (q_pf x) (q_pc x).toNatClampNeg a1))).toNatClampNeg a2))) (q_pc (s_pa (s_pf x (upd (q_pf x) (q_pc x).toNatClampNeg a1)) (upd (q_pa (s_pf x (upd (q_pf x) (q_pc x).toNatClampNeg a1))) (q_pc (s_pf x (upd (q_pf x) (q_pc x).toNatClampNeg a1))).toNatClampNeg a2))).toNatClampNeg a3))) (q_pc (s_pb (s_pa (s_pf x (upd (q_pf x) (q_pc x).toNatClampNeg a1)) (upd (q_pa (s_pf x (upd (q_pf x) (q_pc x).toNatClampNeg a1))) (q_pc (s_pf x (upd (q_pf x) (q_pc x).toNatClampNeg a1))).toNatClampNeg a2)) (upd (q_pb (s_pa (s_pf x (upd (q_pf x) (q_pc x).toNatClampNeg a1)) (upd (q_pa (s_pf x (upd (q_pf x) (q_pc x).toNatClampNeg a1))) (q_pc (s_pf x (upd (q_pf x) (q_pc x).toNatClampNeg a1))).toNatClampNeg a2))) (q_pc (s_pa (s_pf x (upd (q_pf x) (q_pc x).toNatClampNeg a1)) (upd (q_pa (s_pf x (upd (q_pf x) (q_pc x).toNatClampNeg a1))) (q_pc (s_pf x (upd (q_pf x) (q_pc x).toNatClampNeg a1))).toNatClampNeg a2))).toNatClampNeg a3))).toNatClampNeg a4)) ((q_pc (s_pn (s_pb (s_pa (s_pf x (upd (q_pf x) (q_pc x).toNatClampNeg a1)) (upd (q_pa (s_pf x (upd (q_pf x) (q_pc x).toNatClampNeg a1))) (q_pc (s_pf x (upd (q_pf x) (q_pc x).toNatClampNeg a1))).toNatClampNeg a2)) (upd (q_pb (s_pa (s_pf x (upd (q_pf x) (q_pc x).toNatClampNeg a1)) (upd (q_pa (s_pf x (upd (q_pf x) (q_pc x).toNatClampNeg a1))) (q_pc (s_pf x (upd (q_pf x) (q_pc x).toNatClampNeg a1))).toNatClampNeg a2))) (q_pc (s_pa (s_pf x (upd (q_pf x) (q_pc x).toNatClampNeg a1)) (upd (q_pa (s_pf x (upd (q_pf x) (q_pc x).toNatClampNeg a1))) (q_pc (s_pf x (upd (q_pf x) (q_pc x).toNatClampNeg a1))).toNatClampNeg a2))).toNatClampNeg a3)) (upd (q_pn (s_pb (s_pa (s_pf x (upd (q_pf x) (q_pc x).toNatClampNeg a1)) (upd (q_pa (s_pf x (upd (q_pf x) (q_pc x).toNatClampNeg a1))) (q_pc (s_pf x (upd (q_pf x) (q_pc x).toNatClampNeg a1))).toNatClampNeg a2)) (upd (q_pb (s_pa (s_pf x (upd (q_pf x) (q_pc x).toNatClampNeg a1)) (upd (q_pa (s_pf x (upd (q_pf x) (q_pc x).toNatClampNeg a1))) (q_pc (s_pf x (upd (q_pf x) (q_pc x).toNatClampNeg a1))).toNatClampNeg a2))) (q_pc (s_pa (s_pf x (upd (q_pf x) (q_pc x).toNatClampNeg a1)) (upd (q_pa (s_pf x (upd (q_pf x) (q_pc x).toNatClampNeg a1))) (q_pc (s_pf x (upd (q_pf x) (q_pc x).toNatClampNeg a1))).toNatClampNeg a2))).toNatClampNeg a3))) (q_pc (s_pb (s_pa (s_pf x (upd (q_pf x) (q_pc x).toNatClampNeg a1)) (upd (q_pa (s_pf x (upd (q_pf x) (q_pc x).toNatClampNeg a1))) (q_pc (s_pf x (upd (q_pf x) (q_pc x).toNatClampNeg a1))).toNatClampNeg a2)) (upd (q_pb (s_pa (s_pf x (upd (q_pf x) (q_pc x).toNatClampNeg a1)) (upd (q_pa (s_pf x (upd (q_pf x) (q_pc x).toNatClampNeg a1))) (q_pc (s_pf x (upd (q_pf x) (q_pc x).toNatClampNeg a1))).toNatClampNeg a2))) (q_pc (s_pa (s_pf x (upd (q_pf x) (q_pc x).toNatClampNeg a1)) (upd (q_pa (s_pf x (upd (q_pf x) (q_pc x).toNatClampNeg a1))) (q_pc (s_pf x (upd (q_pf x) (q_pc x).toNatClampNeg a1))).toNatClampNeg a2))).toNatClampNeg a3))).toNatClampNeg a4))) + 1)) else ((-1), x)
set_option maxHeartbeats 4000000 in
set_option maxRecDepth 100000 in
theorem u_Crowd_add (l : Launch) (dC : Nat → ClassId) (dI : Nat → Nat → Nat) (cI cZ : ClassId) (ad : Nat → Nat) (hj : aInj 29 ad) (x : ST) (hI : CIn x) (sz : Nat) (a1 a2 a3 a4 : Int32) : MX l y_Crowd_add (Cond.code y_Crowd_add b_Crowd_add 5 (some .int) :: BW) { frames := 0, cells := 0, slots := 0, locals := 0 } (PCZ sz (dC, dI) [(cI, .int), (cZ, .boolean)] (wC cI cZ ad x) [.ref (ad 7), .int a1, .int a2, .int a3, .int a4]) (UQ (some (.int (g_Crowd_add x a1 a2 a3 a4).1)) (WB (dC, dI) [(cI, .int), (cZ, .boolean)] (wC cI cZ ad (g_Crowd_add x a1 a2 a3 a4).2)) (aC 29 ad sz)) 0 0 (aC 29 ad sz) := by
  refine MX.ofW (cc := b_Crowd_add) (maxL := 5) (ret := (some .int)) (by decide) rfl ?_
  intro p e s m args below meth c s₁ B hml hex hv
  obtain ⟨hsz, rfl, hP, hK, hN⟩ := hv
  subst hsz
  have hx := B.exec
  have hb := B.bytes
  have hr := B.returns
  have hts := atoms_spec (ws := Cond.code y_Crowd_add b_Crowd_add 5 (some .int) :: BW) B.pre
  have hbw : ∀ w ∈ BW, w.before ([.ref (ad 7), .int a1, .int a2, .int a3, .int a4]).toArray s = true := fun w h => hts w (List.mem_cons_of_mem _ h)
  have hown : s.vm.findClass "PlanRows$Crowd" = some m.cls := findClass_of_methodNamed B.named
  have hlocks := B.notSynchronized
  have hDx : ∀ z, va_D (aC 29 ad s.heap.size) (wC cI cZ ad z) := fun z => w_D hj (wC_ad cI cZ ad z) _
  have hA : ∀ H : Heap, s.heap.size ≤ H.size → ∀ q, aC 29 ad H.size q → aC 29 ad s.heap.size q := fun H h => aC_le h
  generalize aC 29 ad s.heap.size = A at hDx hA ⊢
  have hD := hDx x
  have hS : va_S A s.heap s.heap [] := va_S.rf
  have hI0 := hI
  have hl := lv_entry ([.ref (ad 7), .int a1, .int a2, .int a3, .int a4]) (n := 5) (Nat.le_of_ble_eq_true rfl)
  rw [lg_entry_eq]
  generalize (lg_sl ([.ref (ad 7), .int a1, .int a2, .int a3, .int a4]) ++ List.replicate (5 - (lg_sl ([.ref (ad 7), .int a1, .int a2, .int a3, .int a4])).length) Slot.unset).toArray = ls at hl ⊢
  obtain ⟨H, hH⟩ : ∃ H, H = s.heap := ⟨_, rfl⟩
  obtain ⟨locs, hlocs⟩ : ∃ locs : List Loc, locs = [] := ⟨_, rfl⟩
  have hP : va_P (dC, dI) clsA (wC cI cZ ad x) H := by rw [hH]; exact hP
  have hS : va_S A s.heap H locs := by rw [hH, hlocs]; exact hS
  rw [← hlocs]
  have hW0 : ∀ (R : Room) (Q : State → Prop) (g : JFrame), W p l e R s m ([.ref (ad 7), .int a1, .int a2, .int a3, .int a4]).toArray below meth c H locs 0 0 Q g → W p l e R s m ([.ref (ad 7), .int a1, .int a2, .int a3, .int a4]).toArray below meth c s.heap locs 0 0 Q g := fun R Q g h => by rw [← hH]; exact h
  refine hW0 _ _ _ ?_
  have hl : lv_has ls 5 [(0, .ref (ad 7)), (1, .int a1), (2, .int a2), (3, .int a3), (4, .int a4)] := hl
  refine lv_aload_n hx hb d_Crowd_add_0 rfl (lv_at hl 0 rfl) ?_
  refine va_get (D := (dC, dI)) (ci := 0) (v := .int (q_pc x)) (C := R_Crowd) (T := F_Crowd) (N := 5) hx hb hbw in_Crowd hown hK hP 7 rfl rfl 4 (by decide) (hbw _ w_160) (fun _ h9 => h9) rfl d_Crowd_add_1 ?_
  refine lv_bipush (v := 60) hx hb d_Crowd_add_4 (by decide) ?_
  refine lv_icmp_lt (tgt := 11) hx hb d_Crowd_add_6 (by decide) (fun c_1 => ?_) (fun c_1 => ?_)
  · refine lv_aload_n hx hb d_Crowd_add_11 rfl (lv_at hl 0 rfl) ?_
    refine va_get (D := (dC, dI)) (ci := 0) (v := .ref (ad 22)) (C := R_Crowd) (T := F_Crowd) (N := 5) hx hb hbw in_Crowd hown hK hP 7 rfl rfl 0 (by decide) (hbw _ w_156) (fun _ h9 => h9) rfl d_Crowd_add_12 ?_
    refine lv_aload_n hx hb d_Crowd_add_15 rfl (lv_at hl 0 rfl) ?_
    refine va_get (D := (dC, dI)) (ci := 0) (v := .int (q_pc x)) (C := R_Crowd) (T := F_Crowd) (N := 5) hx hb hbw in_Crowd hown hK hP 7 rfl rfl 4 (by decide) (hbw _ w_160) (fun _ h9 => h9) rfl d_Crowd_add_16 ?_
    refine lv_iload_n hx hb d_Crowd_add_19 rfl (lv_at hl 1 rfl) ?_
    refine va_iast hx hb hK hP hD hS 22 0 rfl rfl (ix_szl hI.2.2.2.1 c_1 rfl) d_Crowd_add_20 (fun H locs hP hD hS => ?_)
    rw [wC_s_pf] at hP hD
    refine lv_aload_n hx hb d_Crowd_add_21 rfl (lv_at hl 0 rfl) ?_
    refine va_get (D := (dC, dI)) (ci := 0) (v := .ref (ad 23)) (C := R_Crowd) (T := F_Crowd) (N := 5) hx hb hbw in_Crowd hown hK hP 7 rfl rfl 1 (by decide) (hbw _ w_157) (fun _ h9 => h9) rfl d_Crowd_add_22 ?_
    refine lv_aload_n hx hb d_Crowd_add_25 rfl (lv_at hl 0 rfl) ?_
    refine va_get (D := (dC, dI)) (ci := 0) (v := .int (q_pc (s_pf x (upd (q_pf x) (q_pc x).toNatClampNeg a1)))) (C := R_Crowd) (T := F_Crowd) (N := 5) hx hb hbw in_Crowd hown hK hP 7 rfl rfl 4 (by decide) (hbw _ w_160) (fun _ h9 => h9) rfl d_Crowd_add_26 ?_
    refine lv_iload_n hx hb d_Crowd_add_29 rfl (lv_at hl 2 rfl) ?_
    refine va_iast hx hb hK hP hD hS 23 0 rfl rfl (ix_szl hI.2.2.2.1 c_1 rfl) d_Crowd_add_30 (fun H locs hP hD hS => ?_)
    rw [wC_s_pa] at hP hD
    refine lv_aload_n hx hb d_Crowd_add_31 rfl (lv_at hl 0 rfl) ?_
    refine va_get (D := (dC, dI)) (ci := 0) (v := .ref (ad 24)) (C := R_Crowd) (T := F_Crowd) (N := 5) hx hb hbw in_Crowd hown hK hP 7 rfl rfl 2 (by decide) (hbw _ w_158) (fun _ h9 => h9) rfl d_Crowd_add_32 ?_
    refine lv_aload_n hx hb d_Crowd_add_35 rfl (lv_at hl 0 rfl) ?_
    refine va_get (D := (dC, dI)) (ci := 0) (v := .int (q_pc (s_pa (s_pf x (upd (q_pf x) (q_pc x).toNatClampNeg a1)) (upd (q_pa (s_pf x (upd (q_pf x) (q_pc x).toNatClampNeg a1))) (q_pc (s_pf x (upd (q_pf x) (q_pc x).toNatClampNeg a1))).toNatClampNeg a2)))) (C := R_Crowd) (T := F_Crowd) (N := 5) hx hb hbw in_Crowd hown hK hP 7 rfl rfl 4 (by decide) (hbw _ w_160) (fun _ h9 => h9) rfl d_Crowd_add_36 ?_
    refine lv_iload_n hx hb d_Crowd_add_39 rfl (lv_at hl 3 rfl) ?_
    refine va_iast hx hb hK hP hD hS 24 0 rfl rfl (ix_szl hI.2.2.2.1 c_1 rfl) d_Crowd_add_40 (fun H locs hP hD hS => ?_)
    rw [wC_s_pb] at hP hD
    refine lv_aload_n hx hb d_Crowd_add_41 rfl (lv_at hl 0 rfl) ?_
    refine va_get (D := (dC, dI)) (ci := 0) (v := .ref (ad 25)) (C := R_Crowd) (T := F_Crowd) (N := 5) hx hb hbw in_Crowd hown hK hP 7 rfl rfl 3 (by decide) (hbw _ w_159) (fun _ h9 => h9) rfl d_Crowd_add_42 ?_
    refine lv_aload_n hx hb d_Crowd_add_45 rfl (lv_at hl 0 rfl) ?_
    refine va_get (D := (dC, dI)) (ci := 0) (v := .int (q_pc (s_pb (s_pa (s_pf x (upd (q_pf x) (q_pc x).toNatClampNeg a1)) (upd (q_pa (s_pf x (upd (q_pf x) (q_pc x).toNatClampNeg a1))) (q_pc (s_pf x (upd (q_pf x) (q_pc x).toNatClampNeg a1))).toNatClampNeg a2)) (upd (q_pb (s_pa (s_pf x (upd (q_pf x) (q_pc x).toNatClampNeg a1)) (upd (q_pa (s_pf x (upd (q_pf x) (q_pc x).toNatClampNeg a1))) (q_pc (s_pf x (upd (q_pf x) (q_pc x).toNatClampNeg a1))).toNatClampNeg a2))) (q_pc (s_pa (s_pf x (upd (q_pf x) (q_pc x).toNatClampNeg a1)) (upd (q_pa (s_pf x (upd (q_pf x) (q_pc x).toNatClampNeg a1))) (q_pc (s_pf x (upd (q_pf x) (q_pc x).toNatClampNeg a1))).toNatClampNeg a2))).toNatClampNeg a3)))) (C := R_Crowd) (T := F_Crowd) (N := 5) hx hb hbw in_Crowd hown hK hP 7 rfl rfl 4 (by decide) (hbw _ w_160) (fun _ h9 => h9) rfl d_Crowd_add_46 ?_
    refine lv_iload hx hb d_Crowd_add_49 (lv_at hl 4 rfl) ?_
    refine va_iast hx hb hK hP hD hS 25 0 rfl rfl (ix_szl hI.2.2.2.1 c_1 rfl) d_Crowd_add_51 (fun H locs hP hD hS => ?_)
    rw [wC_s_pn] at hP hD
    refine lv_aload_n hx hb d_Crowd_add_52 rfl (lv_at hl 0 rfl) ?_
    refine lv_dup hx hb d_Crowd_add_53 rfl ?_
    refine va_get (D := (dC, dI)) (ci := 0) (v := .int (q_pc (s_pn (s_pb (s_pa (s_pf x (upd (q_pf x) (q_pc x).toNatClampNeg a1)) (upd (q_pa (s_pf x (upd (q_pf x) (q_pc x).toNatClampNeg a1))) (q_pc (s_pf x (upd (q_pf x) (q_pc x).toNatClampNeg a1))).toNatClampNeg a2)) (upd (q_pb (s_pa (s_pf x (upd (q_pf x) (q_pc x).toNatClampNeg a1)) (upd (q_pa (s_pf x (upd (q_pf x) (q_pc x).toNatClampNeg a1))) (q_pc (s_pf x (upd (q_pf x) (q_pc x).toNatClampNeg a1))).toNatClampNeg a2))) (q_pc (s_pa (s_pf x (upd (q_pf x) (q_pc x).toNatClampNeg a1)) (upd (q_pa (s_pf x (upd (q_pf x) (q_pc x).toNatClampNeg a1))) (q_pc (s_pf x (upd (q_pf x) (q_pc x).toNatClampNeg a1))).toNatClampNeg a2))).toNatClampNeg a3)) (upd (q_pn (s_pb (s_pa (s_pf x (upd (q_pf x) (q_pc x).toNatClampNeg a1)) (upd (q_pa (s_pf x (upd (q_pf x) (q_pc x).toNatClampNeg a1))) (q_pc (s_pf x (upd (q_pf x) (q_pc x).toNatClampNeg a1))).toNatClampNeg a2)) (upd (q_pb (s_pa (s_pf x (upd (q_pf x) (q_pc x).toNatClampNeg a1)) (upd (q_pa (s_pf x (upd (q_pf x) (q_pc x).toNatClampNeg a1))) (q_pc (s_pf x (upd (q_pf x) (q_pc x).toNatClampNeg a1))).toNatClampNeg a2))) (q_pc (s_pa (s_pf x (upd (q_pf x) (q_pc x).toNatClampNeg a1)) (upd (q_pa (s_pf x (upd (q_pf x) (q_pc x).toNatClampNeg a1))) (q_pc (s_pf x (upd (q_pf x) (q_pc x).toNatClampNeg a1))).toNatClampNeg a2))).toNatClampNeg a3))) (q_pc (s_pb (s_pa (s_pf x (upd (q_pf x) (q_pc x).toNatClampNeg a1)) (upd (q_pa (s_pf x (upd (q_pf x) (q_pc x).toNatClampNeg a1))) (q_pc (s_pf x (upd (q_pf x) (q_pc x).toNatClampNeg a1))).toNatClampNeg a2)) (upd (q_pb (s_pa (s_pf x (upd (q_pf x) (q_pc x).toNatClampNeg a1)) (upd (q_pa (s_pf x (upd (q_pf x) (q_pc x).toNatClampNeg a1))) (q_pc (s_pf x (upd (q_pf x) (q_pc x).toNatClampNeg a1))).toNatClampNeg a2))) (q_pc (s_pa (s_pf x (upd (q_pf x) (q_pc x).toNatClampNeg a1)) (upd (q_pa (s_pf x (upd (q_pf x) (q_pc x).toNatClampNeg a1))) (q_pc (s_pf x (upd (q_pf x) (q_pc x).toNatClampNeg a1))).toNatClampNeg a2))).toNatClampNeg a3))).toNatClampNeg a4)))) (C := R_Crowd) (T := F_Crowd) (N := 5) hx hb hbw in_Crowd hown hK hP 7 rfl rfl 4 (by decide) (hbw _ w_160) (fun _ h9 => h9) rfl d_Crowd_add_54 ?_
    refine lv_iconst (v := 1) hx hb d_Crowd_add_57 (by decide) ?_
    refine lv_iadd hx hb d_Crowd_add_58 ?_
    refine va_put (D := (dC, dI)) (ci := 0) (v := .int ((q_pc (s_pn (s_pb (s_pa (s_pf x (upd (q_pf x) (q_pc x).toNatClampNeg a1)) (upd (q_pa (s_pf x (upd (q_pf x) (q_pc x).toNatClampNeg a1))) (q_pc (s_pf x (upd (q_pf x) (q_pc x).toNatClampNeg a1))).toNatClampNeg a2)) (upd (q_pb (s_pa (s_pf x (upd (q_pf x) (q_pc x).toNatClampNeg a1)) (upd (q_pa (s_pf x (upd (q_pf x) (q_pc x).toNatClampNeg a1))) (q_pc (s_pf x (upd (q_pf x) (q_pc x).toNatClampNeg a1))).toNatClampNeg a2))) (q_pc (s_pa (s_pf x (upd (q_pf x) (q_pc x).toNatClampNeg a1)) (upd (q_pa (s_pf x (upd (q_pf x) (q_pc x).toNatClampNeg a1))) (q_pc (s_pf x (upd (q_pf x) (q_pc x).toNatClampNeg a1))).toNatClampNeg a2))).toNatClampNeg a3)) (upd (q_pn (s_pb (s_pa (s_pf x (upd (q_pf x) (q_pc x).toNatClampNeg a1)) (upd (q_pa (s_pf x (upd (q_pf x) (q_pc x).toNatClampNeg a1))) (q_pc (s_pf x (upd (q_pf x) (q_pc x).toNatClampNeg a1))).toNatClampNeg a2)) (upd (q_pb (s_pa (s_pf x (upd (q_pf x) (q_pc x).toNatClampNeg a1)) (upd (q_pa (s_pf x (upd (q_pf x) (q_pc x).toNatClampNeg a1))) (q_pc (s_pf x (upd (q_pf x) (q_pc x).toNatClampNeg a1))).toNatClampNeg a2))) (q_pc (s_pa (s_pf x (upd (q_pf x) (q_pc x).toNatClampNeg a1)) (upd (q_pa (s_pf x (upd (q_pf x) (q_pc x).toNatClampNeg a1))) (q_pc (s_pf x (upd (q_pf x) (q_pc x).toNatClampNeg a1))).toNatClampNeg a2))).toNatClampNeg a3))) (q_pc (s_pb (s_pa (s_pf x (upd (q_pf x) (q_pc x).toNatClampNeg a1)) (upd (q_pa (s_pf x (upd (q_pf x) (q_pc x).toNatClampNeg a1))) (q_pc (s_pf x (upd (q_pf x) (q_pc x).toNatClampNeg a1))).toNatClampNeg a2)) (upd (q_pb (s_pa (s_pf x (upd (q_pf x) (q_pc x).toNatClampNeg a1)) (upd (q_pa (s_pf x (upd (q_pf x) (q_pc x).toNatClampNeg a1))) (q_pc (s_pf x (upd (q_pf x) (q_pc x).toNatClampNeg a1))).toNatClampNeg a2))) (q_pc (s_pa (s_pf x (upd (q_pf x) (q_pc x).toNatClampNeg a1)) (upd (q_pa (s_pf x (upd (q_pf x) (q_pc x).toNatClampNeg a1))) (q_pc (s_pf x (upd (q_pf x) (q_pc x).toNatClampNeg a1))).toNatClampNeg a2))).toNatClampNeg a3))).toNatClampNeg a4))) + 1)) (ty := .int) (C := R_Crowd) (T := F_Crowd) (N := 5) hx hb hbw in_Crowd t_Crowd t_Crowd_ok n_Crowd hown hK hP hD hS 7 rfl rfl 4 (by decide) (hbw _ w_160) (fun _ h9 => h9) rfl (by decide +kernel) rfl rfl (Nat.le_of_ble_eq_true rfl) d_Crowd_add_59 (fun H locs hP hD hS => ?_)
    rw [wC_s_pc] at hP hD
    refine lv_aload_n hx hb d_Crowd_add_62 rfl (lv_at hl 0 rfl) ?_
    refine va_get (D := (dC, dI)) (ci := 0) (v := .int (q_pc (s_pc (s_pn (s_pb (s_pa (s_pf x (upd (q_pf x) (q_pc x).toNatClampNeg a1)) (upd (q_pa (s_pf x (upd (q_pf x) (q_pc x).toNatClampNeg a1))) (q_pc (s_pf x (upd (q_pf x) (q_pc x).toNatClampNeg a1))).toNatClampNeg a2)) (upd (q_pb (s_pa (s_pf x (upd (q_pf x) (q_pc x).toNatClampNeg a1)) (upd (q_pa (s_pf x (upd (q_pf x) (q_pc x).toNatClampNeg a1))) (q_pc (s_pf x (upd (q_pf x) (q_pc x).toNatClampNeg a1))).toNatClampNeg a2))) (q_pc (s_pa (s_pf x (upd (q_pf x) (q_pc x).toNatClampNeg a1)) (upd (q_pa (s_pf x (upd (q_pf x) (q_pc x).toNatClampNeg a1))) (q_pc (s_pf x (upd (q_pf x) (q_pc x).toNatClampNeg a1))).toNatClampNeg a2))).toNatClampNeg a3)) (upd (q_pn (s_pb (s_pa (s_pf x (upd (q_pf x) (q_pc x).toNatClampNeg a1)) (upd (q_pa (s_pf x (upd (q_pf x) (q_pc x).toNatClampNeg a1))) (q_pc (s_pf x (upd (q_pf x) (q_pc x).toNatClampNeg a1))).toNatClampNeg a2)) (upd (q_pb (s_pa (s_pf x (upd (q_pf x) (q_pc x).toNatClampNeg a1)) (upd (q_pa (s_pf x (upd (q_pf x) (q_pc x).toNatClampNeg a1))) (q_pc (s_pf x (upd (q_pf x) (q_pc x).toNatClampNeg a1))).toNatClampNeg a2))) (q_pc (s_pa (s_pf x (upd (q_pf x) (q_pc x).toNatClampNeg a1)) (upd (q_pa (s_pf x (upd (q_pf x) (q_pc x).toNatClampNeg a1))) (q_pc (s_pf x (upd (q_pf x) (q_pc x).toNatClampNeg a1))).toNatClampNeg a2))).toNatClampNeg a3))) (q_pc (s_pb (s_pa (s_pf x (upd (q_pf x) (q_pc x).toNatClampNeg a1)) (upd (q_pa (s_pf x (upd (q_pf x) (q_pc x).toNatClampNeg a1))) (q_pc (s_pf x (upd (q_pf x) (q_pc x).toNatClampNeg a1))).toNatClampNeg a2)) (upd (q_pb (s_pa (s_pf x (upd (q_pf x) (q_pc x).toNatClampNeg a1)) (upd (q_pa (s_pf x (upd (q_pf x) (q_pc x).toNatClampNeg a1))) (q_pc (s_pf x (upd (q_pf x) (q_pc x).toNatClampNeg a1))).toNatClampNeg a2))) (q_pc (s_pa (s_pf x (upd (q_pf x) (q_pc x).toNatClampNeg a1)) (upd (q_pa (s_pf x (upd (q_pf x) (q_pc x).toNatClampNeg a1))) (q_pc (s_pf x (upd (q_pf x) (q_pc x).toNatClampNeg a1))).toNatClampNeg a2))).toNatClampNeg a3))).toNatClampNeg a4)) ((q_pc (s_pn (s_pb (s_pa (s_pf x (upd (q_pf x) (q_pc x).toNatClampNeg a1)) (upd (q_pa (s_pf x (upd (q_pf x) (q_pc x).toNatClampNeg a1))) (q_pc (s_pf x (upd (q_pf x) (q_pc x).toNatClampNeg a1))).toNatClampNeg a2)) (upd (q_pb (s_pa (s_pf x (upd (q_pf x) (q_pc x).toNatClampNeg a1)) (upd (q_pa (s_pf x (upd (q_pf x) (q_pc x).toNatClampNeg a1))) (q_pc (s_pf x (upd (q_pf x) (q_pc x).toNatClampNeg a1))).toNatClampNeg a2))) (q_pc (s_pa (s_pf x (upd (q_pf x) (q_pc x).toNatClampNeg a1)) (upd (q_pa (s_pf x (upd (q_pf x) (q_pc x).toNatClampNeg a1))) (q_pc (s_pf x (upd (q_pf x) (q_pc x).toNatClampNeg a1))).toNatClampNeg a2))).toNatClampNeg a3)) (upd (q_pn (s_pb (s_pa (s_pf x (upd (q_pf x) (q_pc x).toNatClampNeg a1)) (upd (q_pa (s_pf x (upd (q_pf x) (q_pc x).toNatClampNeg a1))) (q_pc (s_pf x (upd (q_pf x) (q_pc x).toNatClampNeg a1))).toNatClampNeg a2)) (upd (q_pb (s_pa (s_pf x (upd (q_pf x) (q_pc x).toNatClampNeg a1)) (upd (q_pa (s_pf x (upd (q_pf x) (q_pc x).toNatClampNeg a1))) (q_pc (s_pf x (upd (q_pf x) (q_pc x).toNatClampNeg a1))).toNatClampNeg a2))) (q_pc (s_pa (s_pf x (upd (q_pf x) (q_pc x).toNatClampNeg a1)) (upd (q_pa (s_pf x (upd (q_pf x) (q_pc x).toNatClampNeg a1))) (q_pc (s_pf x (upd (q_pf x) (q_pc x).toNatClampNeg a1))).toNatClampNeg a2))).toNatClampNeg a3))) (q_pc (s_pb (s_pa (s_pf x (upd (q_pf x) (q_pc x).toNatClampNeg a1)) (upd (q_pa (s_pf x (upd (q_pf x) (q_pc x).toNatClampNeg a1))) (q_pc (s_pf x (upd (q_pf x) (q_pc x).toNatClampNeg a1))).toNatClampNeg a2)) (upd (q_pb (s_pa (s_pf x (upd (q_pf x) (q_pc x).toNatClampNeg a1)) (upd (q_pa (s_pf x (upd (q_pf x) (q_pc x).toNatClampNeg a1))) (q_pc (s_pf x (upd (q_pf x) (q_pc x).toNatClampNeg a1))).toNatClampNeg a2))) (q_pc (s_pa (s_pf x (upd (q_pf x) (q_pc x).toNatClampNeg a1)) (upd (q_pa (s_pf x (upd (q_pf x) (q_pc x).toNatClampNeg a1))) (q_pc (s_pf x (upd (q_pf x) (q_pc x).toNatClampNeg a1))).toNatClampNeg a2))).toNatClampNeg a3))).toNatClampNeg a4))) + 1)))) (C := R_Crowd) (T := F_Crowd) (N := 5) hx hb hbw in_Crowd hown hK hP 7 rfl rfl 4 (by decide) (hbw _ w_160) (fun _ h9 => h9) rfl d_Crowd_add_63 ?_
    refine lv_iconst (v := 1) hx hb d_Crowd_add_66 (by decide) ?_
    refine lv_isub hx hb d_Crowd_add_67 ?_
    have hg : g_Crowd_add x a1 a2 a3 a4 = ((q_pc (s_pc (s_pn (s_pb (s_pa (s_pf x (upd (q_pf x) (q_pc x).toNatClampNeg a1)) (upd (q_pa (s_pf x (upd (q_pf x) (q_pc x).toNatClampNeg a1))) (q_pc (s_pf x (upd (q_pf x) (q_pc x).toNatClampNeg a1))).toNatClampNeg a2)) (upd (q_pb (s_pa (s_pf x (upd (q_pf x) (q_pc x).toNatClampNeg a1)) (upd (q_pa (s_pf x (upd (q_pf x) (q_pc x).toNatClampNeg a1))) (q_pc (s_pf x (upd (q_pf x) (q_pc x).toNatClampNeg a1))).toNatClampNeg a2))) (q_pc (s_pa (s_pf x (upd (q_pf x) (q_pc x).toNatClampNeg a1)) (upd (q_pa (s_pf x (upd (q_pf x) (q_pc x).toNatClampNeg a1))) (q_pc (s_pf x (upd (q_pf x) (q_pc x).toNatClampNeg a1))).toNatClampNeg a2))).toNatClampNeg a3)) (upd (q_pn (s_pb (s_pa (s_pf x (upd (q_pf x) (q_pc x).toNatClampNeg a1)) (upd (q_pa (s_pf x (upd (q_pf x) (q_pc x).toNatClampNeg a1))) (q_pc (s_pf x (upd (q_pf x) (q_pc x).toNatClampNeg a1))).toNatClampNeg a2)) (upd (q_pb (s_pa (s_pf x (upd (q_pf x) (q_pc x).toNatClampNeg a1)) (upd (q_pa (s_pf x (upd (q_pf x) (q_pc x).toNatClampNeg a1))) (q_pc (s_pf x (upd (q_pf x) (q_pc x).toNatClampNeg a1))).toNatClampNeg a2))) (q_pc (s_pa (s_pf x (upd (q_pf x) (q_pc x).toNatClampNeg a1)) (upd (q_pa (s_pf x (upd (q_pf x) (q_pc x).toNatClampNeg a1))) (q_pc (s_pf x (upd (q_pf x) (q_pc x).toNatClampNeg a1))).toNatClampNeg a2))).toNatClampNeg a3))) (q_pc (s_pb (s_pa (s_pf x (upd (q_pf x) (q_pc x).toNatClampNeg a1)) (upd (q_pa (s_pf x (upd (q_pf x) (q_pc x).toNatClampNeg a1))) (q_pc (s_pf x (upd (q_pf x) (q_pc x).toNatClampNeg a1))).toNatClampNeg a2)) (upd (q_pb (s_pa (s_pf x (upd (q_pf x) (q_pc x).toNatClampNeg a1)) (upd (q_pa (s_pf x (upd (q_pf x) (q_pc x).toNatClampNeg a1))) (q_pc (s_pf x (upd (q_pf x) (q_pc x).toNatClampNeg a1))).toNatClampNeg a2))) (q_pc (s_pa (s_pf x (upd (q_pf x) (q_pc x).toNatClampNeg a1)) (upd (q_pa (s_pf x (upd (q_pf x) (q_pc x).toNatClampNeg a1))) (q_pc (s_pf x (upd (q_pf x) (q_pc x).toNatClampNeg a1))).toNatClampNeg a2))).toNatClampNeg a3))).toNatClampNeg a4)) ((q_pc (s_pn (s_pb (s_pa (s_pf x (upd (q_pf x) (q_pc x).toNatClampNeg a1)) (upd (q_pa (s_pf x (upd (q_pf x) (q_pc x).toNatClampNeg a1))) (q_pc (s_pf x (upd (q_pf x) (q_pc x).toNatClampNeg a1))).toNatClampNeg a2)) (upd (q_pb (s_pa (s_pf x (upd (q_pf x) (q_pc x).toNatClampNeg a1)) (upd (q_pa (s_pf x (upd (q_pf x) (q_pc x).toNatClampNeg a1))) (q_pc (s_pf x (upd (q_pf x) (q_pc x).toNatClampNeg a1))).toNatClampNeg a2))) (q_pc (s_pa (s_pf x (upd (q_pf x) (q_pc x).toNatClampNeg a1)) (upd (q_pa (s_pf x (upd (q_pf x) (q_pc x).toNatClampNeg a1))) (q_pc (s_pf x (upd (q_pf x) (q_pc x).toNatClampNeg a1))).toNatClampNeg a2))).toNatClampNeg a3)) (upd (q_pn (s_pb (s_pa (s_pf x (upd (q_pf x) (q_pc x).toNatClampNeg a1)) (upd (q_pa (s_pf x (upd (q_pf x) (q_pc x).toNatClampNeg a1))) (q_pc (s_pf x (upd (q_pf x) (q_pc x).toNatClampNeg a1))).toNatClampNeg a2)) (upd (q_pb (s_pa (s_pf x (upd (q_pf x) (q_pc x).toNatClampNeg a1)) (upd (q_pa (s_pf x (upd (q_pf x) (q_pc x).toNatClampNeg a1))) (q_pc (s_pf x (upd (q_pf x) (q_pc x).toNatClampNeg a1))).toNatClampNeg a2))) (q_pc (s_pa (s_pf x (upd (q_pf x) (q_pc x).toNatClampNeg a1)) (upd (q_pa (s_pf x (upd (q_pf x) (q_pc x).toNatClampNeg a1))) (q_pc (s_pf x (upd (q_pf x) (q_pc x).toNatClampNeg a1))).toNatClampNeg a2))).toNatClampNeg a3))) (q_pc (s_pb (s_pa (s_pf x (upd (q_pf x) (q_pc x).toNatClampNeg a1)) (upd (q_pa (s_pf x (upd (q_pf x) (q_pc x).toNatClampNeg a1))) (q_pc (s_pf x (upd (q_pf x) (q_pc x).toNatClampNeg a1))).toNatClampNeg a2)) (upd (q_pb (s_pa (s_pf x (upd (q_pf x) (q_pc x).toNatClampNeg a1)) (upd (q_pa (s_pf x (upd (q_pf x) (q_pc x).toNatClampNeg a1))) (q_pc (s_pf x (upd (q_pf x) (q_pc x).toNatClampNeg a1))).toNatClampNeg a2))) (q_pc (s_pa (s_pf x (upd (q_pf x) (q_pc x).toNatClampNeg a1)) (upd (q_pa (s_pf x (upd (q_pf x) (q_pc x).toNatClampNeg a1))) (q_pc (s_pf x (upd (q_pf x) (q_pc x).toNatClampNeg a1))).toNatClampNeg a2))).toNatClampNeg a3))).toNatClampNeg a4))) + 1))) - 1, s_pc (s_pn (s_pb (s_pa (s_pf x (upd (q_pf x) (q_pc x).toNatClampNeg a1)) (upd (q_pa (s_pf x (upd (q_pf x) (q_pc x).toNatClampNeg a1))) (q_pc (s_pf x (upd (q_pf x) (q_pc x).toNatClampNeg a1))).toNatClampNeg a2)) (upd (q_pb (s_pa (s_pf x (upd (q_pf x) (q_pc x).toNatClampNeg a1)) (upd (q_pa (s_pf x (upd (q_pf x) (q_pc x).toNatClampNeg a1))) (q_pc (s_pf x (upd (q_pf x) (q_pc x).toNatClampNeg a1))).toNatClampNeg a2))) (q_pc (s_pa (s_pf x (upd (q_pf x) (q_pc x).toNatClampNeg a1)) (upd (q_pa (s_pf x (upd (q_pf x) (q_pc x).toNatClampNeg a1))) (q_pc (s_pf x (upd (q_pf x) (q_pc x).toNatClampNeg a1))).toNatClampNeg a2))).toNatClampNeg a3)) (upd (q_pn (s_pb (s_pa (s_pf x (upd (q_pf x) (q_pc x).toNatClampNeg a1)) (upd (q_pa (s_pf x (upd (q_pf x) (q_pc x).toNatClampNeg a1))) (q_pc (s_pf x (upd (q_pf x) (q_pc x).toNatClampNeg a1))).toNatClampNeg a2)) (upd (q_pb (s_pa (s_pf x (upd (q_pf x) (q_pc x).toNatClampNeg a1)) (upd (q_pa (s_pf x (upd (q_pf x) (q_pc x).toNatClampNeg a1))) (q_pc (s_pf x (upd (q_pf x) (q_pc x).toNatClampNeg a1))).toNatClampNeg a2))) (q_pc (s_pa (s_pf x (upd (q_pf x) (q_pc x).toNatClampNeg a1)) (upd (q_pa (s_pf x (upd (q_pf x) (q_pc x).toNatClampNeg a1))) (q_pc (s_pf x (upd (q_pf x) (q_pc x).toNatClampNeg a1))).toNatClampNeg a2))).toNatClampNeg a3))) (q_pc (s_pb (s_pa (s_pf x (upd (q_pf x) (q_pc x).toNatClampNeg a1)) (upd (q_pa (s_pf x (upd (q_pf x) (q_pc x).toNatClampNeg a1))) (q_pc (s_pf x (upd (q_pf x) (q_pc x).toNatClampNeg a1))).toNatClampNeg a2)) (upd (q_pb (s_pa (s_pf x (upd (q_pf x) (q_pc x).toNatClampNeg a1)) (upd (q_pa (s_pf x (upd (q_pf x) (q_pc x).toNatClampNeg a1))) (q_pc (s_pf x (upd (q_pf x) (q_pc x).toNatClampNeg a1))).toNatClampNeg a2))) (q_pc (s_pa (s_pf x (upd (q_pf x) (q_pc x).toNatClampNeg a1)) (upd (q_pa (s_pf x (upd (q_pf x) (q_pc x).toNatClampNeg a1))) (q_pc (s_pf x (upd (q_pf x) (q_pc x).toNatClampNeg a1))).toNatClampNeg a2))).toNatClampNeg a3))).toNatClampNeg a4)) ((q_pc (s_pn (s_pb (s_pa (s_pf x (upd (q_pf x) (q_pc x).toNatClampNeg a1)) (upd (q_pa (s_pf x (upd (q_pf x) (q_pc x).toNatClampNeg a1))) (q_pc (s_pf x (upd (q_pf x) (q_pc x).toNatClampNeg a1))).toNatClampNeg a2)) (upd (q_pb (s_pa (s_pf x (upd (q_pf x) (q_pc x).toNatClampNeg a1)) (upd (q_pa (s_pf x (upd (q_pf x) (q_pc x).toNatClampNeg a1))) (q_pc (s_pf x (upd (q_pf x) (q_pc x).toNatClampNeg a1))).toNatClampNeg a2))) (q_pc (s_pa (s_pf x (upd (q_pf x) (q_pc x).toNatClampNeg a1)) (upd (q_pa (s_pf x (upd (q_pf x) (q_pc x).toNatClampNeg a1))) (q_pc (s_pf x (upd (q_pf x) (q_pc x).toNatClampNeg a1))).toNatClampNeg a2))).toNatClampNeg a3)) (upd (q_pn (s_pb (s_pa (s_pf x (upd (q_pf x) (q_pc x).toNatClampNeg a1)) (upd (q_pa (s_pf x (upd (q_pf x) (q_pc x).toNatClampNeg a1))) (q_pc (s_pf x (upd (q_pf x) (q_pc x).toNatClampNeg a1))).toNatClampNeg a2)) (upd (q_pb (s_pa (s_pf x (upd (q_pf x) (q_pc x).toNatClampNeg a1)) (upd (q_pa (s_pf x (upd (q_pf x) (q_pc x).toNatClampNeg a1))) (q_pc (s_pf x (upd (q_pf x) (q_pc x).toNatClampNeg a1))).toNatClampNeg a2))) (q_pc (s_pa (s_pf x (upd (q_pf x) (q_pc x).toNatClampNeg a1)) (upd (q_pa (s_pf x (upd (q_pf x) (q_pc x).toNatClampNeg a1))) (q_pc (s_pf x (upd (q_pf x) (q_pc x).toNatClampNeg a1))).toNatClampNeg a2))).toNatClampNeg a3))) (q_pc (s_pb (s_pa (s_pf x (upd (q_pf x) (q_pc x).toNatClampNeg a1)) (upd (q_pa (s_pf x (upd (q_pf x) (q_pc x).toNatClampNeg a1))) (q_pc (s_pf x (upd (q_pf x) (q_pc x).toNatClampNeg a1))).toNatClampNeg a2)) (upd (q_pb (s_pa (s_pf x (upd (q_pf x) (q_pc x).toNatClampNeg a1)) (upd (q_pa (s_pf x (upd (q_pf x) (q_pc x).toNatClampNeg a1))) (q_pc (s_pf x (upd (q_pf x) (q_pc x).toNatClampNeg a1))).toNatClampNeg a2))) (q_pc (s_pa (s_pf x (upd (q_pf x) (q_pc x).toNatClampNeg a1)) (upd (q_pa (s_pf x (upd (q_pf x) (q_pc x).toNatClampNeg a1))) (q_pc (s_pf x (upd (q_pf x) (q_pc x).toNatClampNeg a1))).toNatClampNeg a2))).toNatClampNeg a3))).toNatClampNeg a4))) + 1)) := by unfold g_Crowd_add; rw [if_pos c_1]
    exact W.toX (W.iret (v := (q_pc (s_pc (s_pn (s_pb (s_pa (s_pf x (upd (q_pf x) (q_pc x).toNatClampNeg a1)) (upd (q_pa (s_pf x (upd (q_pf x) (q_pc x).toNatClampNeg a1))) (q_pc (s_pf x (upd (q_pf x) (q_pc x).toNatClampNeg a1))).toNatClampNeg a2)) (upd (q_pb (s_pa (s_pf x (upd (q_pf x) (q_pc x).toNatClampNeg a1)) (upd (q_pa (s_pf x (upd (q_pf x) (q_pc x).toNatClampNeg a1))) (q_pc (s_pf x (upd (q_pf x) (q_pc x).toNatClampNeg a1))).toNatClampNeg a2))) (q_pc (s_pa (s_pf x (upd (q_pf x) (q_pc x).toNatClampNeg a1)) (upd (q_pa (s_pf x (upd (q_pf x) (q_pc x).toNatClampNeg a1))) (q_pc (s_pf x (upd (q_pf x) (q_pc x).toNatClampNeg a1))).toNatClampNeg a2))).toNatClampNeg a3)) (upd (q_pn (s_pb (s_pa (s_pf x (upd (q_pf x) (q_pc x).toNatClampNeg a1)) (upd (q_pa (s_pf x (upd (q_pf x) (q_pc x).toNatClampNeg a1))) (q_pc (s_pf x (upd (q_pf x) (q_pc x).toNatClampNeg a1))).toNatClampNeg a2)) (upd (q_pb (s_pa (s_pf x (upd (q_pf x) (q_pc x).toNatClampNeg a1)) (upd (q_pa (s_pf x (upd (q_pf x) (q_pc x).toNatClampNeg a1))) (q_pc (s_pf x (upd (q_pf x) (q_pc x).toNatClampNeg a1))).toNatClampNeg a2))) (q_pc (s_pa (s_pf x (upd (q_pf x) (q_pc x).toNatClampNeg a1)) (upd (q_pa (s_pf x (upd (q_pf x) (q_pc x).toNatClampNeg a1))) (q_pc (s_pf x (upd (q_pf x) (q_pc x).toNatClampNeg a1))).toNatClampNeg a2))).toNatClampNeg a3))) (q_pc (s_pb (s_pa (s_pf x (upd (q_pf x) (q_pc x).toNatClampNeg a1)) (upd (q_pa (s_pf x (upd (q_pf x) (q_pc x).toNatClampNeg a1))) (q_pc (s_pf x (upd (q_pf x) (q_pc x).toNatClampNeg a1))).toNatClampNeg a2)) (upd (q_pb (s_pa (s_pf x (upd (q_pf x) (q_pc x).toNatClampNeg a1)) (upd (q_pa (s_pf x (upd (q_pf x) (q_pc x).toNatClampNeg a1))) (q_pc (s_pf x (upd (q_pf x) (q_pc x).toNatClampNeg a1))).toNatClampNeg a2))) (q_pc (s_pa (s_pf x (upd (q_pf x) (q_pc x).toNatClampNeg a1)) (upd (q_pa (s_pf x (upd (q_pf x) (q_pc x).toNatClampNeg a1))) (q_pc (s_pf x (upd (q_pf x) (q_pc x).toNatClampNeg a1))).toNatClampNeg a2))).toNatClampNeg a3))).toNatClampNeg a4)) ((q_pc (s_pn (s_pb (s_pa (s_pf x (upd (q_pf x) (q_pc x).toNatClampNeg a1)) (upd (q_pa (s_pf x (upd (q_pf x) (q_pc x).toNatClampNeg a1))) (q_pc (s_pf x (upd (q_pf x) (q_pc x).toNatClampNeg a1))).toNatClampNeg a2)) (upd (q_pb (s_pa (s_pf x (upd (q_pf x) (q_pc x).toNatClampNeg a1)) (upd (q_pa (s_pf x (upd (q_pf x) (q_pc x).toNatClampNeg a1))) (q_pc (s_pf x (upd (q_pf x) (q_pc x).toNatClampNeg a1))).toNatClampNeg a2))) (q_pc (s_pa (s_pf x (upd (q_pf x) (q_pc x).toNatClampNeg a1)) (upd (q_pa (s_pf x (upd (q_pf x) (q_pc x).toNatClampNeg a1))) (q_pc (s_pf x (upd (q_pf x) (q_pc x).toNatClampNeg a1))).toNatClampNeg a2))).toNatClampNeg a3)) (upd (q_pn (s_pb (s_pa (s_pf x (upd (q_pf x) (q_pc x).toNatClampNeg a1)) (upd (q_pa (s_pf x (upd (q_pf x) (q_pc x).toNatClampNeg a1))) (q_pc (s_pf x (upd (q_pf x) (q_pc x).toNatClampNeg a1))).toNatClampNeg a2)) (upd (q_pb (s_pa (s_pf x (upd (q_pf x) (q_pc x).toNatClampNeg a1)) (upd (q_pa (s_pf x (upd (q_pf x) (q_pc x).toNatClampNeg a1))) (q_pc (s_pf x (upd (q_pf x) (q_pc x).toNatClampNeg a1))).toNatClampNeg a2))) (q_pc (s_pa (s_pf x (upd (q_pf x) (q_pc x).toNatClampNeg a1)) (upd (q_pa (s_pf x (upd (q_pf x) (q_pc x).toNatClampNeg a1))) (q_pc (s_pf x (upd (q_pf x) (q_pc x).toNatClampNeg a1))).toNatClampNeg a2))).toNatClampNeg a3))) (q_pc (s_pb (s_pa (s_pf x (upd (q_pf x) (q_pc x).toNatClampNeg a1)) (upd (q_pa (s_pf x (upd (q_pf x) (q_pc x).toNatClampNeg a1))) (q_pc (s_pf x (upd (q_pf x) (q_pc x).toNatClampNeg a1))).toNatClampNeg a2)) (upd (q_pb (s_pa (s_pf x (upd (q_pf x) (q_pc x).toNatClampNeg a1)) (upd (q_pa (s_pf x (upd (q_pf x) (q_pc x).toNatClampNeg a1))) (q_pc (s_pf x (upd (q_pf x) (q_pc x).toNatClampNeg a1))).toNatClampNeg a2))) (q_pc (s_pa (s_pf x (upd (q_pf x) (q_pc x).toNatClampNeg a1)) (upd (q_pa (s_pf x (upd (q_pf x) (q_pc x).toNatClampNeg a1))) (q_pc (s_pf x (upd (q_pf x) (q_pc x).toNatClampNeg a1))).toNatClampNeg a2))).toNatClampNeg a3))).toNatClampNeg a4))) + 1))) - 1) hx hb hr (fun t ht hW => ⟨by rw [hg], ⟨by rw [ht, hg]; exact hP, va_K.moved hW.alike hK, hN.warm hW⟩, hS.F ht⟩) hS.2.2 d_Crowd_add_68)
  · refine lv_iconst (v := (-1)) hx hb d_Crowd_add_9 (by decide) ?_
    have hg : g_Crowd_add x a1 a2 a3 a4 = ((-1), x) := by unfold g_Crowd_add; rw [if_neg c_1]
    exact W.toX (W.iret (v := (-1)) hx hb hr (fun t ht hW => ⟨by rw [hg], ⟨by rw [ht, hg]; exact hP, va_K.moved hW.alike hK, hN.warm hW⟩, hS.F ht⟩) hS.2.2 d_Crowd_add_10)
def g_Win_add (x : ST) (a1 a2 a3 : Int32) : Int32 × ST := if (q_wc x) < 30 then ((q_wc (s_wc (s_wz (s_wy (s_wx x (upd (q_wx x) (q_wc x).toNatClampNeg a1)) (upd (q_wy (s_wx x (upd (q_wx x) (q_wc x).toNatClampNeg a1))) (q_wc (s_wx x (upd (q_wx x) (q_wc x).toNatClampNeg a1))).toNatClampNeg a2)) (upd (q_wz (s_wy (s_wx x (upd (q_wx x) (q_wc x).toNatClampNeg a1)) (upd (q_wy (s_wx x (upd (q_wx x) (q_wc x).toNatClampNeg a1))) (q_wc (s_wx x (upd (q_wx x) (q_wc x).toNatClampNeg a1))).toNatClampNeg a2))) (q_wc (s_wy (s_wx x (upd (q_wx x) (q_wc x).toNatClampNeg a1)) (upd (q_wy (s_wx x (upd (q_wx x) (q_wc x).toNatClampNeg a1))) (q_wc (s_wx x (upd (q_wx x) (q_wc x).toNatClampNeg a1))).toNatClampNeg a2))).toNatClampNeg a3)) ((q_wc (s_wz (s_wy (s_wx x (upd (q_wx x) (q_wc x).toNatClampNeg a1)) (upd (q_wy (s_wx x (upd (q_wx x) (q_wc x).toNatClampNeg a1))) (q_wc (s_wx x (upd (q_wx x) (q_wc x).toNatClampNeg a1))).toNatClampNeg a2)) (upd (q_wz (s_wy (s_wx x (upd (q_wx x) (q_wc x).toNatClampNeg a1)) (upd (q_wy (s_wx x (upd (q_wx x) (q_wc x).toNatClampNeg a1))) (q_wc (s_wx x (upd (q_wx x) (q_wc x).toNatClampNeg a1))).toNatClampNeg a2))) (q_wc (s_wy (s_wx x (upd (q_wx x) (q_wc x).toNatClampNeg a1)) (upd (q_wy (s_wx x (upd (q_wx x) (q_wc x).toNatClampNeg a1))) (q_wc (s_wx x (upd (q_wx x) (q_wc x).toNatClampNeg a1))).toNatClampNeg a2))).toNatClampNeg a3))) + 1))) - 1, s_wc (s_wz (s_wy (s_wx x (upd (q_wx x) (q_wc x).toNatClampNeg a1)) (upd (q_wy (s_wx x (upd (q_wx x) (q_wc x).toNatClampNeg a1))) (q_wc (s_wx x (upd (q_wx x) (q_wc x).toNatClampNeg a1))).toNatClampNeg a2)) (upd (q_wz (s_wy (s_wx x (upd (q_wx x) (q_wc x).toNatClampNeg a1)) (upd (q_wy (s_wx x (upd (q_wx x) (q_wc x).toNatClampNeg a1))) (q_wc (s_wx x (upd (q_wx x) (q_wc x).toNatClampNeg a1))).toNatClampNeg a2))) (q_wc (s_wy (s_wx x (upd (q_wx x) (q_wc x).toNatClampNeg a1)) (upd (q_wy (s_wx x (upd (q_wx x) (q_wc x).toNatClampNeg a1))) (q_wc (s_wx x (upd (q_wx x) (q_wc x).toNatClampNeg a1))).toNatClampNeg a2))).toNatClampNeg a3)) ((q_wc (s_wz (s_wy (s_wx x (upd (q_wx x) (q_wc x).toNatClampNeg a1)) (upd (q_wy (s_wx x (upd (q_wx x) (q_wc x).toNatClampNeg a1))) (q_wc (s_wx x (upd (q_wx x) (q_wc x).toNatClampNeg a1))).toNatClampNeg a2)) (upd (q_wz (s_wy (s_wx x (upd (q_wx x) (q_wc x).toNatClampNeg a1)) (upd (q_wy (s_wx x (upd (q_wx x) (q_wc x).toNatClampNeg a1))) (q_wc (s_wx x (upd (q_wx x) (q_wc x).toNatClampNeg a1))).toNatClampNeg a2))) (q_wc (s_wy (s_wx x (upd (q_wx x) (q_wc x).toNatClampNeg a1)) (upd (q_wy (s_wx x (upd (q_wx x) (q_wc x).toNatClampNeg a1))) (q_wc (s_wx x (upd (q_wx x) (q_wc x).toNatClampNeg a1))).toNatClampNeg a2))).toNatClampNeg a3))) + 1)) else ((-1), x)
set_option maxHeartbeats 4000000 in
set_option maxRecDepth 100000 in
theorem u_Win_add (l : Launch) (dC : Nat → ClassId) (dI : Nat → Nat → Nat) (cI cZ : ClassId) (ad : Nat → Nat) (hj : aInj 29 ad) (x : ST) (hI : CIn x) (sz : Nat) (a1 a2 a3 : Int32) : MX l y_Win_add (Cond.code y_Win_add b_Win_add 4 (some .int) :: BW) { frames := 0, cells := 0, slots := 0, locals := 0 } (PCZ sz (dC, dI) [(cI, .int), (cZ, .boolean)] (wC cI cZ ad x) [.ref (ad 8), .int a1, .int a2, .int a3]) (UQ (some (.int (g_Win_add x a1 a2 a3).1)) (WB (dC, dI) [(cI, .int), (cZ, .boolean)] (wC cI cZ ad (g_Win_add x a1 a2 a3).2)) (aC 29 ad sz)) 0 0 (aC 29 ad sz) := by
  refine MX.ofW (cc := b_Win_add) (maxL := 4) (ret := (some .int)) (by decide) rfl ?_
  intro p e s m args below meth c s₁ B hml hex hv
  obtain ⟨hsz, rfl, hP, hK, hN⟩ := hv
  subst hsz
  have hx := B.exec
  have hb := B.bytes
  have hr := B.returns
  have hts := atoms_spec (ws := Cond.code y_Win_add b_Win_add 4 (some .int) :: BW) B.pre
  have hbw : ∀ w ∈ BW, w.before ([.ref (ad 8), .int a1, .int a2, .int a3]).toArray s = true := fun w h => hts w (List.mem_cons_of_mem _ h)
  have hown : s.vm.findClass "PlanRows$Windows" = some m.cls := findClass_of_methodNamed B.named
  have hlocks := B.notSynchronized
  have hDx : ∀ z, va_D (aC 29 ad s.heap.size) (wC cI cZ ad z) := fun z => w_D hj (wC_ad cI cZ ad z) _
  have hA : ∀ H : Heap, s.heap.size ≤ H.size → ∀ q, aC 29 ad H.size q → aC 29 ad s.heap.size q := fun H h => aC_le h
  generalize aC 29 ad s.heap.size = A at hDx hA ⊢
  have hD := hDx x
  have hS : va_S A s.heap s.heap [] := va_S.rf
  have hI0 := hI
  have hl := lv_entry ([.ref (ad 8), .int a1, .int a2, .int a3]) (n := 4) (Nat.le_of_ble_eq_true rfl)
  rw [lg_entry_eq]
  generalize (lg_sl ([.ref (ad 8), .int a1, .int a2, .int a3]) ++ List.replicate (4 - (lg_sl ([.ref (ad 8), .int a1, .int a2, .int a3])).length) Slot.unset).toArray = ls at hl ⊢
  obtain ⟨H, hH⟩ : ∃ H, H = s.heap := ⟨_, rfl⟩
  obtain ⟨locs, hlocs⟩ : ∃ locs : List Loc, locs = [] := ⟨_, rfl⟩
  have hP : va_P (dC, dI) clsA (wC cI cZ ad x) H := by rw [hH]; exact hP
  have hS : va_S A s.heap H locs := by rw [hH, hlocs]; exact hS
  rw [← hlocs]
  have hW0 : ∀ (R : Room) (Q : State → Prop) (g : JFrame), W p l e R s m ([.ref (ad 8), .int a1, .int a2, .int a3]).toArray below meth c H locs 0 0 Q g → W p l e R s m ([.ref (ad 8), .int a1, .int a2, .int a3]).toArray below meth c s.heap locs 0 0 Q g := fun R Q g h => by rw [← hH]; exact h
  refine hW0 _ _ _ ?_
  have hl : lv_has ls 4 [(0, .ref (ad 8)), (1, .int a1), (2, .int a2), (3, .int a3)] := hl
  refine lv_aload_n hx hb d_Win_add_0 rfl (lv_at hl 0 rfl) ?_
  refine va_get (D := (dC, dI)) (ci := 7) (v := .int (q_wc x)) (C := R_Win) (T := F_Win) (N := 4) hx hb hbw in_Win hown hK hP 8 rfl rfl 3 (by decide) (hbw _ w_181) (fun _ h9 => h9) rfl d_Win_add_1 ?_
  refine lv_bipush (v := 30) hx hb d_Win_add_4 (by decide) ?_
  refine lv_icmp_lt (tgt := 11) hx hb d_Win_add_6 (by decide) (fun c_1 => ?_) (fun c_1 => ?_)
  · refine lv_aload_n hx hb d_Win_add_11 rfl (lv_at hl 0 rfl) ?_
    refine va_get (D := (dC, dI)) (ci := 7) (v := .ref (ad 26)) (C := R_Win) (T := F_Win) (N := 4) hx hb hbw in_Win hown hK hP 8 rfl rfl 0 (by decide) (hbw _ w_178) (fun _ h9 => h9) rfl d_Win_add_12 ?_
    refine lv_aload_n hx hb d_Win_add_15 rfl (lv_at hl 0 rfl) ?_
    refine va_get (D := (dC, dI)) (ci := 7) (v := .int (q_wc x)) (C := R_Win) (T := F_Win) (N := 4) hx hb hbw in_Win hown hK hP 8 rfl rfl 3 (by decide) (hbw _ w_181) (fun _ h9 => h9) rfl d_Win_add_16 ?_
    refine lv_iload_n hx hb d_Win_add_19 rfl (lv_at hl 1 rfl) ?_
    refine va_iast hx hb hK hP hD hS 26 0 rfl rfl (ix_szl hI.2.2.2.2.1 c_1 rfl) d_Win_add_20 (fun H locs hP hD hS => ?_)
    rw [wC_s_wx] at hP hD
    refine lv_aload_n hx hb d_Win_add_21 rfl (lv_at hl 0 rfl) ?_
    refine va_get (D := (dC, dI)) (ci := 7) (v := .ref (ad 27)) (C := R_Win) (T := F_Win) (N := 4) hx hb hbw in_Win hown hK hP 8 rfl rfl 1 (by decide) (hbw _ w_179) (fun _ h9 => h9) rfl d_Win_add_22 ?_
    refine lv_aload_n hx hb d_Win_add_25 rfl (lv_at hl 0 rfl) ?_
    refine va_get (D := (dC, dI)) (ci := 7) (v := .int (q_wc (s_wx x (upd (q_wx x) (q_wc x).toNatClampNeg a1)))) (C := R_Win) (T := F_Win) (N := 4) hx hb hbw in_Win hown hK hP 8 rfl rfl 3 (by decide) (hbw _ w_181) (fun _ h9 => h9) rfl d_Win_add_26 ?_
    refine lv_iload_n hx hb d_Win_add_29 rfl (lv_at hl 2 rfl) ?_
    refine va_iast hx hb hK hP hD hS 27 0 rfl rfl (ix_szl hI.2.2.2.2.1 c_1 rfl) d_Win_add_30 (fun H locs hP hD hS => ?_)
    rw [wC_s_wy] at hP hD
    refine lv_aload_n hx hb d_Win_add_31 rfl (lv_at hl 0 rfl) ?_
    refine va_get (D := (dC, dI)) (ci := 7) (v := .ref (ad 28)) (C := R_Win) (T := F_Win) (N := 4) hx hb hbw in_Win hown hK hP 8 rfl rfl 2 (by decide) (hbw _ w_180) (fun _ h9 => h9) rfl d_Win_add_32 ?_
    refine lv_aload_n hx hb d_Win_add_35 rfl (lv_at hl 0 rfl) ?_
    refine va_get (D := (dC, dI)) (ci := 7) (v := .int (q_wc (s_wy (s_wx x (upd (q_wx x) (q_wc x).toNatClampNeg a1)) (upd (q_wy (s_wx x (upd (q_wx x) (q_wc x).toNatClampNeg a1))) (q_wc (s_wx x (upd (q_wx x) (q_wc x).toNatClampNeg a1))).toNatClampNeg a2)))) (C := R_Win) (T := F_Win) (N := 4) hx hb hbw in_Win hown hK hP 8 rfl rfl 3 (by decide) (hbw _ w_181) (fun _ h9 => h9) rfl d_Win_add_36 ?_
    refine lv_iload_n hx hb d_Win_add_39 rfl (lv_at hl 3 rfl) ?_
    refine va_iast hx hb hK hP hD hS 28 0 rfl rfl (ix_szl hI.2.2.2.2.1 c_1 rfl) d_Win_add_40 (fun H locs hP hD hS => ?_)
    rw [wC_s_wz] at hP hD
    refine lv_aload_n hx hb d_Win_add_41 rfl (lv_at hl 0 rfl) ?_
    refine lv_dup hx hb d_Win_add_42 rfl ?_
    refine va_get (D := (dC, dI)) (ci := 7) (v := .int (q_wc (s_wz (s_wy (s_wx x (upd (q_wx x) (q_wc x).toNatClampNeg a1)) (upd (q_wy (s_wx x (upd (q_wx x) (q_wc x).toNatClampNeg a1))) (q_wc (s_wx x (upd (q_wx x) (q_wc x).toNatClampNeg a1))).toNatClampNeg a2)) (upd (q_wz (s_wy (s_wx x (upd (q_wx x) (q_wc x).toNatClampNeg a1)) (upd (q_wy (s_wx x (upd (q_wx x) (q_wc x).toNatClampNeg a1))) (q_wc (s_wx x (upd (q_wx x) (q_wc x).toNatClampNeg a1))).toNatClampNeg a2))) (q_wc (s_wy (s_wx x (upd (q_wx x) (q_wc x).toNatClampNeg a1)) (upd (q_wy (s_wx x (upd (q_wx x) (q_wc x).toNatClampNeg a1))) (q_wc (s_wx x (upd (q_wx x) (q_wc x).toNatClampNeg a1))).toNatClampNeg a2))).toNatClampNeg a3)))) (C := R_Win) (T := F_Win) (N := 4) hx hb hbw in_Win hown hK hP 8 rfl rfl 3 (by decide) (hbw _ w_181) (fun _ h9 => h9) rfl d_Win_add_43 ?_
    refine lv_iconst (v := 1) hx hb d_Win_add_46 (by decide) ?_
    refine lv_iadd hx hb d_Win_add_47 ?_
    refine va_put (D := (dC, dI)) (ci := 7) (v := .int ((q_wc (s_wz (s_wy (s_wx x (upd (q_wx x) (q_wc x).toNatClampNeg a1)) (upd (q_wy (s_wx x (upd (q_wx x) (q_wc x).toNatClampNeg a1))) (q_wc (s_wx x (upd (q_wx x) (q_wc x).toNatClampNeg a1))).toNatClampNeg a2)) (upd (q_wz (s_wy (s_wx x (upd (q_wx x) (q_wc x).toNatClampNeg a1)) (upd (q_wy (s_wx x (upd (q_wx x) (q_wc x).toNatClampNeg a1))) (q_wc (s_wx x (upd (q_wx x) (q_wc x).toNatClampNeg a1))).toNatClampNeg a2))) (q_wc (s_wy (s_wx x (upd (q_wx x) (q_wc x).toNatClampNeg a1)) (upd (q_wy (s_wx x (upd (q_wx x) (q_wc x).toNatClampNeg a1))) (q_wc (s_wx x (upd (q_wx x) (q_wc x).toNatClampNeg a1))).toNatClampNeg a2))).toNatClampNeg a3))) + 1)) (ty := .int) (C := R_Win) (T := F_Win) (N := 4) hx hb hbw in_Win t_Win t_Win_ok n_Win hown hK hP hD hS 8 rfl rfl 3 (by decide) (hbw _ w_181) (fun _ h9 => h9) rfl (by decide +kernel) rfl rfl (Nat.le_of_ble_eq_true rfl) d_Win_add_48 (fun H locs hP hD hS => ?_)
    rw [wC_s_wc] at hP hD
    refine lv_aload_n hx hb d_Win_add_51 rfl (lv_at hl 0 rfl) ?_
    refine va_get (D := (dC, dI)) (ci := 7) (v := .int (q_wc (s_wc (s_wz (s_wy (s_wx x (upd (q_wx x) (q_wc x).toNatClampNeg a1)) (upd (q_wy (s_wx x (upd (q_wx x) (q_wc x).toNatClampNeg a1))) (q_wc (s_wx x (upd (q_wx x) (q_wc x).toNatClampNeg a1))).toNatClampNeg a2)) (upd (q_wz (s_wy (s_wx x (upd (q_wx x) (q_wc x).toNatClampNeg a1)) (upd (q_wy (s_wx x (upd (q_wx x) (q_wc x).toNatClampNeg a1))) (q_wc (s_wx x (upd (q_wx x) (q_wc x).toNatClampNeg a1))).toNatClampNeg a2))) (q_wc (s_wy (s_wx x (upd (q_wx x) (q_wc x).toNatClampNeg a1)) (upd (q_wy (s_wx x (upd (q_wx x) (q_wc x).toNatClampNeg a1))) (q_wc (s_wx x (upd (q_wx x) (q_wc x).toNatClampNeg a1))).toNatClampNeg a2))).toNatClampNeg a3)) ((q_wc (s_wz (s_wy (s_wx x (upd (q_wx x) (q_wc x).toNatClampNeg a1)) (upd (q_wy (s_wx x (upd (q_wx x) (q_wc x).toNatClampNeg a1))) (q_wc (s_wx x (upd (q_wx x) (q_wc x).toNatClampNeg a1))).toNatClampNeg a2)) (upd (q_wz (s_wy (s_wx x (upd (q_wx x) (q_wc x).toNatClampNeg a1)) (upd (q_wy (s_wx x (upd (q_wx x) (q_wc x).toNatClampNeg a1))) (q_wc (s_wx x (upd (q_wx x) (q_wc x).toNatClampNeg a1))).toNatClampNeg a2))) (q_wc (s_wy (s_wx x (upd (q_wx x) (q_wc x).toNatClampNeg a1)) (upd (q_wy (s_wx x (upd (q_wx x) (q_wc x).toNatClampNeg a1))) (q_wc (s_wx x (upd (q_wx x) (q_wc x).toNatClampNeg a1))).toNatClampNeg a2))).toNatClampNeg a3))) + 1)))) (C := R_Win) (T := F_Win) (N := 4) hx hb hbw in_Win hown hK hP 8 rfl rfl 3 (by decide) (hbw _ w_181) (fun _ h9 => h9) rfl d_Win_add_52 ?_
    refine lv_iconst (v := 1) hx hb d_Win_add_55 (by decide) ?_
    refine lv_isub hx hb d_Win_add_56 ?_
    have hg : g_Win_add x a1 a2 a3 = ((q_wc (s_wc (s_wz (s_wy (s_wx x (upd (q_wx x) (q_wc x).toNatClampNeg a1)) (upd (q_wy (s_wx x (upd (q_wx x) (q_wc x).toNatClampNeg a1))) (q_wc (s_wx x (upd (q_wx x) (q_wc x).toNatClampNeg a1))).toNatClampNeg a2)) (upd (q_wz (s_wy (s_wx x (upd (q_wx x) (q_wc x).toNatClampNeg a1)) (upd (q_wy (s_wx x (upd (q_wx x) (q_wc x).toNatClampNeg a1))) (q_wc (s_wx x (upd (q_wx x) (q_wc x).toNatClampNeg a1))).toNatClampNeg a2))) (q_wc (s_wy (s_wx x (upd (q_wx x) (q_wc x).toNatClampNeg a1)) (upd (q_wy (s_wx x (upd (q_wx x) (q_wc x).toNatClampNeg a1))) (q_wc (s_wx x (upd (q_wx x) (q_wc x).toNatClampNeg a1))).toNatClampNeg a2))).toNatClampNeg a3)) ((q_wc (s_wz (s_wy (s_wx x (upd (q_wx x) (q_wc x).toNatClampNeg a1)) (upd (q_wy (s_wx x (upd (q_wx x) (q_wc x).toNatClampNeg a1))) (q_wc (s_wx x (upd (q_wx x) (q_wc x).toNatClampNeg a1))).toNatClampNeg a2)) (upd (q_wz (s_wy (s_wx x (upd (q_wx x) (q_wc x).toNatClampNeg a1)) (upd (q_wy (s_wx x (upd (q_wx x) (q_wc x).toNatClampNeg a1))) (q_wc (s_wx x (upd (q_wx x) (q_wc x).toNatClampNeg a1))).toNatClampNeg a2))) (q_wc (s_wy (s_wx x (upd (q_wx x) (q_wc x).toNatClampNeg a1)) (upd (q_wy (s_wx x (upd (q_wx x) (q_wc x).toNatClampNeg a1))) (q_wc (s_wx x (upd (q_wx x) (q_wc x).toNatClampNeg a1))).toNatClampNeg a2))).toNatClampNeg a3))) + 1))) - 1, s_wc (s_wz (s_wy (s_wx x (upd (q_wx x) (q_wc x).toNatClampNeg a1)) (upd (q_wy (s_wx x (upd (q_wx x) (q_wc x).toNatClampNeg a1))) (q_wc (s_wx x (upd (q_wx x) (q_wc x).toNatClampNeg a1))).toNatClampNeg a2)) (upd (q_wz (s_wy (s_wx x (upd (q_wx x) (q_wc x).toNatClampNeg a1)) (upd (q_wy (s_wx x (upd (q_wx x) (q_wc x).toNatClampNeg a1))) (q_wc (s_wx x (upd (q_wx x) (q_wc x).toNatClampNeg a1))).toNatClampNeg a2))) (q_wc (s_wy (s_wx x (upd (q_wx x) (q_wc x).toNatClampNeg a1)) (upd (q_wy (s_wx x (upd (q_wx x) (q_wc x).toNatClampNeg a1))) (q_wc (s_wx x (upd (q_wx x) (q_wc x).toNatClampNeg a1))).toNatClampNeg a2))).toNatClampNeg a3)) ((q_wc (s_wz (s_wy (s_wx x (upd (q_wx x) (q_wc x).toNatClampNeg a1)) (upd (q_wy (s_wx x (upd (q_wx x) (q_wc x).toNatClampNeg a1))) (q_wc (s_wx x (upd (q_wx x) (q_wc x).toNatClampNeg a1))).toNatClampNeg a2)) (upd (q_wz (s_wy (s_wx x (upd (q_wx x) (q_wc x).toNatClampNeg a1)) (upd (q_wy (s_wx x (upd (q_wx x) (q_wc x).toNatClampNeg a1))) (q_wc (s_wx x (upd (q_wx x) (q_wc x).toNatClampNeg a1))).toNatClampNeg a2))) (q_wc (s_wy (s_wx x (upd (q_wx x) (q_wc x).toNatClampNeg a1)) (upd (q_wy (s_wx x (upd (q_wx x) (q_wc x).toNatClampNeg a1))) (q_wc (s_wx x (upd (q_wx x) (q_wc x).toNatClampNeg a1))).toNatClampNeg a2))).toNatClampNeg a3))) + 1)) := by unfold g_Win_add; rw [if_pos c_1]
    exact W.toX (W.iret (v := (q_wc (s_wc (s_wz (s_wy (s_wx x (upd (q_wx x) (q_wc x).toNatClampNeg a1)) (upd (q_wy (s_wx x (upd (q_wx x) (q_wc x).toNatClampNeg a1))) (q_wc (s_wx x (upd (q_wx x) (q_wc x).toNatClampNeg a1))).toNatClampNeg a2)) (upd (q_wz (s_wy (s_wx x (upd (q_wx x) (q_wc x).toNatClampNeg a1)) (upd (q_wy (s_wx x (upd (q_wx x) (q_wc x).toNatClampNeg a1))) (q_wc (s_wx x (upd (q_wx x) (q_wc x).toNatClampNeg a1))).toNatClampNeg a2))) (q_wc (s_wy (s_wx x (upd (q_wx x) (q_wc x).toNatClampNeg a1)) (upd (q_wy (s_wx x (upd (q_wx x) (q_wc x).toNatClampNeg a1))) (q_wc (s_wx x (upd (q_wx x) (q_wc x).toNatClampNeg a1))).toNatClampNeg a2))).toNatClampNeg a3)) ((q_wc (s_wz (s_wy (s_wx x (upd (q_wx x) (q_wc x).toNatClampNeg a1)) (upd (q_wy (s_wx x (upd (q_wx x) (q_wc x).toNatClampNeg a1))) (q_wc (s_wx x (upd (q_wx x) (q_wc x).toNatClampNeg a1))).toNatClampNeg a2)) (upd (q_wz (s_wy (s_wx x (upd (q_wx x) (q_wc x).toNatClampNeg a1)) (upd (q_wy (s_wx x (upd (q_wx x) (q_wc x).toNatClampNeg a1))) (q_wc (s_wx x (upd (q_wx x) (q_wc x).toNatClampNeg a1))).toNatClampNeg a2))) (q_wc (s_wy (s_wx x (upd (q_wx x) (q_wc x).toNatClampNeg a1)) (upd (q_wy (s_wx x (upd (q_wx x) (q_wc x).toNatClampNeg a1))) (q_wc (s_wx x (upd (q_wx x) (q_wc x).toNatClampNeg a1))).toNatClampNeg a2))).toNatClampNeg a3))) + 1))) - 1) hx hb hr (fun t ht hW => ⟨by rw [hg], ⟨by rw [ht, hg]; exact hP, va_K.moved hW.alike hK, hN.warm hW⟩, hS.F ht⟩) hS.2.2 d_Win_add_57)
  · refine lv_iconst (v := (-1)) hx hb d_Win_add_9 (by decide) ?_
    have hg : g_Win_add x a1 a2 a3 = ((-1), x) := by unfold g_Win_add; rw [if_neg c_1]
    exact W.toX (W.iret (v := (-1)) hx hb hr (fun t ht hW => ⟨by rw [hg], ⟨by rw [ht, hg]; exact hP, va_K.moved hW.alike hK, hN.warm hW⟩, hS.F ht⟩) hS.2.2 d_Win_add_10)
def g_Rooms_setHazards (x : ST) (a1 a2 : Int32) : Int32 × ST := if (f_Rooms_has x a1) = 0 then (0, x) else (0, s_hz x (upd (q_hz x) a1.toNatClampNeg a2))
set_option maxHeartbeats 4000000 in
set_option maxRecDepth 100000 in
theorem u_Rooms_setHazards (l : Launch) (dC : Nat → ClassId) (dI : Nat → Nat → Nat) (cI cZ : ClassId) (ad : Nat → Nat) (hj : aInj 29 ad) (x : ST) (hI : CIn x) (sz : Nat) (a1 a2 : Int32) : MX l y_Rooms_setHazards (Cond.code y_Rooms_setHazards b_Rooms_setHazards 3 none :: BW) { frames := 1, cells := 0, slots := 0, locals := 21 } (PCZ sz (dC, dI) [(cI, .int), (cZ, .boolean)] (wC cI cZ ad x) [.ref (ad 1), .int a1, .int a2]) (UQ none (WB (dC, dI) [(cI, .int), (cZ, .boolean)] (wC cI cZ ad (g_Rooms_setHazards x a1 a2).2)) (aC 29 ad sz)) 0 0 (aC 29 ad sz) := by
  refine MX.ofW (cc := b_Rooms_setHazards) (maxL := 3) (ret := none) (by decide) rfl ?_
  intro p e s m args below meth c s₁ B hml hex hv
  obtain ⟨hsz, rfl, hP, hK, hN⟩ := hv
  subst hsz
  have hx := B.exec
  have hb := B.bytes
  have hr := B.returns
  have hts := atoms_spec (ws := Cond.code y_Rooms_setHazards b_Rooms_setHazards 3 none :: BW) B.pre
  have hbw : ∀ w ∈ BW, w.before ([.ref (ad 1), .int a1, .int a2]).toArray s = true := fun w h => hts w (List.mem_cons_of_mem _ h)
  have hown : s.vm.findClass "PlanRows$Rooms" = some m.cls := findClass_of_methodNamed B.named
  have hlocks := B.notSynchronized
  have hDx : ∀ z, va_D (aC 29 ad s.heap.size) (wC cI cZ ad z) := fun z => w_D hj (wC_ad cI cZ ad z) _
  have hA : ∀ H : Heap, s.heap.size ≤ H.size → ∀ q, aC 29 ad H.size q → aC 29 ad s.heap.size q := fun H h => aC_le h
  generalize aC 29 ad s.heap.size = A at hDx hA ⊢
  have hD := hDx x
  have hS : va_S A s.heap s.heap [] := va_S.rf
  have hI0 := hI
  have hl := lv_entry ([.ref (ad 1), .int a1, .int a2]) (n := 3) (Nat.le_of_ble_eq_true rfl)
  rw [lg_entry_eq]
  generalize (lg_sl ([.ref (ad 1), .int a1, .int a2]) ++ List.replicate (3 - (lg_sl ([.ref (ad 1), .int a1, .int a2])).length) Slot.unset).toArray = ls at hl ⊢
  obtain ⟨H, hH⟩ : ∃ H, H = s.heap := ⟨_, rfl⟩
  obtain ⟨locs, hlocs⟩ : ∃ locs : List Loc, locs = [] := ⟨_, rfl⟩
  have hP : va_P (dC, dI) clsA (wC cI cZ ad x) H := by rw [hH]; exact hP
  have hS : va_S A s.heap H locs := by rw [hH, hlocs]; exact hS
  rw [← hlocs]
  have hW0 : ∀ (R : Room) (Q : State → Prop) (g : JFrame), W p l e R s m ([.ref (ad 1), .int a1, .int a2]).toArray below meth c H locs 0 0 Q g → W p l e R s m ([.ref (ad 1), .int a1, .int a2]).toArray below meth c s.heap locs 0 0 Q g := fun R Q g h => by rw [← hH]; exact h
  refine hW0 _ _ _ ?_
  have hl : lv_has ls 3 [(0, .ref (ad 1)), (1, .int a1), (2, .int a2)] := hl
  refine lv_aload_n hx hb d_Rooms_setHazards_0 rfl (lv_at hl 0 rfl) ?_
  refine lv_iload_n hx hb d_Rooms_setHazards_1 rfl (lv_at hl 1 rfl) ?_
  refine xv (As := [.int a1]) (rest := []) (C := "PlanRows$Rooms") ⟨hx, hb, hml, hown, hts⟩ (c_Rooms_has l dC dI cI cZ ad x hI a1) (cw_Rooms_25 hts rfl rfl ⟨Nat.le_of_ble_eq_true rfl, Nat.le_of_ble_eq_true rfl⟩) hK hN hP 1 rfl rfl rfl rfl hl.1 rfl (Nat.le_of_ble_eq_true rfl) d_Rooms_setHazards_2 ⟨Nat.zero_le _, Nat.zero_le _⟩ ?_
  refine lv_if_eq (tgt := 15) hx hb d_Rooms_setHazards_5 (by decide) (fun c_1 => ?_) (fun c_1 => ?_)
  · have hg : g_Rooms_setHazards x a1 a2 = (0, x) := by unfold g_Rooms_setHazards; rw [if_pos c_1]
    exact W.toX (W.vret hx hb hr (fun t ht hW => ⟨rfl, ⟨by rw [ht, hg]; exact hP, va_K.moved hW.alike hK, hN.warm hW⟩, hS.F ht⟩) hS.2.2 d_Rooms_setHazards_15)
  · refine lv_aload_n hx hb d_Rooms_setHazards_8 rfl (lv_at hl 0 rfl) ?_
    refine va_get (D := (dC, dI)) (ci := 4) (v := .ref (ad 11)) (C := R_Rooms) (T := F_Rooms) (N := 4) hx hb hbw in_Rooms hown hK hP 1 rfl rfl 2 (by decide) (hbw _ w_36) (fun _ h9 => h9) rfl d_Rooms_setHazards_9 ?_
    refine lv_iload_n hx hb d_Rooms_setHazards_12 rfl (lv_at hl 1 rfl) ?_
    refine lv_iload_n hx hb d_Rooms_setHazards_13 rfl (lv_at hl 2 rfl) ?_
    refine va_iast hx hb hK hP hD hS 11 0 rfl rfl (ix_rooms hI c_1) d_Rooms_setHazards_14 (fun H locs hP hD hS => ?_)
    rw [wC_s_hz] at hP hD
    have hg : g_Rooms_setHazards x a1 a2 = (0, s_hz x (upd (q_hz x) a1.toNatClampNeg a2)) := by unfold g_Rooms_setHazards; rw [if_neg c_1]
    exact W.toX (W.vret hx hb hr (fun t ht hW => ⟨rfl, ⟨by rw [ht, hg]; exact hP, va_K.moved hW.alike hK, hN.warm hW⟩, hS.F ht⟩) hS.2.2 d_Rooms_setHazards_15)
def g_Keys_put (x : ST) (a1 a2 : Int32) : Int32 × ST := if (f_Keys_has x a1) = 0 then (0, x) else (if ((q_kh x) a1.toNatClampNeg) = a2 then (0, x) else (if a2 = 0 then (0, s_kn (s_kh x (upd (q_kh x) a1.toNatClampNeg (vp_nar .boolean a2))) ((q_kn (s_kh x (upd (q_kh x) a1.toNatClampNeg (vp_nar .boolean a2)))) + (-1))) else (0, s_kn (s_kh x (upd (q_kh x) a1.toNatClampNeg (vp_nar .boolean a2))) ((q_kn (s_kh x (upd (q_kh x) a1.toNatClampNeg (vp_nar .boolean a2)))) + 1))))
set_option maxHeartbeats 4000000 in
set_option maxRecDepth 100000 in
theorem u_Keys_put (l : Launch) (dC : Nat → ClassId) (dI : Nat → Nat → Nat) (cI cZ : ClassId) (ad : Nat → Nat) (hj : aInj 29 ad) (x : ST) (hI : CIn x) (sz : Nat) (a1 a2 : Int32) : MX l y_Keys_put (Cond.code y_Keys_put b_Keys_put 3 none :: BW) { frames := 1, cells := 0, slots := 0, locals := 21 } (PCZ sz (dC, dI) [(cI, .int), (cZ, .boolean)] (wC cI cZ ad x) [.ref (ad 3), .int a1, .int a2]) (UQ none (WB (dC, dI) [(cI, .int), (cZ, .boolean)] (wC cI cZ ad (g_Keys_put x a1 a2).2)) (aC 29 ad sz)) 0 0 (aC 29 ad sz) := by
  refine MX.ofW (cc := b_Keys_put) (maxL := 3) (ret := none) (by decide) rfl ?_
  intro p e s m args below meth c s₁ B hml hex hv
  obtain ⟨hsz, rfl, hP, hK, hN⟩ := hv
  subst hsz
  have hx := B.exec
  have hb := B.bytes
  have hr := B.returns
  have hts := atoms_spec (ws := Cond.code y_Keys_put b_Keys_put 3 none :: BW) B.pre
  have hbw : ∀ w ∈ BW, w.before ([.ref (ad 3), .int a1, .int a2]).toArray s = true := fun w h => hts w (List.mem_cons_of_mem _ h)
  have hown : s.vm.findClass "PlanRows$KeyRing" = some m.cls := findClass_of_methodNamed B.named
  have hlocks := B.notSynchronized
  have hDx : ∀ z, va_D (aC 29 ad s.heap.size) (wC cI cZ ad z) := fun z => w_D hj (wC_ad cI cZ ad z) _
  have hA : ∀ H : Heap, s.heap.size ≤ H.size → ∀ q, aC 29 ad H.size q → aC 29 ad s.heap.size q := fun H h => aC_le h
  generalize aC 29 ad s.heap.size = A at hDx hA ⊢
  have hD := hDx x
  have hS : va_S A s.heap s.heap [] := va_S.rf
  have hI0 := hI
  have hl := lv_entry ([.ref (ad 3), .int a1, .int a2]) (n := 3) (Nat.le_of_ble_eq_true rfl)
  rw [lg_entry_eq]
  generalize (lg_sl ([.ref (ad 3), .int a1, .int a2]) ++ List.replicate (3 - (lg_sl ([.ref (ad 3), .int a1, .int a2])).length) Slot.unset).toArray = ls at hl ⊢
  obtain ⟨H, hH⟩ : ∃ H, H = s.heap := ⟨_, rfl⟩
  obtain ⟨locs, hlocs⟩ : ∃ locs : List Loc, locs = [] := ⟨_, rfl⟩
  have hP : va_P (dC, dI) clsA (wC cI cZ ad x) H := by rw [hH]; exact hP
  have hS : va_S A s.heap H locs := by rw [hH, hlocs]; exact hS
  rw [← hlocs]
  have hW0 : ∀ (R : Room) (Q : State → Prop) (g : JFrame), W p l e R s m ([.ref (ad 3), .int a1, .int a2]).toArray below meth c H locs 0 0 Q g → W p l e R s m ([.ref (ad 3), .int a1, .int a2]).toArray below meth c s.heap locs 0 0 Q g := fun R Q g h => by rw [← hH]; exact h
  refine hW0 _ _ _ ?_
  have hl : lv_has ls 3 [(0, .ref (ad 3)), (1, .int a1), (2, .int a2)] := hl
  refine lv_aload_n hx hb d_Keys_put_0 rfl (lv_at hl 0 rfl) ?_
  refine lv_iload_n hx hb d_Keys_put_1 rfl (lv_at hl 1 rfl) ?_
  refine xv (As := [.int a1]) (rest := []) (C := "PlanRows$KeyRing") ⟨hx, hb, hml, hown, hts⟩ (c_Keys_has l dC dI cI cZ ad x hI a1) (cw_Keys_15 hts rfl rfl ⟨Nat.le_of_ble_eq_true rfl, Nat.le_of_ble_eq_true rfl⟩) hK hN hP 3 rfl rfl rfl rfl hl.1 rfl (Nat.le_of_ble_eq_true rfl) d_Keys_put_2 ⟨Nat.zero_le _, Nat.zero_le _⟩ ?_
  refine lv_if_eq (tgt := 43) hx hb d_Keys_put_5 (by decide) (fun c_1 => ?_) (fun c_1 => ?_)
  · have hg : g_Keys_put x a1 a2 = (0, x) := by unfold g_Keys_put; rw [if_pos c_1]
    exact W.toX (W.vret hx hb hr (fun t ht hW => ⟨rfl, ⟨by rw [ht, hg]; exact hP, va_K.moved hW.alike hK, hN.warm hW⟩, hS.F ht⟩) hS.2.2 d_Keys_put_43)
  · refine lv_aload_n hx hb d_Keys_put_8 rfl (lv_at hl 0 rfl) ?_
    refine va_get (D := (dC, dI)) (ci := 3) (v := .ref (ad 16)) (C := R_Keys) (T := F_Keys) (N := 2) hx hb hbw in_Keys hown hK hP 3 rfl rfl 0 (by decide) (hbw _ w_80) (fun _ h9 => h9) rfl d_Keys_put_9 ?_
    refine lv_iload_n hx hb d_Keys_put_12 rfl (lv_at hl 1 rfl) ?_
    refine va_zald hx hb hK hP 16 1 rfl rfl (ix_keys c_1) d_Keys_put_13 ?_
    refine lv_iload_n hx hb d_Keys_put_14 rfl (lv_at hl 2 rfl) ?_
    refine lv_icmp_eq (tgt := 43) hx hb d_Keys_put_15 (by decide) (fun c_2 => ?_) (fun c_2 => ?_)
    · have hg : g_Keys_put x a1 a2 = (0, x) := by unfold g_Keys_put; rw [if_neg c_1, if_pos c_2]
      exact W.toX (W.vret hx hb hr (fun t ht hW => ⟨rfl, ⟨by rw [ht, hg]; exact hP, va_K.moved hW.alike hK, hN.warm hW⟩, hS.F ht⟩) hS.2.2 d_Keys_put_43)
    · refine lv_aload_n hx hb d_Keys_put_18 rfl (lv_at hl 0 rfl) ?_
      refine va_get (D := (dC, dI)) (ci := 3) (v := .ref (ad 16)) (C := R_Keys) (T := F_Keys) (N := 2) hx hb hbw in_Keys hown hK hP 3 rfl rfl 0 (by decide) (hbw _ w_80) (fun _ h9 => h9) rfl d_Keys_put_19 ?_
      refine lv_iload_n hx hb d_Keys_put_22 rfl (lv_at hl 1 rfl) ?_
      refine lv_iload_n hx hb d_Keys_put_23 rfl (lv_at hl 2 rfl) ?_
      refine va_zast hx hb hK hP hD hS 16 1 rfl rfl (ix_keys c_1) d_Keys_put_24 (fun H locs hP hD hS => ?_)
      rw [wC_s_kh] at hP hD
      refine lv_aload_n hx hb d_Keys_put_25 rfl (lv_at hl 0 rfl) ?_
      refine lv_dup hx hb d_Keys_put_26 rfl ?_
      refine va_get (D := (dC, dI)) (ci := 3) (v := .int (q_kn (s_kh x (upd (q_kh x) a1.toNatClampNeg (vp_nar .boolean a2))))) (C := R_Keys) (T := F_Keys) (N := 2) hx hb hbw in_Keys hown hK hP 3 rfl rfl 1 (by decide) (hbw _ w_81) (fun _ h9 => h9) rfl d_Keys_put_27 ?_
      refine lv_iload_n hx hb d_Keys_put_30 rfl (lv_at hl 2 rfl) ?_
      refine lv_if_eq (tgt := 38) hx hb d_Keys_put_31 (by decide) (fun c_3 => ?_) (fun c_3 => ?_)
      · refine lv_iconst (v := (-1)) hx hb d_Keys_put_38 (by decide) ?_
        refine lv_iadd hx hb d_Keys_put_39 ?_
        refine va_put (D := (dC, dI)) (ci := 3) (v := .int ((q_kn (s_kh x (upd (q_kh x) a1.toNatClampNeg (vp_nar .boolean a2)))) + (-1))) (ty := .int) (C := R_Keys) (T := F_Keys) (N := 2) hx hb hbw in_Keys t_Keys t_Keys_ok n_Keys hown hK hP hD hS 3 rfl rfl 1 (by decide) (hbw _ w_81) (fun _ h9 => h9) rfl (by decide +kernel) rfl rfl (Nat.le_of_ble_eq_true rfl) d_Keys_put_40 (fun H locs hP hD hS => ?_)
        rw [wC_s_kn] at hP hD
        have hg : g_Keys_put x a1 a2 = (0, s_kn (s_kh x (upd (q_kh x) a1.toNatClampNeg (vp_nar .boolean a2))) ((q_kn (s_kh x (upd (q_kh x) a1.toNatClampNeg (vp_nar .boolean a2)))) + (-1))) := by unfold g_Keys_put; rw [if_neg c_1, if_neg c_2, if_pos c_3]
        exact W.toX (W.vret hx hb hr (fun t ht hW => ⟨rfl, ⟨by rw [ht, hg]; exact hP, va_K.moved hW.alike hK, hN.warm hW⟩, hS.F ht⟩) hS.2.2 d_Keys_put_43)
      · refine lv_iconst (v := 1) hx hb d_Keys_put_34 (by decide) ?_
        refine lv_goto (tgt := 39) hx hb d_Keys_put_35 (by decide) ?_
        refine lv_iadd hx hb d_Keys_put_39 ?_
        refine va_put (D := (dC, dI)) (ci := 3) (v := .int ((q_kn (s_kh x (upd (q_kh x) a1.toNatClampNeg (vp_nar .boolean a2)))) + 1)) (ty := .int) (C := R_Keys) (T := F_Keys) (N := 2) hx hb hbw in_Keys t_Keys t_Keys_ok n_Keys hown hK hP hD hS 3 rfl rfl 1 (by decide) (hbw _ w_81) (fun _ h9 => h9) rfl (by decide +kernel) rfl rfl (Nat.le_of_ble_eq_true rfl) d_Keys_put_40 (fun H locs hP hD hS => ?_)
        rw [wC_s_kn] at hP hD
        have hg : g_Keys_put x a1 a2 = (0, s_kn (s_kh x (upd (q_kh x) a1.toNatClampNeg (vp_nar .boolean a2))) ((q_kn (s_kh x (upd (q_kh x) a1.toNatClampNeg (vp_nar .boolean a2)))) + 1)) := by unfold g_Keys_put; rw [if_neg c_1, if_neg c_2, if_neg c_3]
        exact W.toX (W.vret hx hb hr (fun t ht hW => ⟨rfl, ⟨by rw [ht, hg]; exact hP, va_K.moved hW.alike hK, hN.warm hW⟩, hS.F ht⟩) hS.2.2 d_Keys_put_43)
def g_Route_restart (x : ST) (a1 a2 : Int32) : Int32 × ST := (0, s_re (s_rs (s_rl x 0) a2) a1)
set_option maxHeartbeats 4000000 in
set_option maxRecDepth 100000 in
theorem u_Route_restart (l : Launch) (dC : Nat → ClassId) (dI : Nat → Nat → Nat) (cI cZ : ClassId) (ad : Nat → Nat) (hj : aInj 29 ad) (x : ST) (hI : CIn x) (sz : Nat) (a1 a2 : Int32) : MX l y_Route_restart (Cond.code y_Route_restart b_Route_restart 3 none :: BW) { frames := 0, cells := 0, slots := 0, locals := 0 } (PCZ sz (dC, dI) [(cI, .int), (cZ, .boolean)] (wC cI cZ ad x) [.ref (ad 5), .int a1, .int a2]) (UQ none (WB (dC, dI) [(cI, .int), (cZ, .boolean)] (wC cI cZ ad (g_Route_restart x a1 a2).2)) (aC 29 ad sz)) 0 0 (aC 29 ad sz) := by
  refine MX.ofW (cc := b_Route_restart) (maxL := 3) (ret := none) (by decide) rfl ?_
  intro p e s m args below meth c s₁ B hml hex hv
  obtain ⟨hsz, rfl, hP, hK, hN⟩ := hv
  subst hsz
  have hx := B.exec
  have hb := B.bytes
  have hr := B.returns
  have hts := atoms_spec (ws := Cond.code y_Route_restart b_Route_restart 3 none :: BW) B.pre
  have hbw : ∀ w ∈ BW, w.before ([.ref (ad 5), .int a1, .int a2]).toArray s = true := fun w h => hts w (List.mem_cons_of_mem _ h)
  have hown : s.vm.findClass "PlanRows$Route" = some m.cls := findClass_of_methodNamed B.named
  have hlocks := B.notSynchronized
  have hDx : ∀ z, va_D (aC 29 ad s.heap.size) (wC cI cZ ad z) := fun z => w_D hj (wC_ad cI cZ ad z) _
  have hA : ∀ H : Heap, s.heap.size ≤ H.size → ∀ q, aC 29 ad H.size q → aC 29 ad s.heap.size q := fun H h => aC_le h
  generalize aC 29 ad s.heap.size = A at hDx hA ⊢
  have hD := hDx x
  have hS : va_S A s.heap s.heap [] := va_S.rf
  have hI0 := hI
  have hl := lv_entry ([.ref (ad 5), .int a1, .int a2]) (n := 3) (Nat.le_of_ble_eq_true rfl)
  rw [lg_entry_eq]
  generalize (lg_sl ([.ref (ad 5), .int a1, .int a2]) ++ List.replicate (3 - (lg_sl ([.ref (ad 5), .int a1, .int a2])).length) Slot.unset).toArray = ls at hl ⊢
  obtain ⟨H, hH⟩ : ∃ H, H = s.heap := ⟨_, rfl⟩
  obtain ⟨locs, hlocs⟩ : ∃ locs : List Loc, locs = [] := ⟨_, rfl⟩
  have hP : va_P (dC, dI) clsA (wC cI cZ ad x) H := by rw [hH]; exact hP
  have hS : va_S A s.heap H locs := by rw [hH, hlocs]; exact hS
  rw [← hlocs]
  have hW0 : ∀ (R : Room) (Q : State → Prop) (g : JFrame), W p l e R s m ([.ref (ad 5), .int a1, .int a2]).toArray below meth c H locs 0 0 Q g → W p l e R s m ([.ref (ad 5), .int a1, .int a2]).toArray below meth c s.heap locs 0 0 Q g := fun R Q g h => by rw [← hH]; exact h
  refine hW0 _ _ _ ?_
  have hl : lv_has ls 3 [(0, .ref (ad 5)), (1, .int a1), (2, .int a2)] := hl
  refine lv_aload_n hx hb d_Route_restart_0 rfl (lv_at hl 0 rfl) ?_
  refine lv_iconst (v := 0) hx hb d_Route_restart_1 (by decide) ?_
  refine va_put (D := (dC, dI)) (ci := 5) (v := .int 0) (ty := .int) (C := R_Route) (T := F_Route) (N := 4) hx hb hbw in_Route t_Route t_Route_ok n_Route hown hK hP hD hS 5 rfl rfl 1 (by decide) (hbw _ w_115) (fun _ h9 => h9) rfl (by decide +kernel) rfl rfl (Nat.le_of_ble_eq_true rfl) d_Route_restart_2 (fun H locs hP hD hS => ?_)
  rw [wC_s_rl] at hP hD
  refine lv_aload_n hx hb d_Route_restart_5 rfl (lv_at hl 0 rfl) ?_
  refine lv_iload_n hx hb d_Route_restart_6 rfl (lv_at hl 2 rfl) ?_
  refine va_put (D := (dC, dI)) (ci := 5) (v := .int a2) (ty := .int) (C := R_Route) (T := F_Route) (N := 4) hx hb hbw in_Route t_Route t_Route_ok n_Route hown hK hP hD hS 5 rfl rfl 2 (by decide) (hbw _ w_117) (fun _ h9 => h9) rfl (by decide +kernel) rfl rfl (Nat.le_of_ble_eq_true rfl) d_Route_restart_7 (fun H locs hP hD hS => ?_)
  rw [wC_s_rs] at hP hD
  refine lv_aload_n hx hb d_Route_restart_10 rfl (lv_at hl 0 rfl) ?_
  refine lv_iload_n hx hb d_Route_restart_11 rfl (lv_at hl 1 rfl) ?_
  refine va_put (D := (dC, dI)) (ci := 5) (v := .int a1) (ty := .int) (C := R_Route) (T := F_Route) (N := 4) hx hb hbw in_Route t_Route t_Route_ok n_Route hown hK hP hD hS 5 rfl rfl 3 (by decide) (hbw _ w_119) (fun _ h9 => h9) rfl (by decide +kernel) rfl rfl (Nat.le_of_ble_eq_true rfl) d_Route_restart_12 (fun H locs hP hD hS => ?_)
  rw [wC_s_re] at hP hD
  have hg : g_Route_restart x a1 a2 = (0, s_re (s_rs (s_rl x 0) a2) a1) := rfl
  exact W.toX (W.vret hx hb hr (fun t ht hW => ⟨rfl, ⟨by rw [ht, hg]; exact hP, va_K.moved hW.alike hK, hN.warm hW⟩, hS.F ht⟩) hS.2.2 d_Route_restart_15)
theorem ix_szr {n N : Int32} {M : Nat} (h : 0 ≤ n.toInt ∧ n.toInt ≤ M) (hl : ¬ N ≤ n) (hN : N.toInt = M) : vp_in n M := vp_in_iff.mpr (by
  rw [Int32.le_iff_toInt_le] at hl
  omega)
def g_Route_addBefore (x : ST) (a1 : Int32) : Int32 × ST := if 40 ≤ (q_rl x) then (0, x) else (0, s_rl (s_rd x (upd (q_rd x) (q_rl x).toNatClampNeg a1)) ((q_rl (s_rd x (upd (q_rd x) (q_rl x).toNatClampNeg a1))) + 1))
set_option maxHeartbeats 4000000 in
set_option maxRecDepth 100000 in
theorem u_Route_addBefore (l : Launch) (dC : Nat → ClassId) (dI : Nat → Nat → Nat) (cI cZ : ClassId) (ad : Nat → Nat) (hj : aInj 29 ad) (x : ST) (hI : CIn x) (sz : Nat) (a1 : Int32) : MX l y_Route_addBefore (Cond.code y_Route_addBefore b_Route_addBefore 2 none :: BW) { frames := 0, cells := 0, slots := 0, locals := 0 } (PCZ sz (dC, dI) [(cI, .int), (cZ, .boolean)] (wC cI cZ ad x) [.ref (ad 5), .int a1]) (UQ none (WB (dC, dI) [(cI, .int), (cZ, .boolean)] (wC cI cZ ad (g_Route_addBefore x a1).2)) (aC 29 ad sz)) 0 0 (aC 29 ad sz) := by
  refine MX.ofW (cc := b_Route_addBefore) (maxL := 2) (ret := none) (by decide) rfl ?_
  intro p e s m args below meth c s₁ B hml hex hv
  obtain ⟨hsz, rfl, hP, hK, hN⟩ := hv
  subst hsz
  have hx := B.exec
  have hb := B.bytes
  have hr := B.returns
  have hts := atoms_spec (ws := Cond.code y_Route_addBefore b_Route_addBefore 2 none :: BW) B.pre
  have hbw : ∀ w ∈ BW, w.before ([.ref (ad 5), .int a1]).toArray s = true := fun w h => hts w (List.mem_cons_of_mem _ h)
  have hown : s.vm.findClass "PlanRows$Route" = some m.cls := findClass_of_methodNamed B.named
  have hlocks := B.notSynchronized
  have hDx : ∀ z, va_D (aC 29 ad s.heap.size) (wC cI cZ ad z) := fun z => w_D hj (wC_ad cI cZ ad z) _
  have hA : ∀ H : Heap, s.heap.size ≤ H.size → ∀ q, aC 29 ad H.size q → aC 29 ad s.heap.size q := fun H h => aC_le h
  generalize aC 29 ad s.heap.size = A at hDx hA ⊢
  have hD := hDx x
  have hS : va_S A s.heap s.heap [] := va_S.rf
  have hI0 := hI
  have hl := lv_entry ([.ref (ad 5), .int a1]) (n := 2) (Nat.le_of_ble_eq_true rfl)
  rw [lg_entry_eq]
  generalize (lg_sl ([.ref (ad 5), .int a1]) ++ List.replicate (2 - (lg_sl ([.ref (ad 5), .int a1])).length) Slot.unset).toArray = ls at hl ⊢
  obtain ⟨H, hH⟩ : ∃ H, H = s.heap := ⟨_, rfl⟩
  obtain ⟨locs, hlocs⟩ : ∃ locs : List Loc, locs = [] := ⟨_, rfl⟩
  have hP : va_P (dC, dI) clsA (wC cI cZ ad x) H := by rw [hH]; exact hP
  have hS : va_S A s.heap H locs := by rw [hH, hlocs]; exact hS
  rw [← hlocs]
  have hW0 : ∀ (R : Room) (Q : State → Prop) (g : JFrame), W p l e R s m ([.ref (ad 5), .int a1]).toArray below meth c H locs 0 0 Q g → W p l e R s m ([.ref (ad 5), .int a1]).toArray below meth c s.heap locs 0 0 Q g := fun R Q g h => by rw [← hH]; exact h
  refine hW0 _ _ _ ?_
  have hl : lv_has ls 2 [(0, .ref (ad 5)), (1, .int a1)] := hl
  refine lv_aload_n hx hb d_Route_addBefore_0 rfl (lv_at hl 0 rfl) ?_
  refine va_get (D := (dC, dI)) (ci := 5) (v := .int (q_rl x)) (C := R_Route) (T := F_Route) (N := 4) hx hb hbw in_Route hown hK hP 5 rfl rfl 1 (by decide) (hbw _ w_115) (fun _ h9 => h9) rfl d_Route_addBefore_1 ?_
  refine lv_bipush (v := 40) hx hb d_Route_addBefore_4 (by decide) ?_
  refine lv_icmp_ge (tgt := 29) hx hb d_Route_addBefore_6 (by decide) (fun c_1 => ?_) (fun c_1 => ?_)
  · have hg : g_Route_addBefore x a1 = (0, x) := by unfold g_Route_addBefore; rw [if_pos c_1]
    exact W.toX (W.vret hx hb hr (fun t ht hW => ⟨rfl, ⟨by rw [ht, hg]; exact hP, va_K.moved hW.alike hK, hN.warm hW⟩, hS.F ht⟩) hS.2.2 d_Route_addBefore_29)
  · refine lv_aload_n hx hb d_Route_addBefore_9 rfl (lv_at hl 0 rfl) ?_
    refine va_get (D := (dC, dI)) (ci := 5) (v := .ref (ad 18)) (C := R_Route) (T := F_Route) (N := 4) hx hb hbw in_Route hown hK hP 5 rfl rfl 0 (by decide) (hbw _ w_114) (fun _ h9 => h9) rfl d_Route_addBefore_10 ?_
    refine lv_aload_n hx hb d_Route_addBefore_13 rfl (lv_at hl 0 rfl) ?_
    refine va_get (D := (dC, dI)) (ci := 5) (v := .int (q_rl x)) (C := R_Route) (T := F_Route) (N := 4) hx hb hbw in_Route hown hK hP 5 rfl rfl 1 (by decide) (hbw _ w_115) (fun _ h9 => h9) rfl d_Route_addBefore_14 ?_
    refine lv_iload_n hx hb d_Route_addBefore_17 rfl (lv_at hl 1 rfl) ?_
    refine va_iast hx hb hK hP hD hS 18 0 rfl rfl (ix_szr hI.2.2.2.2.2 c_1 rfl) d_Route_addBefore_18 (fun H locs hP hD hS => ?_)
    rw [wC_s_rd] at hP hD
    refine lv_aload_n hx hb d_Route_addBefore_19 rfl (lv_at hl 0 rfl) ?_
    refine lv_dup hx hb d_Route_addBefore_20 rfl ?_
    refine va_get (D := (dC, dI)) (ci := 5) (v := .int (q_rl (s_rd x (upd (q_rd x) (q_rl x).toNatClampNeg a1)))) (C := R_Route) (T := F_Route) (N := 4) hx hb hbw in_Route hown hK hP 5 rfl rfl 1 (by decide) (hbw _ w_115) (fun _ h9 => h9) rfl d_Route_addBefore_21 ?_
    refine lv_iconst (v := 1) hx hb d_Route_addBefore_24 (by decide) ?_
    refine lv_iadd hx hb d_Route_addBefore_25 ?_
    refine va_put (D := (dC, dI)) (ci := 5) (v := .int ((q_rl (s_rd x (upd (q_rd x) (q_rl x).toNatClampNeg a1))) + 1)) (ty := .int) (C := R_Route) (T := F_Route) (N := 4) hx hb hbw in_Route t_Route t_Route_ok n_Route hown hK hP hD hS 5 rfl rfl 1 (by decide) (hbw _ w_115) (fun _ h9 => h9) rfl (by decide +kernel) rfl rfl (Nat.le_of_ble_eq_true rfl) d_Route_addBefore_26 (fun H locs hP hD hS => ?_)
    rw [wC_s_rl] at hP hD
    have hg : g_Route_addBefore x a1 = (0, s_rl (s_rd x (upd (q_rd x) (q_rl x).toNatClampNeg a1)) ((q_rl (s_rd x (upd (q_rd x) (q_rl x).toNatClampNeg a1))) + 1)) := by unfold g_Route_addBefore; rw [if_neg c_1]
    exact W.toX (W.vret hx hb hr (fun t ht hW => ⟨rfl, ⟨by rw [ht, hg]; exact hP, va_K.moved hW.alike hK, hN.warm hW⟩, hS.F ht⟩) hS.2.2 d_Route_addBefore_29)
def g_Search_lowerCost (x : ST) (a1 a2 a3 a4 : Int32) : Int32 × ST := if (f_Search_isReached x a1) = 0 then (0, x) else (if (f_Rooms_has x a2) = 0 then (0, x) else (if (f_Rooms_hasHazardOf x a2 a4) = 0 then (if (((q_co x) a1.toNatClampNeg) + a3) < ((q_co x) a2.toNatClampNeg) then (1, s_co x (upd (q_co x) a2.toNatClampNeg (((q_co x) a1.toNatClampNeg) + a3))) else (0, x)) else (0, x)))
set_option maxHeartbeats 4000000 in
set_option maxRecDepth 100000 in
theorem u_Search_lowerCost (l : Launch) (dC : Nat → ClassId) (dI : Nat → Nat → Nat) (cI cZ : ClassId) (ad : Nat → Nat) (hj : aInj 29 ad) (x : ST) (hI : CIn x) (sz : Nat) (a1 a2 a3 a4 : Int32) : MX l y_Search_lowerCost (Cond.code y_Search_lowerCost b_Search_lowerCost 6 (some .boolean) :: BW) { frames := 2, cells := 0, slots := 0, locals := 43 } (PCZ sz (dC, dI) [(cI, .int), (cZ, .boolean)] (wC cI cZ ad x) [.ref (ad 4), .int a1, .int a2, .int a3, .int a4]) (UQ (some (.int (g_Search_lowerCost x a1 a2 a3 a4).1)) (WB (dC, dI) [(cI, .int), (cZ, .boolean)] (wC cI cZ ad (g_Search_lowerCost x a1 a2 a3 a4).2)) (aC 29 ad sz)) 0 0 (aC 29 ad sz) := by
  refine MX.ofW (cc := b_Search_lowerCost) (maxL := 6) (ret := (some .boolean)) (by decide) rfl ?_
  intro p e s m args below meth c s₁ B hml hex hv
  obtain ⟨hsz, rfl, hP, hK, hN⟩ := hv
  subst hsz
  have hx := B.exec
  have hb := B.bytes
  have hr := B.returns
  have hts := atoms_spec (ws := Cond.code y_Search_lowerCost b_Search_lowerCost 6 (some .boolean) :: BW) B.pre
  have hbw : ∀ w ∈ BW, w.before ([.ref (ad 4), .int a1, .int a2, .int a3, .int a4]).toArray s = true := fun w h => hts w (List.mem_cons_of_mem _ h)
  have hown : s.vm.findClass "PlanRows$Search" = some m.cls := findClass_of_methodNamed B.named
  have hlocks := B.notSynchronized
  have hDx : ∀ z, va_D (aC 29 ad s.heap.size) (wC cI cZ ad z) := fun z => w_D hj (wC_ad cI cZ ad z) _
  have hA : ∀ H : Heap, s.heap.size ≤ H.size → ∀ q, aC 29 ad H.size q → aC 29 ad s.heap.size q := fun H h => aC_le h
  generalize aC 29 ad s.heap.size = A at hDx hA ⊢
  have hD := hDx x
  have hS : va_S A s.heap s.heap [] := va_S.rf
  have hI0 := hI
  have hl := lv_entry ([.ref (ad 4), .int a1, .int a2, .int a3, .int a4]) (n := 6) (Nat.le_of_ble_eq_true rfl)
  rw [lg_entry_eq]
  generalize (lg_sl ([.ref (ad 4), .int a1, .int a2, .int a3, .int a4]) ++ List.replicate (6 - (lg_sl ([.ref (ad 4), .int a1, .int a2, .int a3, .int a4])).length) Slot.unset).toArray = ls at hl ⊢
  obtain ⟨H, hH⟩ : ∃ H, H = s.heap := ⟨_, rfl⟩
  obtain ⟨locs, hlocs⟩ : ∃ locs : List Loc, locs = [] := ⟨_, rfl⟩
  have hP : va_P (dC, dI) clsA (wC cI cZ ad x) H := by rw [hH]; exact hP
  have hS : va_S A s.heap H locs := by rw [hH, hlocs]; exact hS
  rw [← hlocs]
  have hW0 : ∀ (R : Room) (Q : State → Prop) (g : JFrame), W p l e R s m ([.ref (ad 4), .int a1, .int a2, .int a3, .int a4]).toArray below meth c H locs 0 0 Q g → W p l e R s m ([.ref (ad 4), .int a1, .int a2, .int a3, .int a4]).toArray below meth c s.heap locs 0 0 Q g := fun R Q g h => by rw [← hH]; exact h
  refine hW0 _ _ _ ?_
  have hl : lv_has ls 6 [(0, .ref (ad 4)), (1, .int a1), (2, .int a2), (3, .int a3), (4, .int a4)] := hl
  refine lv_aload_n hx hb d_Search_lowerCost_0 rfl (lv_at hl 0 rfl) ?_
  refine lv_iload_n hx hb d_Search_lowerCost_1 rfl (lv_at hl 1 rfl) ?_
  refine xv (As := [.int a1]) (rest := []) (C := "PlanRows$Search") ⟨hx, hb, hml, hown, hts⟩ (c_Search_isReached l dC dI cI cZ ad x hI a1) (cw_Search_74 hts rfl rfl ⟨Nat.le_of_ble_eq_true rfl, Nat.le_of_ble_eq_true rfl⟩) hK hN hP 4 rfl rfl rfl rfl hl.1 rfl (Nat.le_of_ble_eq_true rfl) d_Search_lowerCost_2 ⟨Nat.zero_le _, Nat.zero_le _⟩ ?_
  refine lv_if_eq (tgt := 32) hx hb d_Search_lowerCost_5 (by decide) (fun c_1 => ?_) (fun c_1 => ?_)
  · refine lv_iconst (v := 0) hx hb d_Search_lowerCost_32 (by decide) ?_
    have hg : g_Search_lowerCost x a1 a2 a3 a4 = (0, x) := by unfold g_Search_lowerCost; rw [if_pos c_1]
    exact W.toX (W.zret (v := 0) (ty := .boolean) hx hb hr (by rfl) (fun t ht hW => ⟨by rw [hg], ⟨by rw [ht, hg]; exact hP, va_K.moved hW.alike hK, hN.warm hW⟩, hS.F ht⟩) hS.2.2 d_Search_lowerCost_33)
  · refine lv_aload_n hx hb d_Search_lowerCost_8 rfl (lv_at hl 0 rfl) ?_
    refine va_get (D := (dC, dI)) (ci := 6) (v := .ref (ad 1)) (C := R_Search) (T := F_Search) (N := 4) hx hb hbw in_Search hown hK hP 4 rfl rfl 0 (by decide) (hbw _ w_95) (fun _ h9 => h9) rfl d_Search_lowerCost_9 ?_
    refine lv_iload_n hx hb d_Search_lowerCost_12 rfl (lv_at hl 2 rfl) ?_
    refine xv (As := [.int a2]) (rest := []) (C := "PlanRows$Rooms") ⟨hx, hb, hml, hown, hts⟩ (c_Rooms_has l dC dI cI cZ ad x hI a2) (cw_Search_34 hts rfl rfl ⟨Nat.le_of_ble_eq_true rfl, Nat.le_of_ble_eq_true rfl⟩) hK hN hP 1 rfl rfl rfl rfl hl.1 rfl (Nat.le_of_ble_eq_true rfl) d_Search_lowerCost_13 ⟨Nat.zero_le _, Nat.zero_le _⟩ ?_
    refine lv_if_eq (tgt := 32) hx hb d_Search_lowerCost_16 (by decide) (fun c_2 => ?_) (fun c_2 => ?_)
    · refine lv_iconst (v := 0) hx hb d_Search_lowerCost_32 (by decide) ?_
      have hg : g_Search_lowerCost x a1 a2 a3 a4 = (0, x) := by unfold g_Search_lowerCost; rw [if_neg c_1, if_pos c_2]
      exact W.toX (W.zret (v := 0) (ty := .boolean) hx hb hr (by rfl) (fun t ht hW => ⟨by rw [hg], ⟨by rw [ht, hg]; exact hP, va_K.moved hW.alike hK, hN.warm hW⟩, hS.F ht⟩) hS.2.2 d_Search_lowerCost_33)
    · refine lv_aload_n hx hb d_Search_lowerCost_19 rfl (lv_at hl 0 rfl) ?_
      refine va_get (D := (dC, dI)) (ci := 6) (v := .ref (ad 1)) (C := R_Search) (T := F_Search) (N := 4) hx hb hbw in_Search hown hK hP 4 rfl rfl 0 (by decide) (hbw _ w_95) (fun _ h9 => h9) rfl d_Search_lowerCost_20 ?_
      refine lv_iload_n hx hb d_Search_lowerCost_23 rfl (lv_at hl 2 rfl) ?_
      refine lv_iload hx hb d_Search_lowerCost_24 (lv_at hl 4 rfl) ?_
      refine xv (As := [.int a2, .int a4]) (rest := []) (C := "PlanRows$Rooms") ⟨hx, hb, hml, hown, hts⟩ (c_Rooms_hasHazardOf l dC dI cI cZ ad x hI a2 a4) (cw_Search_77 hts rfl rfl ⟨Nat.le_of_ble_eq_true rfl, Nat.le_of_ble_eq_true rfl⟩) hK hN hP 1 rfl rfl rfl rfl hl.1 rfl (Nat.le_of_ble_eq_true rfl) d_Search_lowerCost_26 ⟨Nat.zero_le _, Nat.zero_le _⟩ ?_
      refine lv_if_eq (tgt := 34) hx hb d_Search_lowerCost_29 (by decide) (fun c_3 => ?_) (fun c_3 => ?_)
      · refine lv_aload_n hx hb d_Search_lowerCost_34 rfl (lv_at hl 0 rfl) ?_
        refine va_get (D := (dC, dI)) (ci := 6) (v := .ref (ad 17)) (C := R_Search) (T := F_Search) (N := 4) hx hb hbw in_Search hown hK hP 4 rfl rfl 3 (by decide) (hbw _ w_98) (fun _ h9 => h9) rfl d_Search_lowerCost_35 ?_
        refine lv_iload_n hx hb d_Search_lowerCost_38 rfl (lv_at hl 1 rfl) ?_
        refine va_iald hx hb hK hP 17 0 rfl rfl (ix_reached hI c_1) d_Search_lowerCost_39 ?_
        refine lv_iload_n hx hb d_Search_lowerCost_40 rfl (lv_at hl 3 rfl) ?_
        refine lv_iadd hx hb d_Search_lowerCost_41 ?_
        refine lv_istore (lv' := [(5, .int (((q_co x) a1.toNatClampNeg) + a3)), (0, .ref (ad 4)), (1, .int a1), (2, .int a2), (3, .int a3), (4, .int a4)]) hx hb d_Search_lowerCost_42 hl (by decide) rfl (fun ls hl => ?_)
        refine lv_iload hx hb d_Search_lowerCost_44 (lv_at hl 0 rfl) ?_
        refine lv_aload_n hx hb d_Search_lowerCost_46 rfl (lv_at hl 1 rfl) ?_
        refine va_get (D := (dC, dI)) (ci := 6) (v := .ref (ad 17)) (C := R_Search) (T := F_Search) (N := 4) hx hb hbw in_Search hown hK hP 4 rfl rfl 3 (by decide) (hbw _ w_98) (fun _ h9 => h9) rfl d_Search_lowerCost_47 ?_
        refine lv_iload_n hx hb d_Search_lowerCost_50 rfl (lv_at hl 3 rfl) ?_
        refine va_iald hx hb hK hP 17 0 rfl rfl (ix_rooms hI c_2) d_Search_lowerCost_51 ?_
        refine lv_icmp_lt (tgt := 57) hx hb d_Search_lowerCost_52 (by decide) (fun c_4 => ?_) (fun c_4 => ?_)
        · refine lv_aload_n hx hb d_Search_lowerCost_57 rfl (lv_at hl 1 rfl) ?_
          refine va_get (D := (dC, dI)) (ci := 6) (v := .ref (ad 17)) (C := R_Search) (T := F_Search) (N := 4) hx hb hbw in_Search hown hK hP 4 rfl rfl 3 (by decide) (hbw _ w_98) (fun _ h9 => h9) rfl d_Search_lowerCost_58 ?_
          refine lv_iload_n hx hb d_Search_lowerCost_61 rfl (lv_at hl 3 rfl) ?_
          refine lv_iload hx hb d_Search_lowerCost_62 (lv_at hl 0 rfl) ?_
          refine va_iast hx hb hK hP hD hS 17 0 rfl rfl (ix_rooms hI c_2) d_Search_lowerCost_64 (fun H locs hP hD hS => ?_)
          rw [wC_s_co] at hP hD
          refine lv_iconst (v := 1) hx hb d_Search_lowerCost_65 (by decide) ?_
          have hg : g_Search_lowerCost x a1 a2 a3 a4 = (1, s_co x (upd (q_co x) a2.toNatClampNeg (((q_co x) a1.toNatClampNeg) + a3))) := by unfold g_Search_lowerCost; rw [if_neg c_1, if_neg c_2, if_pos c_3, if_pos c_4]
          exact W.toX (W.zret (v := 1) (ty := .boolean) hx hb hr (by rfl) (fun t ht hW => ⟨by rw [hg], ⟨by rw [ht, hg]; exact hP, va_K.moved hW.alike hK, hN.warm hW⟩, hS.F ht⟩) hS.2.2 d_Search_lowerCost_66)
        · refine lv_iconst (v := 0) hx hb d_Search_lowerCost_55 (by decide) ?_
          have hg : g_Search_lowerCost x a1 a2 a3 a4 = (0, x) := by unfold g_Search_lowerCost; rw [if_neg c_1, if_neg c_2, if_pos c_3, if_neg c_4]
          exact W.toX (W.zret (v := 0) (ty := .boolean) hx hb hr (by rfl) (fun t ht hW => ⟨by rw [hg], ⟨by rw [ht, hg]; exact hP, va_K.moved hW.alike hK, hN.warm hW⟩, hS.F ht⟩) hS.2.2 d_Search_lowerCost_56)
      · refine lv_iconst (v := 0) hx hb d_Search_lowerCost_32 (by decide) ?_
        have hg : g_Search_lowerCost x a1 a2 a3 a4 = (0, x) := by unfold g_Search_lowerCost; rw [if_neg c_1, if_neg c_2, if_neg c_3]
        exact W.toX (W.zret (v := 0) (ty := .boolean) hx hb hr (by rfl) (fun t ht hW => ⟨by rw [hg], ⟨by rw [ht, hg]; exact hP, va_K.moved hW.alike hK, hN.warm hW⟩, hS.F ht⟩) hS.2.2 d_Search_lowerCost_33)
end
section
/-- z is x but for the costs -/
def co (x z : ST) : Prop := ∃ c, z = s_co x c
theorem co_rf (x : ST) : co x x := ⟨q_co x, rfl⟩
theorem ci_co {x z : ST} (hz : co x z) (hI : CIn x) : CIn z := by
  obtain ⟨c, rfl⟩ := hz
  exact hI
theorem co_lower {x z : ST} (hz : co x z) (a b w v : Int32) : co x (g_Search_lowerCost z a b w v).2 := by
  obtain ⟨c, rfl⟩ := hz
  unfold g_Search_lowerCost
  by_cases h1 : f_Search_isReached (s_co x c) a = 0
  · rw [if_pos h1]; exact ⟨c, rfl⟩
  rw [if_neg h1]
  by_cases h2 : f_Rooms_has (s_co x c) b = 0
  · rw [if_pos h2]; exact ⟨c, rfl⟩
  rw [if_neg h2]
  by_cases h3 : f_Rooms_hasHazardOf (s_co x c) b v = 0
  · rw [if_pos h3]
    by_cases h4 : q_co (s_co x c) a.toNatClampNeg + w < q_co (s_co x c) b.toNatClampNeg
    · rw [if_pos h4]; exact ⟨_, rfl⟩
    · rw [if_neg h4]; exact ⟨c, rfl⟩
  · rw [if_neg h3]; exact ⟨c, rfl⟩
theorem co_dn {x z : ST} (hz : co x z) : q_dn z = q_dn x := by
  obtain ⟨c, rfl⟩ := hz
  rfl
theorem co_rn {x z : ST} (hz : co x z) : q_rn z = q_rn x := by
  obtain ⟨c, rfl⟩ := hz
  rfl
theorem co_tr {x y z : ST} (h : co x y) (h2 : co y z) : co x z := by
  obtain ⟨c, rfl⟩ := h
  obtain ⟨d, rfl⟩ := h2
  exact ⟨d, rfl⟩
def L_Search_spreadOverAllDoors (a1 : Int32) : Nat → Int32 → Int32 → ST → Int32 × ST
  | 0, _, _, z => (0, z)
  | k + 1, ch, i, z => if (q_dn z) ≤ i then (ch, z) else (if (f_Search_isPassed z i) = 0 then L_Search_spreadOverAllDoors a1 k ch (i + 1) z else (if ch = 0 then (if ((g_Search_lowerCost ((g_Search_lowerCost z (f_Doors_firstRoomOf z i) (f_Doors_secondRoomOf z i) (f_Doors_costOf z i) a1).2) (f_Doors_secondRoomOf z i) (f_Doors_firstRoomOf z i) (f_Doors_costOf z i) a1).1) = 0 then (if ((g_Search_lowerCost z (f_Doors_firstRoomOf z i) (f_Doors_secondRoomOf z i) (f_Doors_costOf z i) a1).1) = 0 then L_Search_spreadOverAllDoors a1 k 0 (i + 1) ((g_Search_lowerCost ((g_Search_lowerCost z (f_Doors_firstRoomOf z i) (f_Doors_secondRoomOf z i) (f_Doors_costOf z i) a1).2) (f_Doors_secondRoomOf z i) (f_Doors_firstRoomOf z i) (f_Doors_costOf z i) a1).2) else L_Search_spreadOverAllDoors a1 k 1 (i + 1) ((g_Search_lowerCost ((g_Search_lowerCost z (f_Doors_firstRoomOf z i) (f_Doors_secondRoomOf z i) (f_Doors_costOf z i) a1).2) (f_Doors_secondRoomOf z i) (f_Doors_firstRoomOf z i) (f_Doors_costOf z i) a1).2)) else L_Search_spreadOverAllDoors a1 k 1 (i + 1) ((g_Search_lowerCost ((g_Search_lowerCost z (f_Doors_firstRoomOf z i) (f_Doors_secondRoomOf z i) (f_Doors_costOf z i) a1).2) (f_Doors_secondRoomOf z i) (f_Doors_firstRoomOf z i) (f_Doors_costOf z i) a1).2)) else L_Search_spreadOverAllDoors a1 k 1 (i + 1) ((g_Search_lowerCost ((g_Search_lowerCost z (f_Doors_firstRoomOf z i) (f_Doors_secondRoomOf z i) (f_Doors_costOf z i) a1).2) (f_Doors_secondRoomOf z i) (f_Doors_firstRoomOf z i) (f_Doors_costOf z i) a1).2)))
theorem L_Search_spreadOverAllDoors_s (a1 : Int32) (k : Nat) (ch i : Int32) (z : ST) : L_Search_spreadOverAllDoors a1 (k + 1) ch i z = if (q_dn z) ≤ i then (ch, z) else (if (f_Search_isPassed z i) = 0 then L_Search_spreadOverAllDoors a1 k ch (i + 1) z else (if ch = 0 then (if ((g_Search_lowerCost ((g_Search_lowerCost z (f_Doors_firstRoomOf z i) (f_Doors_secondRoomOf z i) (f_Doors_costOf z i) a1).2) (f_Doors_secondRoomOf z i) (f_Doors_firstRoomOf z i) (f_Doors_costOf z i) a1).1) = 0 then (if ((g_Search_lowerCost z (f_Doors_firstRoomOf z i) (f_Doors_secondRoomOf z i) (f_Doors_costOf z i) a1).1) = 0 then L_Search_spreadOverAllDoors a1 k 0 (i + 1) ((g_Search_lowerCost ((g_Search_lowerCost z (f_Doors_firstRoomOf z i) (f_Doors_secondRoomOf z i) (f_Doors_costOf z i) a1).2) (f_Doors_secondRoomOf z i) (f_Doors_firstRoomOf z i) (f_Doors_costOf z i) a1).2) else L_Search_spreadOverAllDoors a1 k 1 (i + 1) ((g_Search_lowerCost ((g_Search_lowerCost z (f_Doors_firstRoomOf z i) (f_Doors_secondRoomOf z i) (f_Doors_costOf z i) a1).2) (f_Doors_secondRoomOf z i) (f_Doors_firstRoomOf z i) (f_Doors_costOf z i) a1).2)) else L_Search_spreadOverAllDoors a1 k 1 (i + 1) ((g_Search_lowerCost ((g_Search_lowerCost z (f_Doors_firstRoomOf z i) (f_Doors_secondRoomOf z i) (f_Doors_costOf z i) a1).2) (f_Doors_secondRoomOf z i) (f_Doors_firstRoomOf z i) (f_Doors_costOf z i) a1).2)) else L_Search_spreadOverAllDoors a1 k 1 (i + 1) ((g_Search_lowerCost ((g_Search_lowerCost z (f_Doors_firstRoomOf z i) (f_Doors_secondRoomOf z i) (f_Doors_costOf z i) a1).2) (f_Doors_secondRoomOf z i) (f_Doors_firstRoomOf z i) (f_Doors_costOf z i) a1).2))) := rfl
def g_Search_spreadOverAllDoors (x : ST) (a1 : Int32) : Int32 × ST := L_Search_spreadOverAllDoors a1 81 0 0 x
set_option maxHeartbeats 400000 in
set_option maxRecDepth 100000 in
theorem u_Search_spreadOverAllDoors (l : Launch) (dC : Nat → ClassId) (dI : Nat → Nat → Nat) (cI cZ : ClassId) (ad : Nat → Nat) (hj : aInj 29 ad) (x : ST) (hI : CIn x) (sz : Nat) (a1 : Int32) : MX l y_Search_spreadOverAllDoors (Cond.code y_Search_spreadOverAllDoors b_Search_spreadOverAllDoors 9 (some .boolean) :: BW) { frames := 3, cells := 0, slots := 0, locals := 68 } (PCZ sz (dC, dI) [(cI, .int), (cZ, .boolean)] (wC cI cZ ad x) [.ref (ad 4), .int a1]) (UQ (some (.int (g_Search_spreadOverAllDoors x a1).1)) (WB (dC, dI) [(cI, .int), (cZ, .boolean)] (wC cI cZ ad (g_Search_spreadOverAllDoors x a1).2)) (aC 29 ad sz)) 0 0 (aC 29 ad sz) := by
  refine MX.ofW (cc := b_Search_spreadOverAllDoors) (maxL := 9) (ret := (some .boolean)) (by decide) rfl ?_
  intro p e s m args below meth c s₁ B hml hex hv
  obtain ⟨hsz, rfl, hP, hK, hN⟩ := hv
  subst hsz
  have hx := B.exec
  have hb := B.bytes
  have hr := B.returns
  have hts := atoms_spec (ws := Cond.code y_Search_spreadOverAllDoors b_Search_spreadOverAllDoors 9 (some .boolean) :: BW) B.pre
  have hbw : ∀ w ∈ BW, w.before ([.ref (ad 4), .int a1]).toArray s = true := fun w h => hts w (List.mem_cons_of_mem _ h)
  have hown : s.vm.findClass "PlanRows$Search" = some m.cls := findClass_of_methodNamed B.named
  have hlocks := B.notSynchronized
  have hDx : ∀ z, va_D (aC 29 ad s.heap.size) (wC cI cZ ad z) := fun z => w_D hj (wC_ad cI cZ ad z) _
  have hA : ∀ H : Heap, s.heap.size ≤ H.size → ∀ q, aC 29 ad H.size q → aC 29 ad s.heap.size q := fun H h => aC_le h
  generalize aC 29 ad s.heap.size = A at hDx hA ⊢
  have hD := hDx x
  have hS : va_S A s.heap s.heap [] := va_S.rf
  have hI0 := hI
  have hl := lv_entry ([.ref (ad 4), .int a1]) (n := 9) (Nat.le_of_ble_eq_true rfl)
  rw [lg_entry_eq]
  generalize (lg_sl ([.ref (ad 4), .int a1]) ++ List.replicate (9 - (lg_sl ([.ref (ad 4), .int a1])).length) Slot.unset).toArray = ls at hl ⊢
  obtain ⟨H, hH⟩ : ∃ H, H = s.heap := ⟨_, rfl⟩
  obtain ⟨locs, hlocs⟩ : ∃ locs : List Loc, locs = [] := ⟨_, rfl⟩
  have hP : va_P (dC, dI) clsA (wC cI cZ ad x) H := by rw [hH]; exact hP
  have hS : va_S A s.heap H locs := by rw [hH, hlocs]; exact hS
  rw [← hlocs]
  have hW0 : ∀ (R : Room) (Q : State → Prop) (g : JFrame), W p l e R s m ([.ref (ad 4), .int a1]).toArray below meth c H locs 0 0 Q g → W p l e R s m ([.ref (ad 4), .int a1]).toArray below meth c s.heap locs 0 0 Q g := fun R Q g h => by rw [← hH]; exact h
  refine hW0 _ _ _ ?_
  have hl : lv_has ls 9 [(0, .ref (ad 4)), (1, .int a1)] := hl
  refine lv_iconst (v := 0) hx hb d_Search_spreadOverAllDoors_0 (by decide) ?_
  refine lv_istore_n (lv' := [(2, .int 0), (0, .ref (ad 4)), (1, .int a1)]) hx hb d_Search_spreadOverAllDoors_1 rfl hl (by decide) rfl (fun ls hl => ?_)
  refine lv_iconst (v := 0) hx hb d_Search_spreadOverAllDoors_2 (by decide) ?_
  refine lv_istore_n (lv' := [(3, .int 0), (2, .int 0), (0, .ref (ad 4)), (1, .int a1)]) hx hb d_Search_spreadOverAllDoors_3 rfl hl (by decide) rfl (fun ls hl => ?_)
  have loop : ∀ (k : Nat) (ch i : Int32) (z : ST) (ls : Array Slot) (H : Heap) (locs : List Loc), (ch = 0 ∨ ch = 1) ∧ 0 ≤ i.toInt ∧ i.toInt ≤ (q_dn x).toInt ∧ (q_dn x).toInt - i.toInt < ((k : Nat) : Int) → co x z → g_Search_spreadOverAllDoors x a1 = L_Search_spreadOverAllDoors a1 k ch i z → va_P (dC, dI) clsA (wC cI cZ ad z) H → va_S A s.heap H locs → lv_has ls 9 [(3, .int i), (2, .int ch), (0, .ref (ad 4)), (1, .int a1)] → W p l e { frames := 3, cells := 0, slots := 0, locals := 68 } s m ([.ref (ad 4), .int a1]).toArray below meth c H locs 0 0 (MQX below (UQ (some (.int (g_Search_spreadOverAllDoors x a1).1)) (WB (dC, dI) [(cI, .int), (cZ, .boolean)] (wC cI cZ ad (g_Search_spreadOverAllDoors x a1).2)) A) ([.ref (ad 4), .int a1]).toArray s 0 0 A) (F0 m 4 ls []) := by
    intro k
    induction k with
    | zero =>
      intro ch i z ls H locs hi hz hq hP hS hl
      obtain ⟨-, h1, h2, h3⟩ := hi
      omega
    | succ k ih =>
      intro ch i z ls H locs hi hz hq hP hS hl
      have hq := hq.trans (L_Search_spreadOverAllDoors_s a1 k ch i z)
      have hI := (ci_co hz hI0)
      have hD := hDx z
      refine lv_iload_n hx hb d_Search_spreadOverAllDoors_4 rfl (lv_at hl 0 rfl) ?_
      refine lv_aload_n hx hb d_Search_spreadOverAllDoors_5 rfl (lv_at hl 2 rfl) ?_
      refine va_get (D := (dC, dI)) (ci := 6) (v := .ref (ad 2)) (C := R_Search) (T := F_Search) (N := 4) hx hb hbw in_Search hown hK hP 4 rfl rfl 1 (by decide) (hbw _ w_96) (fun _ h9 => h9) rfl d_Search_spreadOverAllDoors_6 ?_
      refine va_getN (D := (dC, dI)) (ci := 2) (v := .int (q_dn z)) (C := R_Doors) (T := F_Doors) (N := 5) hx hb hbw in_Doors hown hK hP 2 rfl rfl 4 (by decide) (va_Nw.use rfl (hN _ nw_4)) (fun _ h9 => h9) rfl d_Search_spreadOverAllDoors_9 ?_
      refine lv_icmp_ge (tgt := 105) hx hb d_Search_spreadOverAllDoors_12 (by decide) (fun c_1 => ?_) (fun c_1 => ?_)
      · refine lv_iload_n hx hb d_Search_spreadOverAllDoors_105 rfl (lv_at hl 1 rfl) ?_
        have hg : g_Search_spreadOverAllDoors x a1 = (ch, z) := by rw [hq, if_pos c_1]
        exact W.toX (W.zret (v := ch) (ty := .boolean) hx hb hr (by rcases hi.1 with h | h <;> rw [h] <;> rfl) (fun t ht hW => ⟨by rw [hg], ⟨by rw [ht, hg]; exact hP, va_K.moved hW.alike hK, hN.warm hW⟩, hS.F ht⟩) hS.2.2 d_Search_spreadOverAllDoors_106)
      · refine lv_aload_n hx hb d_Search_spreadOverAllDoors_15 rfl (lv_at hl 2 rfl) ?_
        refine lv_iload_n hx hb d_Search_spreadOverAllDoors_16 rfl (lv_at hl 0 rfl) ?_
        refine xv (As := [.int i]) (rest := []) (C := "PlanRows$Search") ⟨hx, hb, hml, hown, hts⟩ (c_Search_isPassed l dC dI cI cZ ad z hI i) (cw_Search_57 hts rfl rfl ⟨Nat.le_of_ble_eq_true rfl, Nat.le_of_ble_eq_true rfl⟩) hK hN hP 4 rfl rfl rfl rfl hl.1 rfl (Nat.le_of_ble_eq_true rfl) d_Search_spreadOverAllDoors_17 ⟨Nat.zero_le _, Nat.zero_le _⟩ ?_
        refine lv_if_eq (tgt := 99) hx hb d_Search_spreadOverAllDoors_20 (by decide) (fun c_2 => ?_) (fun c_2 => ?_)
        · refine lv_iinc (v := i + 1) (lv' := [(3, .int (i + 1)), (2, .int ch), (0, .ref (ad 4)), (1, .int a1)]) hx hb d_Search_spreadOverAllDoors_99 hl (k := 0) rfl rfl (by decide) rfl (fun ls hl => ?_)
          refine lv_goto (tgt := 4) hx hb d_Search_spreadOverAllDoors_102 (by decide) ?_
          exact ih ch (i + 1) z ls H locs ⟨hi.1, lp_inc hi.2 (by rw [← co_dn hz]; exact c_1) hI0.2.1.2 (by decide)⟩ hz (by rw [hq, if_neg c_1, if_pos c_2]) hP hS (lv_sub hl [0, 1, 2, 3] rfl)
        · refine lv_aload_n hx hb d_Search_spreadOverAllDoors_23 rfl (lv_at hl 2 rfl) ?_
          refine va_get (D := (dC, dI)) (ci := 6) (v := .ref (ad 2)) (C := R_Search) (T := F_Search) (N := 4) hx hb hbw in_Search hown hK hP 4 rfl rfl 1 (by decide) (hbw _ w_96) (fun _ h9 => h9) rfl d_Search_spreadOverAllDoors_24 ?_
          refine lv_iload_n hx hb d_Search_spreadOverAllDoors_27 rfl (lv_at hl 0 rfl) ?_
          refine xv (As := [.int i]) (rest := []) (C := "PlanRows$Doors") ⟨hx, hb, hml, hown, hts⟩ (c_Doors_firstRoomOf l dC dI cI cZ ad z hI i) (cw_Search_60 hts rfl rfl ⟨Nat.le_of_ble_eq_true rfl, Nat.le_of_ble_eq_true rfl⟩) hK hN hP 2 rfl rfl rfl rfl hl.1 rfl (Nat.le_of_ble_eq_true rfl) d_Search_spreadOverAllDoors_28 ⟨Nat.zero_le _, Nat.zero_le _⟩ ?_
          refine lv_istore (lv' := [(4, .int (f_Doors_firstRoomOf z i)), (3, .int i), (2, .int ch), (0, .ref (ad 4)), (1, .int a1)]) hx hb d_Search_spreadOverAllDoors_31 hl (by decide) rfl (fun ls hl => ?_)
          refine lv_aload_n hx hb d_Search_spreadOverAllDoors_33 rfl (lv_at hl 3 rfl) ?_
          refine va_get (D := (dC, dI)) (ci := 6) (v := .ref (ad 2)) (C := R_Search) (T := F_Search) (N := 4) hx hb hbw in_Search hown hK hP 4 rfl rfl 1 (by decide) (hbw _ w_96) (fun _ h9 => h9) rfl d_Search_spreadOverAllDoors_34 ?_
          refine lv_iload_n hx hb d_Search_spreadOverAllDoors_37 rfl (lv_at hl 1 rfl) ?_
          refine xv (As := [.int i]) (rest := []) (C := "PlanRows$Doors") ⟨hx, hb, hml, hown, hts⟩ (c_Doors_secondRoomOf l dC dI cI cZ ad z hI i) (cw_Search_64 hts rfl rfl ⟨Nat.le_of_ble_eq_true rfl, Nat.le_of_ble_eq_true rfl⟩) hK hN hP 2 rfl rfl rfl rfl hl.1 rfl (Nat.le_of_ble_eq_true rfl) d_Search_spreadOverAllDoors_38 ⟨Nat.zero_le _, Nat.zero_le _⟩ ?_
          refine lv_istore (lv' := [(5, .int (f_Doors_secondRoomOf z i)), (4, .int (f_Doors_firstRoomOf z i)), (3, .int i), (2, .int ch), (0, .ref (ad 4)), (1, .int a1)]) hx hb d_Search_spreadOverAllDoors_41 hl (by decide) rfl (fun ls hl => ?_)
          refine lv_aload_n hx hb d_Search_spreadOverAllDoors_43 rfl (lv_at hl 4 rfl) ?_
          refine va_get (D := (dC, dI)) (ci := 6) (v := .ref (ad 2)) (C := R_Search) (T := F_Search) (N := 4) hx hb hbw in_Search hown hK hP 4 rfl rfl 1 (by decide) (hbw _ w_96) (fun _ h9 => h9) rfl d_Search_spreadOverAllDoors_44 ?_
          refine lv_iload_n hx hb d_Search_spreadOverAllDoors_47 rfl (lv_at hl 2 rfl) ?_
          refine xv (As := [.int i]) (rest := []) (C := "PlanRows$Doors") ⟨hx, hb, hml, hown, hts⟩ (c_Doors_costOf l dC dI cI cZ ad z hI i) (cw_Search_67 hts rfl rfl ⟨Nat.le_of_ble_eq_true rfl, Nat.le_of_ble_eq_true rfl⟩) hK hN hP 2 rfl rfl rfl rfl hl.1 rfl (Nat.le_of_ble_eq_true rfl) d_Search_spreadOverAllDoors_48 ⟨Nat.zero_le _, Nat.zero_le _⟩ ?_
          refine lv_istore (lv' := [(6, .int (f_Doors_costOf z i)), (5, .int (f_Doors_secondRoomOf z i)), (4, .int (f_Doors_firstRoomOf z i)), (3, .int i), (2, .int ch), (0, .ref (ad 4)), (1, .int a1)]) hx hb d_Search_spreadOverAllDoors_51 hl (by decide) rfl (fun ls hl => ?_)
          refine lv_aload_n hx hb d_Search_spreadOverAllDoors_53 rfl (lv_at hl 5 rfl) ?_
          refine lv_iload hx hb d_Search_spreadOverAllDoors_54 (lv_at hl 2 rfl) ?_
          refine lv_iload hx hb d_Search_spreadOverAllDoors_56 (lv_at hl 1 rfl) ?_
          refine lv_iload hx hb d_Search_spreadOverAllDoors_58 (lv_at hl 0 rfl) ?_
          refine lv_iload_n hx hb d_Search_spreadOverAllDoors_60 rfl (lv_at hl 6 rfl) ?_
          refine x_upd (x_runV (C := "PlanRows$Search") (b := (ad 4)) (As := [.int (f_Doors_firstRoomOf z i), .int (f_Doors_secondRoomOf z i), .int (f_Doors_costOf z i), .int a1]) (rest := []) ⟨hx, hb, hml, hown, hts⟩ (u_Search_lowerCost l dC dI cI cZ ad hj z hI H.size (f_Doors_firstRoomOf z i) (f_Doors_secondRoomOf z i) (f_Doors_costOf z i) a1) (cw_Search_70 hts rfl rfl ⟨Nat.le_of_ble_eq_true rfl, Nat.le_of_ble_eq_true rfl⟩) ⟨PCZ.blind, va_recv hK hP (ci := 6) (q0 := 4) rfl rfl, PCZ.at hK hN hP⟩ rfl rfl hl.1 rfl (lv_room (Nat.le_of_ble_eq_true rfl)) d_Search_spreadOverAllDoors_61 ⟨Nat.zero_le _, Nat.zero_le _⟩) hS (fun q _ h => hA H hS.1 q h) (fun q h => hA H hS.1 q h) (fun t H1 locs ht hW hB hz1 hk1 hS => ?_)
          obtain ⟨hP, -, -⟩ := hB
          rw [ht] at hP
          generalize H1 = H at hP hS ⊢
          have hD : va_D A (wC cI cZ ad ((g_Search_lowerCost z (f_Doors_firstRoomOf z i) (f_Doors_secondRoomOf z i) (f_Doors_costOf z i) a1).2)) := hDx _
          have hI : CIn ((g_Search_lowerCost z (f_Doors_firstRoomOf z i) (f_Doors_secondRoomOf z i) (f_Doors_costOf z i) a1).2) := ci_co (co_lower hz _ _ _ _) hI0
          refine lv_istore (lv' := [(7, .int ((g_Search_lowerCost z (f_Doors_firstRoomOf z i) (f_Doors_secondRoomOf z i) (f_Doors_costOf z i) a1).1)), (6, .int (f_Doors_costOf z i)), (5, .int (f_Doors_secondRoomOf z i)), (4, .int (f_Doors_firstRoomOf z i)), (3, .int i), (2, .int ch), (0, .ref (ad 4)), (1, .int a1)]) hx hb d_Search_spreadOverAllDoors_64 hl (by decide) rfl (fun ls hl => ?_)
          refine lv_aload_n hx hb d_Search_spreadOverAllDoors_66 rfl (lv_at hl 6 rfl) ?_
          refine lv_iload hx hb d_Search_spreadOverAllDoors_67 (lv_at hl 2 rfl) ?_
          refine lv_iload hx hb d_Search_spreadOverAllDoors_69 (lv_at hl 3 rfl) ?_
          refine lv_iload hx hb d_Search_spreadOverAllDoors_71 (lv_at hl 1 rfl) ?_
          refine lv_iload_n hx hb d_Search_spreadOverAllDoors_73 rfl (lv_at hl 7 rfl) ?_
          refine x_upd (x_runV (C := "PlanRows$Search") (b := (ad 4)) (As := [.int (f_Doors_secondRoomOf z i), .int (f_Doors_firstRoomOf z i), .int (f_Doors_costOf z i), .int a1]) (rest := []) ⟨hx, hb, hml, hown, hts⟩ (u_Search_lowerCost l dC dI cI cZ ad hj ((g_Search_lowerCost z (f_Doors_firstRoomOf z i) (f_Doors_secondRoomOf z i) (f_Doors_costOf z i) a1).2) hI H.size (f_Doors_secondRoomOf z i) (f_Doors_firstRoomOf z i) (f_Doors_costOf z i) a1) (cw_Search_70 hts rfl rfl ⟨Nat.le_of_ble_eq_true rfl, Nat.le_of_ble_eq_true rfl⟩) ⟨PCZ.blind, va_recv hK hP (ci := 6) (q0 := 4) rfl rfl, PCZ.at hK hN hP⟩ rfl rfl hl.1 rfl (lv_room (Nat.le_of_ble_eq_true rfl)) d_Search_spreadOverAllDoors_74 ⟨Nat.zero_le _, Nat.zero_le _⟩) hS (fun q _ h => hA H hS.1 q h) (fun q h => hA H hS.1 q h) (fun t H1 locs ht hW hB hz1 hk1 hS => ?_)
          obtain ⟨hP, -, -⟩ := hB
          rw [ht] at hP
          generalize H1 = H at hP hS ⊢
          have hD : va_D A (wC cI cZ ad ((g_Search_lowerCost ((g_Search_lowerCost z (f_Doors_firstRoomOf z i) (f_Doors_secondRoomOf z i) (f_Doors_costOf z i) a1).2) (f_Doors_secondRoomOf z i) (f_Doors_firstRoomOf z i) (f_Doors_costOf z i) a1).2)) := hDx _
          have hI : CIn ((g_Search_lowerCost ((g_Search_lowerCost z (f_Doors_firstRoomOf z i) (f_Doors_secondRoomOf z i) (f_Doors_costOf z i) a1).2) (f_Doors_secondRoomOf z i) (f_Doors_firstRoomOf z i) (f_Doors_costOf z i) a1).2) := ci_co (co_lower (co_lower hz _ _ _ _) _ _ _ _) hI0
          refine lv_istore (lv' := [(8, .int ((g_Search_lowerCost ((g_Search_lowerCost z (f_Doors_firstRoomOf z i) (f_Doors_secondRoomOf z i) (f_Doors_costOf z i) a1).2) (f_Doors_secondRoomOf z i) (f_Doors_firstRoomOf z i) (f_Doors_costOf z i) a1).1)), (7, .int ((g_Search_lowerCost z (f_Doors_firstRoomOf z i) (f_Doors_secondRoomOf z i) (f_Doors_costOf z i) a1).1)), (6, .int (f_Doors_costOf z i)), (5, .int (f_Doors_secondRoomOf z i)), (4, .int (f_Doors_firstRoomOf z i)), (3, .int i), (2, .int ch), (0, .ref (ad 4)), (1, .int a1)]) hx hb d_Search_spreadOverAllDoors_77 hl (by decide) rfl (fun ls hl => ?_)
          refine lv_iload_n hx hb d_Search_spreadOverAllDoors_79 rfl (lv_at hl 6 rfl) ?_
          refine lv_if_ne (tgt := 93) hx hb d_Search_spreadOverAllDoors_80 (by decide) (fun c_3 => ?_) (fun c_3 => ?_)
          · refine lv_iconst (v := 1) hx hb d_Search_spreadOverAllDoors_93 (by decide) ?_
            refine lv_goto (tgt := 98) hx hb d_Search_spreadOverAllDoors_94 (by decide) ?_
            refine lv_istore_n (lv' := [(2, .int 1), (8, .int ((g_Search_lowerCost ((g_Search_lowerCost z (f_Doors_firstRoomOf z i) (f_Doors_secondRoomOf z i) (f_Doors_costOf z i) a1).2) (f_Doors_secondRoomOf z i) (f_Doors_firstRoomOf z i) (f_Doors_costOf z i) a1).1)), (7, .int ((g_Search_lowerCost z (f_Doors_firstRoomOf z i) (f_Doors_secondRoomOf z i) (f_Doors_costOf z i) a1).1)), (6, .int (f_Doors_costOf z i)), (5, .int (f_Doors_secondRoomOf z i)), (4, .int (f_Doors_firstRoomOf z i)), (3, .int i), (0, .ref (ad 4)), (1, .int a1)]) hx hb d_Search_spreadOverAllDoors_98 rfl hl (by decide) rfl (fun ls hl => ?_)
            refine lv_iinc (v := i + 1) (lv' := [(3, .int (i + 1)), (2, .int 1), (8, .int ((g_Search_lowerCost ((g_Search_lowerCost z (f_Doors_firstRoomOf z i) (f_Doors_secondRoomOf z i) (f_Doors_costOf z i) a1).2) (f_Doors_secondRoomOf z i) (f_Doors_firstRoomOf z i) (f_Doors_costOf z i) a1).1)), (7, .int ((g_Search_lowerCost z (f_Doors_firstRoomOf z i) (f_Doors_secondRoomOf z i) (f_Doors_costOf z i) a1).1)), (6, .int (f_Doors_costOf z i)), (5, .int (f_Doors_secondRoomOf z i)), (4, .int (f_Doors_firstRoomOf z i)), (0, .ref (ad 4)), (1, .int a1)]) hx hb d_Search_spreadOverAllDoors_99 hl (k := 6) rfl rfl (by decide) rfl (fun ls hl => ?_)
            refine lv_goto (tgt := 4) hx hb d_Search_spreadOverAllDoors_102 (by decide) ?_
            exact ih 1 (i + 1) ((g_Search_lowerCost ((g_Search_lowerCost z (f_Doors_firstRoomOf z i) (f_Doors_secondRoomOf z i) (f_Doors_costOf z i) a1).2) (f_Doors_secondRoomOf z i) (f_Doors_firstRoomOf z i) (f_Doors_costOf z i) a1).2) ls H locs ⟨Or.inr rfl, lp_inc hi.2 (by rw [← co_dn hz]; exact c_1) hI0.2.1.2 (by decide)⟩ (co_lower (co_lower hz _ _ _ _) _ _ _ _) (by rw [hq, if_neg c_1, if_neg c_2, if_neg c_3]) hP hS (lv_sub hl [0, 1, 7, 8] rfl)
          · refine lv_iload hx hb d_Search_spreadOverAllDoors_83 (lv_at hl 0 rfl) ?_
            refine lv_if_ne (tgt := 93) hx hb d_Search_spreadOverAllDoors_85 (by decide) (fun c_4 => ?_) (fun c_4 => ?_)
            · refine lv_iconst (v := 1) hx hb d_Search_spreadOverAllDoors_93 (by decide) ?_
              refine lv_goto (tgt := 98) hx hb d_Search_spreadOverAllDoors_94 (by decide) ?_
              refine lv_istore_n (lv' := [(2, .int 1), (8, .int ((g_Search_lowerCost ((g_Search_lowerCost z (f_Doors_firstRoomOf z i) (f_Doors_secondRoomOf z i) (f_Doors_costOf z i) a1).2) (f_Doors_secondRoomOf z i) (f_Doors_firstRoomOf z i) (f_Doors_costOf z i) a1).1)), (7, .int ((g_Search_lowerCost z (f_Doors_firstRoomOf z i) (f_Doors_secondRoomOf z i) (f_Doors_costOf z i) a1).1)), (6, .int (f_Doors_costOf z i)), (5, .int (f_Doors_secondRoomOf z i)), (4, .int (f_Doors_firstRoomOf z i)), (3, .int i), (0, .ref (ad 4)), (1, .int a1)]) hx hb d_Search_spreadOverAllDoors_98 rfl hl (by decide) rfl (fun ls hl => ?_)
              refine lv_iinc (v := i + 1) (lv' := [(3, .int (i + 1)), (2, .int 1), (8, .int ((g_Search_lowerCost ((g_Search_lowerCost z (f_Doors_firstRoomOf z i) (f_Doors_secondRoomOf z i) (f_Doors_costOf z i) a1).2) (f_Doors_secondRoomOf z i) (f_Doors_firstRoomOf z i) (f_Doors_costOf z i) a1).1)), (7, .int ((g_Search_lowerCost z (f_Doors_firstRoomOf z i) (f_Doors_secondRoomOf z i) (f_Doors_costOf z i) a1).1)), (6, .int (f_Doors_costOf z i)), (5, .int (f_Doors_secondRoomOf z i)), (4, .int (f_Doors_firstRoomOf z i)), (0, .ref (ad 4)), (1, .int a1)]) hx hb d_Search_spreadOverAllDoors_99 hl (k := 6) rfl rfl (by decide) rfl (fun ls hl => ?_)
              refine lv_goto (tgt := 4) hx hb d_Search_spreadOverAllDoors_102 (by decide) ?_
              exact ih 1 (i + 1) ((g_Search_lowerCost ((g_Search_lowerCost z (f_Doors_firstRoomOf z i) (f_Doors_secondRoomOf z i) (f_Doors_costOf z i) a1).2) (f_Doors_secondRoomOf z i) (f_Doors_firstRoomOf z i) (f_Doors_costOf z i) a1).2) ls H locs ⟨Or.inr rfl, lp_inc hi.2 (by rw [← co_dn hz]; exact c_1) hI0.2.1.2 (by decide)⟩ (co_lower (co_lower hz _ _ _ _) _ _ _ _) (by rw [hq, if_neg c_1, if_neg c_2, if_pos c_3, if_neg c_4]) hP hS (lv_sub hl [0, 1, 7, 8] rfl)
            · refine lv_iload hx hb d_Search_spreadOverAllDoors_88 (lv_at hl 1 rfl) ?_
              refine lv_if_eq (tgt := 97) hx hb d_Search_spreadOverAllDoors_90 (by decide) (fun c_5 => ?_) (fun c_5 => ?_)
              · refine lv_iconst (v := 0) hx hb d_Search_spreadOverAllDoors_97 (by decide) ?_
                refine lv_istore_n (lv' := [(2, .int 0), (8, .int ((g_Search_lowerCost ((g_Search_lowerCost z (f_Doors_firstRoomOf z i) (f_Doors_secondRoomOf z i) (f_Doors_costOf z i) a1).2) (f_Doors_secondRoomOf z i) (f_Doors_firstRoomOf z i) (f_Doors_costOf z i) a1).1)), (7, .int ((g_Search_lowerCost z (f_Doors_firstRoomOf z i) (f_Doors_secondRoomOf z i) (f_Doors_costOf z i) a1).1)), (6, .int (f_Doors_costOf z i)), (5, .int (f_Doors_secondRoomOf z i)), (4, .int (f_Doors_firstRoomOf z i)), (3, .int i), (0, .ref (ad 4)), (1, .int a1)]) hx hb d_Search_spreadOverAllDoors_98 rfl hl (by decide) rfl (fun ls hl => ?_)
                refine lv_iinc (v := i + 1) (lv' := [(3, .int (i + 1)), (2, .int 0), (8, .int ((g_Search_lowerCost ((g_Search_lowerCost z (f_Doors_firstRoomOf z i) (f_Doors_secondRoomOf z i) (f_Doors_costOf z i) a1).2) (f_Doors_secondRoomOf z i) (f_Doors_firstRoomOf z i) (f_Doors_costOf z i) a1).1)), (7, .int ((g_Search_lowerCost z (f_Doors_firstRoomOf z i) (f_Doors_secondRoomOf z i) (f_Doors_costOf z i) a1).1)), (6, .int (f_Doors_costOf z i)), (5, .int (f_Doors_secondRoomOf z i)), (4, .int (f_Doors_firstRoomOf z i)), (0, .ref (ad 4)), (1, .int a1)]) hx hb d_Search_spreadOverAllDoors_99 hl (k := 6) rfl rfl (by decide) rfl (fun ls hl => ?_)
                refine lv_goto (tgt := 4) hx hb d_Search_spreadOverAllDoors_102 (by decide) ?_
                exact ih 0 (i + 1) ((g_Search_lowerCost ((g_Search_lowerCost z (f_Doors_firstRoomOf z i) (f_Doors_secondRoomOf z i) (f_Doors_costOf z i) a1).2) (f_Doors_secondRoomOf z i) (f_Doors_firstRoomOf z i) (f_Doors_costOf z i) a1).2) ls H locs ⟨Or.inl rfl, lp_inc hi.2 (by rw [← co_dn hz]; exact c_1) hI0.2.1.2 (by decide)⟩ (co_lower (co_lower hz _ _ _ _) _ _ _ _) (by rw [hq, if_neg c_1, if_neg c_2, if_pos c_3, if_pos c_4, if_pos c_5]) hP hS (lv_sub hl [0, 1, 7, 8] rfl)
              · refine lv_iconst (v := 1) hx hb d_Search_spreadOverAllDoors_93 (by decide) ?_
                refine lv_goto (tgt := 98) hx hb d_Search_spreadOverAllDoors_94 (by decide) ?_
                refine lv_istore_n (lv' := [(2, .int 1), (8, .int ((g_Search_lowerCost ((g_Search_lowerCost z (f_Doors_firstRoomOf z i) (f_Doors_secondRoomOf z i) (f_Doors_costOf z i) a1).2) (f_Doors_secondRoomOf z i) (f_Doors_firstRoomOf z i) (f_Doors_costOf z i) a1).1)), (7, .int ((g_Search_lowerCost z (f_Doors_firstRoomOf z i) (f_Doors_secondRoomOf z i) (f_Doors_costOf z i) a1).1)), (6, .int (f_Doors_costOf z i)), (5, .int (f_Doors_secondRoomOf z i)), (4, .int (f_Doors_firstRoomOf z i)), (3, .int i), (0, .ref (ad 4)), (1, .int a1)]) hx hb d_Search_spreadOverAllDoors_98 rfl hl (by decide) rfl (fun ls hl => ?_)
                refine lv_iinc (v := i + 1) (lv' := [(3, .int (i + 1)), (2, .int 1), (8, .int ((g_Search_lowerCost ((g_Search_lowerCost z (f_Doors_firstRoomOf z i) (f_Doors_secondRoomOf z i) (f_Doors_costOf z i) a1).2) (f_Doors_secondRoomOf z i) (f_Doors_firstRoomOf z i) (f_Doors_costOf z i) a1).1)), (7, .int ((g_Search_lowerCost z (f_Doors_firstRoomOf z i) (f_Doors_secondRoomOf z i) (f_Doors_costOf z i) a1).1)), (6, .int (f_Doors_costOf z i)), (5, .int (f_Doors_secondRoomOf z i)), (4, .int (f_Doors_firstRoomOf z i)), (0, .ref (ad 4)), (1, .int a1)]) hx hb d_Search_spreadOverAllDoors_99 hl (k := 6) rfl rfl (by decide) rfl (fun ls hl => ?_)
                refine lv_goto (tgt := 4) hx hb d_Search_spreadOverAllDoors_102 (by decide) ?_
                exact ih 1 (i + 1) ((g_Search_lowerCost ((g_Search_lowerCost z (f_Doors_firstRoomOf z i) (f_Doors_secondRoomOf z i) (f_Doors_costOf z i) a1).2) (f_Doors_secondRoomOf z i) (f_Doors_firstRoomOf z i) (f_Doors_costOf z i) a1).2) ls H locs ⟨Or.inr rfl, lp_inc hi.2 (by rw [← co_dn hz]; exact c_1) hI0.2.1.2 (by decide)⟩ (co_lower (co_lower hz _ _ _ _) _ _ _ _) (by rw [hq, if_neg c_1, if_neg c_2, if_pos c_3, if_pos c_4, if_neg c_5]) hP hS (lv_sub hl [0, 1, 7, 8] rfl)
  exact loop 81 0 0 x ls H locs ⟨Or.inl rfl, lp_0 (N := 80) hI.2.1 (by decide)⟩ (co_rf x) (rfl) hP hS (lv_sub hl [0, 1, 2, 3] rfl)
theorem co_Lsod {x : ST} (a1 : Int32) : ∀ (k : Nat) (ch i : Int32) (z : ST), co x z → co x (L_Search_spreadOverAllDoors a1 k ch i z).2 := by
  intro k
  induction k with
  | zero => intro ch i z hz; exact hz
  | succ k ih =>
    intro ch i z hz
    rw [L_Search_spreadOverAllDoors_s]
    repeat' split
    all_goals first | with_reducible exact hz | with_reducible exact ih _ _ _ hz | with_reducible exact ih _ _ _ (co_lower (co_lower hz _ _ _ _) _ _ _ _)
theorem co_sod {x z : ST} (hz : co x z) (a1 : Int32) : co x (g_Search_spreadOverAllDoors z a1).2 := co_Lsod a1 _ _ _ z hz
theorem lp_inc40 {i : Int32} {k : Nat} (hi : 0 ≤ i.toInt ∧ i.toInt ≤ 40 ∧ 40 - i.toInt < ((k + 1 : Nat) : Int)) (hc : ¬ 40 ≤ i) : 0 ≤ (i + 1).toInt ∧ (i + 1).toInt ≤ 40 ∧ 40 - (i + 1).toInt < (k : Int) := by
  rw [Int32.le_iff_toInt_le] at hc
  have h2 : (40 : Int32).toInt = 40 := rfl
  have h3 : (1 : Int32).toInt = 1 := rfl
  have e1 : (i + 1).toInt = i.toInt + 1 := by
    rw [Int32.toInt_add, h3]
    exact Int.bmod_eq_of_le (by omega) (by omega)
  omega
theorem ix_40 {i : Int32} {k : Nat} (hi : 0 ≤ i.toInt ∧ i.toInt ≤ 40 ∧ 40 - i.toInt < ((k + 1 : Nat) : Int)) (hc : ¬ 40 ≤ i) : vp_in i 40 := vp_in_iff.mpr (by
  rw [Int32.le_iff_toInt_le] at hc
  have h2 : (40 : Int32).toInt = 40 := rfl
  omega)
def L_Search_spread (a1 : Int32) : Nat → Int32 → Int32 → ST → Int32 × ST
  | 0, _, _, z => (0, z)
  | k + 1, ch, i, z => if ch = 0 then (0, z) else (if 40 ≤ i then (0, z) else L_Search_spread a1 k ((g_Search_spreadOverAllDoors z a1).1) (i + 1) ((g_Search_spreadOverAllDoors z a1).2))
theorem L_Search_spread_s (a1 : Int32) (k : Nat) (ch i : Int32) (z : ST) : L_Search_spread a1 (k + 1) ch i z = if ch = 0 then (0, z) else (if 40 ≤ i then (0, z) else L_Search_spread a1 k ((g_Search_spreadOverAllDoors z a1).1) (i + 1) ((g_Search_spreadOverAllDoors z a1).2)) := rfl
def g_Search_spread (x : ST) (a1 : Int32) : Int32 × ST := L_Search_spread a1 41 1 0 x
set_option maxHeartbeats 400000 in
set_option maxRecDepth 100000 in
theorem u_Search_spread (l : Launch) (dC : Nat → ClassId) (dI : Nat → Nat → Nat) (cI cZ : ClassId) (ad : Nat → Nat) (hj : aInj 29 ad) (x : ST) (hI : CIn x) (sz : Nat) (a1 : Int32) : MX l y_Search_spread (Cond.code y_Search_spread b_Search_spread 4 none :: BW) { frames := 4, cells := 0, slots := 0, locals := 96 } (PCZ sz (dC, dI) [(cI, .int), (cZ, .boolean)] (wC cI cZ ad x) [.ref (ad 4), .int a1]) (UQ none (WB (dC, dI) [(cI, .int), (cZ, .boolean)] (wC cI cZ ad (g_Search_spread x a1).2)) (aC 29 ad sz)) 0 0 (aC 29 ad sz) := by
  refine MX.ofW (cc := b_Search_spread) (maxL := 4) (ret := none) (by decide) rfl ?_
  intro p e s m args below meth c s₁ B hml hex hv
  obtain ⟨hsz, rfl, hP, hK, hN⟩ := hv
  subst hsz
  have hx := B.exec
  have hb := B.bytes
  have hr := B.returns
  have hts := atoms_spec (ws := Cond.code y_Search_spread b_Search_spread 4 none :: BW) B.pre
  have hbw : ∀ w ∈ BW, w.before ([.ref (ad 4), .int a1]).toArray s = true := fun w h => hts w (List.mem_cons_of_mem _ h)
  have hown : s.vm.findClass "PlanRows$Search" = some m.cls := findClass_of_methodNamed B.named
  have hlocks := B.notSynchronized
  have hDx : ∀ z, va_D (aC 29 ad s.heap.size) (wC cI cZ ad z) := fun z => w_D hj (wC_ad cI cZ ad z) _
  have hA : ∀ H : Heap, s.heap.size ≤ H.size → ∀ q, aC 29 ad H.size q → aC 29 ad s.heap.size q := fun H h => aC_le h
  generalize aC 29 ad s.heap.size = A at hDx hA ⊢
  have hD := hDx x
  have hS : va_S A s.heap s.heap [] := va_S.rf
  have hI0 := hI
  have hl := lv_entry ([.ref (ad 4), .int a1]) (n := 4) (Nat.le_of_ble_eq_true rfl)
  rw [lg_entry_eq]
  generalize (lg_sl ([.ref (ad 4), .int a1]) ++ List.replicate (4 - (lg_sl ([.ref (ad 4), .int a1])).length) Slot.unset).toArray = ls at hl ⊢
  obtain ⟨H, hH⟩ : ∃ H, H = s.heap := ⟨_, rfl⟩
  obtain ⟨locs, hlocs⟩ : ∃ locs : List Loc, locs = [] := ⟨_, rfl⟩
  have hP : va_P (dC, dI) clsA (wC cI cZ ad x) H := by rw [hH]; exact hP
  have hS : va_S A s.heap H locs := by rw [hH, hlocs]; exact hS
  rw [← hlocs]
  have hW0 : ∀ (R : Room) (Q : State → Prop) (g : JFrame), W p l e R s m ([.ref (ad 4), .int a1]).toArray below meth c H locs 0 0 Q g → W p l e R s m ([.ref (ad 4), .int a1]).toArray below meth c s.heap locs 0 0 Q g := fun R Q g h => by rw [← hH]; exact h
  refine hW0 _ _ _ ?_
  have hl : lv_has ls 4 [(0, .ref (ad 4)), (1, .int a1)] := hl
  refine lv_iconst (v := 1) hx hb d_Search_spread_0 (by decide) ?_
  refine lv_istore_n (lv' := [(2, .int 1), (0, .ref (ad 4)), (1, .int a1)]) hx hb d_Search_spread_1 rfl hl (by decide) rfl (fun ls hl => ?_)
  refine lv_iconst (v := 0) hx hb d_Search_spread_2 (by decide) ?_
  refine lv_istore_n (lv' := [(3, .int 0), (2, .int 1), (0, .ref (ad 4)), (1, .int a1)]) hx hb d_Search_spread_3 rfl hl (by decide) rfl (fun ls hl => ?_)
  have loop : ∀ (k : Nat) (ch i : Int32) (z : ST) (ls : Array Slot) (H : Heap) (locs : List Loc), 0 ≤ i.toInt ∧ i.toInt ≤ 40 ∧ 40 - i.toInt < ((k : Nat) : Int) → co x z → g_Search_spread x a1 = L_Search_spread a1 k ch i z → va_P (dC, dI) clsA (wC cI cZ ad z) H → va_S A s.heap H locs → lv_has ls 4 [(3, .int i), (2, .int ch), (0, .ref (ad 4)), (1, .int a1)] → W p l e { frames := 4, cells := 0, slots := 0, locals := 96 } s m ([.ref (ad 4), .int a1]).toArray below meth c H locs 0 0 (MQX below (UQ none (WB (dC, dI) [(cI, .int), (cZ, .boolean)] (wC cI cZ ad (g_Search_spread x a1).2)) A) ([.ref (ad 4), .int a1]).toArray s 0 0 A) (F0 m 4 ls []) := by
    intro k
    induction k with
    | zero =>
      intro ch i z ls H locs hi hz hq hP hS hl
      obtain ⟨h1, h2, h3⟩ := hi
      omega
    | succ k ih =>
      intro ch i z ls H locs hi hz hq hP hS hl
      have hq := hq.trans (L_Search_spread_s a1 k ch i z)
      have hI := (ci_co hz hI0)
      have hD := hDx z
      refine lv_iload_n hx hb d_Search_spread_4 rfl (lv_at hl 1 rfl) ?_
      refine lv_if_eq (tgt := 26) hx hb d_Search_spread_5 (by decide) (fun c_1 => ?_) (fun c_1 => ?_)
      · have hg : g_Search_spread x a1 = (0, z) := by rw [hq, if_pos c_1]
        exact W.toX (W.vret hx hb hr (fun t ht hW => ⟨rfl, ⟨by rw [ht, hg]; exact hP, va_K.moved hW.alike hK, hN.warm hW⟩, hS.F ht⟩) hS.2.2 d_Search_spread_26)
      · refine lv_iload_n hx hb d_Search_spread_8 rfl (lv_at hl 0 rfl) ?_
        refine lv_bipush (v := 40) hx hb d_Search_spread_9 (by decide) ?_
        refine lv_icmp_ge (tgt := 26) hx hb d_Search_spread_11 (by decide) (fun c_2 => ?_) (fun c_2 => ?_)
        · have hg : g_Search_spread x a1 = (0, z) := by rw [hq, if_neg c_1, if_pos c_2]
          exact W.toX (W.vret hx hb hr (fun t ht hW => ⟨rfl, ⟨by rw [ht, hg]; exact hP, va_K.moved hW.alike hK, hN.warm hW⟩, hS.F ht⟩) hS.2.2 d_Search_spread_26)
        · refine lv_aload_n hx hb d_Search_spread_14 rfl (lv_at hl 2 rfl) ?_
          refine lv_iload_n hx hb d_Search_spread_15 rfl (lv_at hl 3 rfl) ?_
          refine x_upd (x_runV (C := "PlanRows$Search") (b := (ad 4)) (As := [.int a1]) (rest := []) ⟨hx, hb, hml, hown, hts⟩ (u_Search_spreadOverAllDoors l dC dI cI cZ ad hj z hI H.size a1) (cw_Search_48 hts rfl rfl ⟨Nat.le_of_ble_eq_true rfl, Nat.le_of_ble_eq_true rfl⟩) ⟨PCZ.blind, va_recv hK hP (ci := 6) (q0 := 4) rfl rfl, PCZ.at hK hN hP⟩ rfl rfl hl.1 rfl (lv_room (Nat.le_of_ble_eq_true rfl)) d_Search_spread_16 ⟨Nat.zero_le _, Nat.zero_le _⟩) hS (fun q _ h => hA H hS.1 q h) (fun q h => hA H hS.1 q h) (fun t H1 locs ht hW hB hz1 hk1 hS => ?_)
          obtain ⟨hP, -, -⟩ := hB
          rw [ht] at hP
          generalize H1 = H at hP hS ⊢
          have hD : va_D A (wC cI cZ ad ((g_Search_spreadOverAllDoors z a1).2)) := hDx _
          have hI : CIn ((g_Search_spreadOverAllDoors z a1).2) := ci_co (co_sod hz _) hI0
          refine lv_istore_n (lv' := [(2, .int ((g_Search_spreadOverAllDoors z a1).1)), (3, .int i), (0, .ref (ad 4)), (1, .int a1)]) hx hb d_Search_spread_19 rfl hl (by decide) rfl (fun ls hl => ?_)
          refine lv_iinc (v := i + 1) (lv' := [(3, .int (i + 1)), (2, .int ((g_Search_spreadOverAllDoors z a1).1)), (0, .ref (ad 4)), (1, .int a1)]) hx hb d_Search_spread_20 hl (k := 1) rfl rfl (by decide) rfl (fun ls hl => ?_)
          refine lv_goto (tgt := 4) hx hb d_Search_spread_23 (by decide) ?_
          exact ih ((g_Search_spreadOverAllDoors z a1).1) (i + 1) ((g_Search_spreadOverAllDoors z a1).2) ls H locs (lp_inc40 hi c_2) (co_sod hz _) (by rw [hq, if_neg c_1, if_neg c_2]) hP hS (lv_sub hl [0, 1, 2, 3] rfl)
  exact loop 41 1 0 x ls H locs (by decide) (co_rf x) (rfl) hP hS (lv_sub hl [0, 1, 2, 3] rfl)
theorem co_Lspread {x : ST} (a1 : Int32) : ∀ (k : Nat) (ch i : Int32) (z : ST), co x z → co x (L_Search_spread a1 k ch i z).2 := by
  intro k
  induction k with
  | zero => intro ch i z hz; exact hz
  | succ k ih =>
    intro ch i z hz
    rw [L_Search_spread_s]
    repeat' split
    all_goals first | with_reducible exact hz | with_reducible exact ih _ _ _ (co_sod hz _)
theorem co_spread {x z : ST} (hz : co x z) (a1 : Int32) : co x (g_Search_spread z a1).2 := co_Lspread a1 _ _ _ z hz
theorem co_set {x z : ST} (hz : co x z) (f : Nat → Int32) : co x (s_co z f) := by
  obtain ⟨c, rfl⟩ := hz
  exact ⟨f, rfl⟩
def L_Arr_fill (a2 : Int32) : Nat → Int32 → ST → Int32 × ST
  | 0, _, z => (0, z)
  | k + 1, i, z => if 40 ≤ i then (0, z) else L_Arr_fill a2 k (i + 1) (s_co z (upd (q_co z) i.toNatClampNeg a2))
theorem L_Arr_fill_s (a2 : Int32) (k : Nat) (i : Int32) (z : ST) : L_Arr_fill a2 (k + 1) i z = if 40 ≤ i then (0, z) else L_Arr_fill a2 k (i + 1) (s_co z (upd (q_co z) i.toNatClampNeg a2)) := rfl
def g_Arr_fill (x : ST) (a2 : Int32) : Int32 × ST := L_Arr_fill a2 41 0 x
set_option maxHeartbeats 400000 in
set_option maxRecDepth 100000 in
theorem u_Arr_fill (l : Launch) (dC : Nat → ClassId) (dI : Nat → Nat → Nat) (cI cZ : ClassId) (ad : Nat → Nat) (hj : aInj 29 ad) (x : ST) (hI : CIn x) (sz : Nat) (a2 : Int32) : MX l y_Arr_fill (Cond.code y_Arr_fill b_Arr_fill 4 none :: BW) { frames := 0, cells := 0, slots := 0, locals := 0 } (PCZ sz (dC, dI) [(cI, .int), (cZ, .boolean)] (wC cI cZ ad x) [.ref (ad 17), .int a2]) (UQ none (WB (dC, dI) [(cI, .int), (cZ, .boolean)] (wC cI cZ ad (g_Arr_fill x a2).2)) (aC 29 ad sz)) 0 0 (aC 29 ad sz) := by
  refine MX.ofW (cc := b_Arr_fill) (maxL := 4) (ret := none) (by decide) rfl ?_
  intro p e s m args below meth c s₁ B hml hex hv
  obtain ⟨hsz, rfl, hP, hK, hN⟩ := hv
  subst hsz
  have hx := B.exec
  have hb := B.bytes
  have hr := B.returns
  have hts := atoms_spec (ws := Cond.code y_Arr_fill b_Arr_fill 4 none :: BW) B.pre
  have hbw : ∀ w ∈ BW, w.before ([.ref (ad 17), .int a2]).toArray s = true := fun w h => hts w (List.mem_cons_of_mem _ h)
  have hown : s.vm.findClass "java/util/Arrays" = some m.cls := findClass_of_methodNamed B.named
  have hlocks := B.notSynchronized
  have hDx : ∀ z, va_D (aC 29 ad s.heap.size) (wC cI cZ ad z) := fun z => w_D hj (wC_ad cI cZ ad z) _
  have hA : ∀ H : Heap, s.heap.size ≤ H.size → ∀ q, aC 29 ad H.size q → aC 29 ad s.heap.size q := fun H h => aC_le h
  generalize aC 29 ad s.heap.size = A at hDx hA ⊢
  have hD := hDx x
  have hS : va_S A s.heap s.heap [] := va_S.rf
  have hI0 := hI
  have hl := lv_entry ([.ref (ad 17), .int a2]) (n := 4) (Nat.le_of_ble_eq_true rfl)
  rw [lg_entry_eq]
  generalize (lg_sl ([.ref (ad 17), .int a2]) ++ List.replicate (4 - (lg_sl ([.ref (ad 17), .int a2])).length) Slot.unset).toArray = ls at hl ⊢
  obtain ⟨H, hH⟩ : ∃ H, H = s.heap := ⟨_, rfl⟩
  obtain ⟨locs, hlocs⟩ : ∃ locs : List Loc, locs = [] := ⟨_, rfl⟩
  have hP : va_P (dC, dI) clsA (wC cI cZ ad x) H := by rw [hH]; exact hP
  have hS : va_S A s.heap H locs := by rw [hH, hlocs]; exact hS
  rw [← hlocs]
  have hW0 : ∀ (R : Room) (Q : State → Prop) (g : JFrame), W p l e R s m ([.ref (ad 17), .int a2]).toArray below meth c H locs 0 0 Q g → W p l e R s m ([.ref (ad 17), .int a2]).toArray below meth c s.heap locs 0 0 Q g := fun R Q g h => by rw [← hH]; exact h
  refine hW0 _ _ _ ?_
  have hl : lv_has ls 4 [(0, .ref (ad 17)), (1, .int a2)] := hl
  refine lv_iconst (v := 0) hx hb d_Arr_fill_0 (by decide) ?_
  refine lv_istore_n (lv' := [(2, .int 0), (0, .ref (ad 17)), (1, .int a2)]) hx hb d_Arr_fill_1 rfl hl (by decide) rfl (fun ls hl => ?_)
  refine lv_aload_n hx hb d_Arr_fill_2 rfl (lv_at hl 1 rfl) ?_
  refine va_alen (v := 40) hx hb hK hP 17 0 rfl rfl (by rfl) d_Arr_fill_3 ?_
  refine lv_istore_n (lv' := [(3, .int 40), (2, .int 0), (0, .ref (ad 17)), (1, .int a2)]) hx hb d_Arr_fill_4 rfl hl (by decide) rfl (fun ls hl => ?_)
  have loop : ∀ (k : Nat) (i : Int32) (z : ST) (ls : Array Slot) (H : Heap) (locs : List Loc), 0 ≤ i.toInt ∧ i.toInt ≤ 40 ∧ 40 - i.toInt < ((k : Nat) : Int) → co x z → g_Arr_fill x a2 = L_Arr_fill a2 k i z → va_P (dC, dI) clsA (wC cI cZ ad z) H → va_S A s.heap H locs → lv_has ls 4 [(3, .int 40), (2, .int i), (0, .ref (ad 17)), (1, .int a2)] → W p l e { frames := 0, cells := 0, slots := 0, locals := 0 } s m ([.ref (ad 17), .int a2]).toArray below meth c H locs 0 0 (MQX below (UQ none (WB (dC, dI) [(cI, .int), (cZ, .boolean)] (wC cI cZ ad (g_Arr_fill x a2).2)) A) ([.ref (ad 17), .int a2]).toArray s 0 0 A) (F0 m 5 ls []) := by
    intro k
    induction k with
    | zero =>
      intro i z ls H locs hi hz hq hP hS hl
      obtain ⟨h1, h2, h3⟩ := hi
      omega
    | succ k ih =>
      intro i z ls H locs hi hz hq hP hS hl
      have hq := hq.trans (L_Arr_fill_s a2 k i z)
      have hI := (ci_co hz hI0)
      have hD := hDx z
      refine lv_iload_n hx hb d_Arr_fill_5 rfl (lv_at hl 1 rfl) ?_
      refine lv_iload_n hx hb d_Arr_fill_6 rfl (lv_at hl 0 rfl) ?_
      refine lv_icmp_ge (tgt := 20) hx hb d_Arr_fill_7 (by decide) (fun c_1 => ?_) (fun c_1 => ?_)
      · have hg : g_Arr_fill x a2 = (0, z) := by rw [hq, if_pos c_1]
        exact W.toX (W.vret hx hb hr (fun t ht hW => ⟨rfl, ⟨by rw [ht, hg]; exact hP, va_K.moved hW.alike hK, hN.warm hW⟩, hS.F ht⟩) hS.2.2 d_Arr_fill_20)
      · refine lv_aload_n hx hb d_Arr_fill_10 rfl (lv_at hl 2 rfl) ?_
        refine lv_iload_n hx hb d_Arr_fill_11 rfl (lv_at hl 1 rfl) ?_
        refine lv_iload_n hx hb d_Arr_fill_12 rfl (lv_at hl 3 rfl) ?_
        refine va_iast hx hb hK hP hD hS 17 0 rfl rfl (ix_40 hi c_1) d_Arr_fill_13 (fun H locs hP hD hS => ?_)
        rw [wC_s_co] at hP hD
        refine lv_iinc (v := i + 1) (lv' := [(2, .int (i + 1)), (3, .int 40), (0, .ref (ad 17)), (1, .int a2)]) hx hb d_Arr_fill_14 hl (k := 1) rfl rfl (by decide) rfl (fun ls hl => ?_)
        refine lv_goto (tgt := 5) hx hb d_Arr_fill_17 (by decide) ?_
        exact ih (i + 1) (s_co z (upd (q_co z) i.toNatClampNeg a2)) ls H locs (lp_inc40 hi c_1) (co_set hz _) (by rw [hq, if_neg c_1]) hP hS (lv_sub hl [1, 0, 2, 3] rfl)
  exact loop 41 0 x ls H locs (by decide) (co_rf x) (rfl) hP hS (lv_sub hl [0, 1, 2, 3] rfl)
theorem co_Lfill {x : ST} (a2 : Int32) : ∀ (k : Nat) (i : Int32) (z : ST), co x z → co x (L_Arr_fill a2 k i z).2 := by
  intro k
  induction k with
  | zero => intro i z hz; exact hz
  | succ k ih =>
    intro i z hz
    rw [L_Arr_fill_s]
    repeat' split
    all_goals first | with_reducible exact hz | with_reducible exact ih _ _ (co_set hz _)
theorem co_fill {x z : ST} (hz : co x z) (a2 : Int32) : co x (g_Arr_fill z a2).2 := co_Lfill a2 _ _ z hz
def g_Search_spreadFromRoom (x : ST) (a1 a2 : Int32) : Int32 × ST := if (f_Rooms_has ((g_Arr_fill x 1000000000).2) a1) = 0 then (0, (g_Search_spread ((g_Arr_fill x 1000000000).2) a2).2) else (0, (g_Search_spread (s_co ((g_Arr_fill x 1000000000).2) (upd (q_co ((g_Arr_fill x 1000000000).2)) a1.toNatClampNeg 0)) a2).2)
set_option maxHeartbeats 400000 in
set_option maxRecDepth 100000 in
theorem u_Search_spreadFromRoom (l : Launch) (dC : Nat → ClassId) (dI : Nat → Nat → Nat) (cI cZ : ClassId) (ad : Nat → Nat) (hj : aInj 29 ad) (x : ST) (hI : CIn x) (sz : Nat) (a1 a2 : Int32) : MX l y_Search_spreadFromRoom (Cond.code y_Search_spreadFromRoom b_Search_spreadFromRoom 3 none :: BW) { frames := 5, cells := 0, slots := 0, locals := 119 } (PCZ sz (dC, dI) [(cI, .int), (cZ, .boolean)] (wC cI cZ ad x) [.ref (ad 4), .int a1, .int a2]) (UQ none (WB (dC, dI) [(cI, .int), (cZ, .boolean)] (wC cI cZ ad (g_Search_spreadFromRoom x a1 a2).2)) (aC 29 ad sz)) 0 0 (aC 29 ad sz) := by
  refine MX.ofW (cc := b_Search_spreadFromRoom) (maxL := 3) (ret := none) (by decide) rfl ?_
  intro p e s m args below meth c s₁ B hml hex hv
  obtain ⟨hsz, rfl, hP, hK, hN⟩ := hv
  subst hsz
  have hx := B.exec
  have hb := B.bytes
  have hr := B.returns
  have hts := atoms_spec (ws := Cond.code y_Search_spreadFromRoom b_Search_spreadFromRoom 3 none :: BW) B.pre
  have hbw : ∀ w ∈ BW, w.before ([.ref (ad 4), .int a1, .int a2]).toArray s = true := fun w h => hts w (List.mem_cons_of_mem _ h)
  have hown : s.vm.findClass "PlanRows$Search" = some m.cls := findClass_of_methodNamed B.named
  have hlocks := B.notSynchronized
  have hDx : ∀ z, va_D (aC 29 ad s.heap.size) (wC cI cZ ad z) := fun z => w_D hj (wC_ad cI cZ ad z) _
  have hA : ∀ H : Heap, s.heap.size ≤ H.size → ∀ q, aC 29 ad H.size q → aC 29 ad s.heap.size q := fun H h => aC_le h
  generalize aC 29 ad s.heap.size = A at hDx hA ⊢
  have hD := hDx x
  have hS : va_S A s.heap s.heap [] := va_S.rf
  have hI0 := hI
  have hl := lv_entry ([.ref (ad 4), .int a1, .int a2]) (n := 3) (Nat.le_of_ble_eq_true rfl)
  rw [lg_entry_eq]
  generalize (lg_sl ([.ref (ad 4), .int a1, .int a2]) ++ List.replicate (3 - (lg_sl ([.ref (ad 4), .int a1, .int a2])).length) Slot.unset).toArray = ls at hl ⊢
  obtain ⟨H, hH⟩ : ∃ H, H = s.heap := ⟨_, rfl⟩
  obtain ⟨locs, hlocs⟩ : ∃ locs : List Loc, locs = [] := ⟨_, rfl⟩
  have hP : va_P (dC, dI) clsA (wC cI cZ ad x) H := by rw [hH]; exact hP
  have hS : va_S A s.heap H locs := by rw [hH, hlocs]; exact hS
  rw [← hlocs]
  have hW0 : ∀ (R : Room) (Q : State → Prop) (g : JFrame), W p l e R s m ([.ref (ad 4), .int a1, .int a2]).toArray below meth c H locs 0 0 Q g → W p l e R s m ([.ref (ad 4), .int a1, .int a2]).toArray below meth c s.heap locs 0 0 Q g := fun R Q g h => by rw [← hH]; exact h
  refine hW0 _ _ _ ?_
  have hl : lv_has ls 3 [(0, .ref (ad 4)), (1, .int a1), (2, .int a2)] := hl
  refine lv_aload_n hx hb d_Search_spreadFromRoom_0 rfl (lv_at hl 0 rfl) ?_
  refine va_get (D := (dC, dI)) (ci := 6) (v := .ref (ad 17)) (C := R_Search) (T := F_Search) (N := 4) hx hb hbw in_Search hown hK hP 4 rfl rfl 3 (by decide) (hbw _ w_98) (fun _ h9 => h9) rfl d_Search_spreadFromRoom_1 ?_
  refine lv_ldc (v := 1000000000) hx hb hown (hbw _ w_436) d_Search_spreadFromRoom_4 ?_
  refine x_upd (x_runS (As := [.ref (ad 17), .int 1000000000]) (rest := []) ⟨hx, hb, hml, hown, hts⟩ (u_Arr_fill l dC dI cI cZ ad hj x hI H.size 1000000000) (cw_Search_28 hts rfl rfl ⟨Nat.le_of_ble_eq_true rfl, Nat.le_of_ble_eq_true rfl⟩) ⟨PCZ.blind, PCZ.at hK hN hP⟩ rfl rfl hl.1 rfl (lv_room (Nat.le_of_ble_eq_true rfl)) d_Search_spreadFromRoom_6 ⟨Nat.zero_le _, Nat.zero_le _⟩) hS (fun q _ h => hA H hS.1 q h) (fun q h => hA H hS.1 q h) (fun t H1 locs ht hW hB hz1 hk1 hS => ?_)
  obtain ⟨hP, -, -⟩ := hB
  rw [ht] at hP
  generalize H1 = H at hP hS ⊢
  have hD : va_D A (wC cI cZ ad ((g_Arr_fill x 1000000000).2)) := hDx _
  have hI : CIn ((g_Arr_fill x 1000000000).2) := ci_co (co_fill (co_rf x) _) hI0
  refine lv_aload_n hx hb d_Search_spreadFromRoom_9 rfl (lv_at hl 0 rfl) ?_
  refine va_get (D := (dC, dI)) (ci := 6) (v := .ref (ad 1)) (C := R_Search) (T := F_Search) (N := 4) hx hb hbw in_Search hown hK hP 4 rfl rfl 0 (by decide) (hbw _ w_95) (fun _ h9 => h9) rfl d_Search_spreadFromRoom_10 ?_
  refine lv_iload_n hx hb d_Search_spreadFromRoom_13 rfl (lv_at hl 1 rfl) ?_
  refine xv (As := [.int a1]) (rest := []) (C := "PlanRows$Rooms") ⟨hx, hb, hml, hown, hts⟩ (c_Rooms_has l dC dI cI cZ ad ((g_Arr_fill x 1000000000).2) hI a1) (cw_Search_34 hts rfl rfl ⟨Nat.le_of_ble_eq_true rfl, Nat.le_of_ble_eq_true rfl⟩) hK hN hP 1 rfl rfl rfl rfl hl.1 rfl (Nat.le_of_ble_eq_true rfl) d_Search_spreadFromRoom_14 ⟨Nat.zero_le _, Nat.zero_le _⟩ ?_
  refine lv_if_eq (tgt := 27) hx hb d_Search_spreadFromRoom_17 (by decide) (fun c_1 => ?_) (fun c_1 => ?_)
  · refine lv_aload_n hx hb d_Search_spreadFromRoom_27 rfl (lv_at hl 0 rfl) ?_
    refine lv_iload_n hx hb d_Search_spreadFromRoom_28 rfl (lv_at hl 2 rfl) ?_
    refine x_upd (x_runV (C := "PlanRows$Search") (b := (ad 4)) (As := [.int a2]) (rest := []) ⟨hx, hb, hml, hown, hts⟩ (u_Search_spread l dC dI cI cZ ad hj ((g_Arr_fill x 1000000000).2) hI H.size a2) (cw_Search_40 hts rfl rfl ⟨Nat.le_of_ble_eq_true rfl, Nat.le_of_ble_eq_true rfl⟩) ⟨PCZ.blind, va_recv hK hP (ci := 6) (q0 := 4) rfl rfl, PCZ.at hK hN hP⟩ rfl rfl hl.1 rfl (lv_room (Nat.le_of_ble_eq_true rfl)) d_Search_spreadFromRoom_29 ⟨Nat.zero_le _, Nat.zero_le _⟩) hS (fun q _ h => hA H hS.1 q h) (fun q h => hA H hS.1 q h) (fun t H1 locs ht hW hB hz1 hk1 hS => ?_)
    obtain ⟨hP, -, -⟩ := hB
    rw [ht] at hP
    generalize H1 = H at hP hS ⊢
    have hD : va_D A (wC cI cZ ad ((g_Search_spread ((g_Arr_fill x 1000000000).2) a2).2)) := hDx _
    have hI : CIn ((g_Search_spread ((g_Arr_fill x 1000000000).2) a2).2) := ci_co (co_spread (co_fill (co_rf x) _) _) hI0
    have hg : g_Search_spreadFromRoom x a1 a2 = (0, (g_Search_spread ((g_Arr_fill x 1000000000).2) a2).2) := by unfold g_Search_spreadFromRoom; rw [if_pos c_1]
    exact W.toX (W.vret hx hb hr (fun t ht hW => ⟨rfl, ⟨by rw [ht, hg]; exact hP, va_K.moved hW.alike hK, hN.warm hW⟩, hS.F ht⟩) hS.2.2 d_Search_spreadFromRoom_32)
  · refine lv_aload_n hx hb d_Search_spreadFromRoom_20 rfl (lv_at hl 0 rfl) ?_
    refine va_get (D := (dC, dI)) (ci := 6) (v := .ref (ad 17)) (C := R_Search) (T := F_Search) (N := 4) hx hb hbw in_Search hown hK hP 4 rfl rfl 3 (by decide) (hbw _ w_98) (fun _ h9 => h9) rfl d_Search_spreadFromRoom_21 ?_
    refine lv_iload_n hx hb d_Search_spreadFromRoom_24 rfl (lv_at hl 1 rfl) ?_
    refine lv_iconst (v := 0) hx hb d_Search_spreadFromRoom_25 (by decide) ?_
    refine va_iast hx hb hK hP hD hS 17 0 rfl rfl (ix_rooms (ci_co (co_fill (co_rf x) _) hI0) c_1) d_Search_spreadFromRoom_26 (fun H locs hP hD hS => ?_)
    rw [wC_s_co] at hP hD
    have hI : CIn (s_co ((g_Arr_fill x 1000000000).2) (upd (q_co ((g_Arr_fill x 1000000000).2)) a1.toNatClampNeg 0)) := ci_co (co_set (co_fill (co_rf x) _) _) hI0
    refine lv_aload_n hx hb d_Search_spreadFromRoom_27 rfl (lv_at hl 0 rfl) ?_
    refine lv_iload_n hx hb d_Search_spreadFromRoom_28 rfl (lv_at hl 2 rfl) ?_
    refine x_upd (x_runV (C := "PlanRows$Search") (b := (ad 4)) (As := [.int a2]) (rest := []) ⟨hx, hb, hml, hown, hts⟩ (u_Search_spread l dC dI cI cZ ad hj (s_co ((g_Arr_fill x 1000000000).2) (upd (q_co ((g_Arr_fill x 1000000000).2)) a1.toNatClampNeg 0)) hI H.size a2) (cw_Search_40 hts rfl rfl ⟨Nat.le_of_ble_eq_true rfl, Nat.le_of_ble_eq_true rfl⟩) ⟨PCZ.blind, va_recv hK hP (ci := 6) (q0 := 4) rfl rfl, PCZ.at hK hN hP⟩ rfl rfl hl.1 rfl (lv_room (Nat.le_of_ble_eq_true rfl)) d_Search_spreadFromRoom_29 ⟨Nat.zero_le _, Nat.zero_le _⟩) hS (fun q _ h => hA H hS.1 q h) (fun q h => hA H hS.1 q h) (fun t H1 locs ht hW hB hz1 hk1 hS => ?_)
    obtain ⟨hP, -, -⟩ := hB
    rw [ht] at hP
    generalize H1 = H at hP hS ⊢
    have hD : va_D A (wC cI cZ ad ((g_Search_spread (s_co ((g_Arr_fill x 1000000000).2) (upd (q_co ((g_Arr_fill x 1000000000).2)) a1.toNatClampNeg 0)) a2).2)) := hDx _
    have hI : CIn ((g_Search_spread (s_co ((g_Arr_fill x 1000000000).2) (upd (q_co ((g_Arr_fill x 1000000000).2)) a1.toNatClampNeg 0)) a2).2) := ci_co (co_spread (co_set (co_fill (co_rf x) _) _) _) hI0
    have hg : g_Search_spreadFromRoom x a1 a2 = (0, (g_Search_spread (s_co ((g_Arr_fill x 1000000000).2) (upd (q_co ((g_Arr_fill x 1000000000).2)) a1.toNatClampNeg 0)) a2).2) := by unfold g_Search_spreadFromRoom; rw [if_neg c_1]
    exact W.toX (W.vret hx hb hr (fun t ht hW => ⟨rfl, ⟨by rw [ht, hg]; exact hP, va_K.moved hW.alike hK, hN.warm hW⟩, hS.F ht⟩) hS.2.2 d_Search_spreadFromRoom_32)
def L_Search_spreadFromKind (a1 : Int32) : Nat → Int32 → ST → Int32 × ST
  | 0, _, z => (0, z)
  | k + 1, i, z => if 40 ≤ i then (0, (g_Search_spread z 0).2) else (if (f_Rooms_isOfKind z i a1) = 0 then L_Search_spreadFromKind a1 k (i + 1) (s_co z (upd (q_co z) i.toNatClampNeg 1000000000)) else L_Search_spreadFromKind a1 k (i + 1) (s_co z (upd (q_co z) i.toNatClampNeg 0)))
theorem L_Search_spreadFromKind_s (a1 : Int32) (k : Nat) (i : Int32) (z : ST) : L_Search_spreadFromKind a1 (k + 1) i z = if 40 ≤ i then (0, (g_Search_spread z 0).2) else (if (f_Rooms_isOfKind z i a1) = 0 then L_Search_spreadFromKind a1 k (i + 1) (s_co z (upd (q_co z) i.toNatClampNeg 1000000000)) else L_Search_spreadFromKind a1 k (i + 1) (s_co z (upd (q_co z) i.toNatClampNeg 0))) := rfl
def g_Search_spreadFromKind (x : ST) (a1 : Int32) : Int32 × ST := L_Search_spreadFromKind a1 41 0 x
set_option maxHeartbeats 400000 in
set_option maxRecDepth 100000 in
theorem u_Search_spreadFromKind (l : Launch) (dC : Nat → ClassId) (dI : Nat → Nat → Nat) (cI cZ : ClassId) (ad : Nat → Nat) (hj : aInj 29 ad) (x : ST) (hI : CIn x) (sz : Nat) (a1 : Int32) : MX l y_Search_spreadFromKind (Cond.code y_Search_spreadFromKind b_Search_spreadFromKind 3 none :: BW) { frames := 5, cells := 0, slots := 0, locals := 119 } (PCZ sz (dC, dI) [(cI, .int), (cZ, .boolean)] (wC cI cZ ad x) [.ref (ad 4), .int a1]) (UQ none (WB (dC, dI) [(cI, .int), (cZ, .boolean)] (wC cI cZ ad (g_Search_spreadFromKind x a1).2)) (aC 29 ad sz)) 0 0 (aC 29 ad sz) := by
  refine MX.ofW (cc := b_Search_spreadFromKind) (maxL := 3) (ret := none) (by decide) rfl ?_
  intro p e s m args below meth c s₁ B hml hex hv
  obtain ⟨hsz, rfl, hP, hK, hN⟩ := hv
  subst hsz
  have hx := B.exec
  have hb := B.bytes
  have hr := B.returns
  have hts := atoms_spec (ws := Cond.code y_Search_spreadFromKind b_Search_spreadFromKind 3 none :: BW) B.pre
  have hbw : ∀ w ∈ BW, w.before ([.ref (ad 4), .int a1]).toArray s = true := fun w h => hts w (List.mem_cons_of_mem _ h)
  have hown : s.vm.findClass "PlanRows$Search" = some m.cls := findClass_of_methodNamed B.named
  have hlocks := B.notSynchronized
  have hDx : ∀ z, va_D (aC 29 ad s.heap.size) (wC cI cZ ad z) := fun z => w_D hj (wC_ad cI cZ ad z) _
  have hA : ∀ H : Heap, s.heap.size ≤ H.size → ∀ q, aC 29 ad H.size q → aC 29 ad s.heap.size q := fun H h => aC_le h
  generalize aC 29 ad s.heap.size = A at hDx hA ⊢
  have hD := hDx x
  have hS : va_S A s.heap s.heap [] := va_S.rf
  have hI0 := hI
  have hl := lv_entry ([.ref (ad 4), .int a1]) (n := 3) (Nat.le_of_ble_eq_true rfl)
  rw [lg_entry_eq]
  generalize (lg_sl ([.ref (ad 4), .int a1]) ++ List.replicate (3 - (lg_sl ([.ref (ad 4), .int a1])).length) Slot.unset).toArray = ls at hl ⊢
  obtain ⟨H, hH⟩ : ∃ H, H = s.heap := ⟨_, rfl⟩
  obtain ⟨locs, hlocs⟩ : ∃ locs : List Loc, locs = [] := ⟨_, rfl⟩
  have hP : va_P (dC, dI) clsA (wC cI cZ ad x) H := by rw [hH]; exact hP
  have hS : va_S A s.heap H locs := by rw [hH, hlocs]; exact hS
  rw [← hlocs]
  have hW0 : ∀ (R : Room) (Q : State → Prop) (g : JFrame), W p l e R s m ([.ref (ad 4), .int a1]).toArray below meth c H locs 0 0 Q g → W p l e R s m ([.ref (ad 4), .int a1]).toArray below meth c s.heap locs 0 0 Q g := fun R Q g h => by rw [← hH]; exact h
  refine hW0 _ _ _ ?_
  have hl : lv_has ls 3 [(0, .ref (ad 4)), (1, .int a1)] := hl
  refine lv_iconst (v := 0) hx hb d_Search_spreadFromKind_0 (by decide) ?_
  refine lv_istore_n (lv' := [(2, .int 0), (0, .ref (ad 4)), (1, .int a1)]) hx hb d_Search_spreadFromKind_1 rfl hl (by decide) rfl (fun ls hl => ?_)
  have loop : ∀ (k : Nat) (i : Int32) (z : ST) (ls : Array Slot) (H : Heap) (locs : List Loc), 0 ≤ i.toInt ∧ i.toInt ≤ 40 ∧ 40 - i.toInt < ((k : Nat) : Int) → co x z → g_Search_spreadFromKind x a1 = L_Search_spreadFromKind a1 k i z → va_P (dC, dI) clsA (wC cI cZ ad z) H → va_S A s.heap H locs → lv_has ls 3 [(2, .int i), (0, .ref (ad 4)), (1, .int a1)] → W p l e { frames := 5, cells := 0, slots := 0, locals := 119 } s m ([.ref (ad 4), .int a1]).toArray below meth c H locs 0 0 (MQX below (UQ none (WB (dC, dI) [(cI, .int), (cZ, .boolean)] (wC cI cZ ad (g_Search_spreadFromKind x a1).2)) A) ([.ref (ad 4), .int a1]).toArray s 0 0 A) (F0 m 2 ls []) := by
    intro k
    induction k with
    | zero =>
      intro i z ls H locs hi hz hq hP hS hl
      obtain ⟨h1, h2, h3⟩ := hi
      omega
    | succ k ih =>
      intro i z ls H locs hi hz hq hP hS hl
      have hq := hq.trans (L_Search_spreadFromKind_s a1 k i z)
      have hI := (ci_co hz hI0)
      have hD := hDx z
      refine lv_iload_n hx hb d_Search_spreadFromKind_2 rfl (lv_at hl 0 rfl) ?_
      refine lv_bipush (v := 40) hx hb d_Search_spreadFromKind_3 (by decide) ?_
      refine lv_icmp_ge (tgt := 38) hx hb d_Search_spreadFromKind_5 (by decide) (fun c_1 => ?_) (fun c_1 => ?_)
      · refine lv_aload_n hx hb d_Search_spreadFromKind_38 rfl (lv_at hl 1 rfl) ?_
        refine lv_iconst (v := 0) hx hb d_Search_spreadFromKind_39 (by decide) ?_
        refine x_upd (x_runV (C := "PlanRows$Search") (b := (ad 4)) (As := [.int 0]) (rest := []) ⟨hx, hb, hml, hown, hts⟩ (u_Search_spread l dC dI cI cZ ad hj z hI H.size 0) (cw_Search_40 hts rfl rfl ⟨Nat.le_of_ble_eq_true rfl, Nat.le_of_ble_eq_true rfl⟩) ⟨PCZ.blind, va_recv hK hP (ci := 6) (q0 := 4) rfl rfl, PCZ.at hK hN hP⟩ rfl rfl hl.1 rfl (lv_room (Nat.le_of_ble_eq_true rfl)) d_Search_spreadFromKind_40 ⟨Nat.zero_le _, Nat.zero_le _⟩) hS (fun q _ h => hA H hS.1 q h) (fun q h => hA H hS.1 q h) (fun t H1 locs ht hW hB hz1 hk1 hS => ?_)
        obtain ⟨hP, -, -⟩ := hB
        rw [ht] at hP
        generalize H1 = H at hP hS ⊢
        have hD : va_D A (wC cI cZ ad ((g_Search_spread z 0).2)) := hDx _
        have hI : CIn ((g_Search_spread z 0).2) := ci_co (co_spread hz _) hI0
        have hg : g_Search_spreadFromKind x a1 = (0, (g_Search_spread z 0).2) := by rw [hq, if_pos c_1]
        exact W.toX (W.vret hx hb hr (fun t ht hW => ⟨rfl, ⟨by rw [ht, hg]; exact hP, va_K.moved hW.alike hK, hN.warm hW⟩, hS.F ht⟩) hS.2.2 d_Search_spreadFromKind_43)
      · refine lv_aload_n hx hb d_Search_spreadFromKind_8 rfl (lv_at hl 1 rfl) ?_
        refine va_get (D := (dC, dI)) (ci := 6) (v := .ref (ad 17)) (C := R_Search) (T := F_Search) (N := 4) hx hb hbw in_Search hown hK hP 4 rfl rfl 3 (by decide) (hbw _ w_98) (fun _ h9 => h9) rfl d_Search_spreadFromKind_9 ?_
        refine lv_iload_n hx hb d_Search_spreadFromKind_12 rfl (lv_at hl 0 rfl) ?_
        refine lv_aload_n hx hb d_Search_spreadFromKind_13 rfl (lv_at hl 1 rfl) ?_
        refine va_get (D := (dC, dI)) (ci := 6) (v := .ref (ad 1)) (C := R_Search) (T := F_Search) (N := 4) hx hb hbw in_Search hown hK hP 4 rfl rfl 0 (by decide) (hbw _ w_95) (fun _ h9 => h9) rfl d_Search_spreadFromKind_14 ?_
        refine lv_iload_n hx hb d_Search_spreadFromKind_17 rfl (lv_at hl 0 rfl) ?_
        refine lv_iload_n hx hb d_Search_spreadFromKind_18 rfl (lv_at hl 2 rfl) ?_
        refine xv (As := [.int i, .int a1]) (rest := [.int i, .ref (ad 17)]) (C := "PlanRows$Rooms") ⟨hx, hb, hml, hown, hts⟩ (c_Rooms_isOfKind l dC dI cI cZ ad z hI i a1) (cw_Search_44 hts rfl rfl ⟨Nat.le_of_ble_eq_true rfl, Nat.le_of_ble_eq_true rfl⟩) hK hN hP 1 rfl rfl rfl rfl hl.1 rfl (Nat.le_of_ble_eq_true rfl) d_Search_spreadFromKind_19 ⟨Nat.zero_le _, Nat.zero_le _⟩ ?_
        refine lv_if_eq (tgt := 29) hx hb d_Search_spreadFromKind_22 (by decide) (fun c_2 => ?_) (fun c_2 => ?_)
        · refine lv_ldc (v := 1000000000) hx hb hown (hbw _ w_436) d_Search_spreadFromKind_29 ?_
          refine va_iast hx hb hK hP hD hS 17 0 rfl rfl (ix_40 hi c_1) d_Search_spreadFromKind_31 (fun H locs hP hD hS => ?_)
          rw [wC_s_co] at hP hD
          have hI : CIn (s_co z (upd (q_co z) i.toNatClampNeg 1000000000)) := ci_co (co_set hz _) hI0
          refine lv_iinc (v := i + 1) (lv' := [(2, .int (i + 1)), (0, .ref (ad 4)), (1, .int a1)]) hx hb d_Search_spreadFromKind_32 hl (k := 0) rfl rfl (by decide) rfl (fun ls hl => ?_)
          refine lv_goto (tgt := 2) hx hb d_Search_spreadFromKind_35 (by decide) ?_
          exact ih (i + 1) (s_co z (upd (q_co z) i.toNatClampNeg 1000000000)) ls H locs (lp_inc40 hi c_1) (co_set hz _) (by rw [hq, if_neg c_1, if_pos c_2]) hP hS (lv_sub hl [0, 1, 2] rfl)
        · refine lv_iconst (v := 0) hx hb d_Search_spreadFromKind_25 (by decide) ?_
          refine lv_goto (tgt := 31) hx hb d_Search_spreadFromKind_26 (by decide) ?_
          refine va_iast hx hb hK hP hD hS 17 0 rfl rfl (ix_40 hi c_1) d_Search_spreadFromKind_31 (fun H locs hP hD hS => ?_)
          rw [wC_s_co] at hP hD
          have hI : CIn (s_co z (upd (q_co z) i.toNatClampNeg 0)) := ci_co (co_set hz _) hI0
          refine lv_iinc (v := i + 1) (lv' := [(2, .int (i + 1)), (0, .ref (ad 4)), (1, .int a1)]) hx hb d_Search_spreadFromKind_32 hl (k := 0) rfl rfl (by decide) rfl (fun ls hl => ?_)
          refine lv_goto (tgt := 2) hx hb d_Search_spreadFromKind_35 (by decide) ?_
          exact ih (i + 1) (s_co z (upd (q_co z) i.toNatClampNeg 0)) ls H locs (lp_inc40 hi c_1) (co_set hz _) (by rw [hq, if_neg c_1, if_neg c_2]) hP hS (lv_sub hl [0, 1, 2] rfl)
  exact loop 41 0 x ls H locs (by decide) (co_rf x) (rfl) hP hS (lv_sub hl [0, 1, 2] rfl)
end
section
/-- z is y but for the way's doors and their number -/
def rt (y z : ST) : Prop := ∃ d n, z = s_rl (s_rd y d) n ∧ 0 ≤ n.toInt ∧ n.toInt ≤ 40
theorem rt_rf {y : ST} (hI : CIn y) : rt y y := ⟨q_rd y, q_rl y, rfl, hI.2.2.2.2.2.1, hI.2.2.2.2.2.2⟩
theorem ci_rt {y z : ST} (hz : rt y z) (hI : CIn y) : CIn z := by
  obtain ⟨d, n, rfl, h1, h2⟩ := hz
  exact ⟨hI.1, hI.2.1, hI.2.2.1, hI.2.2.2.1, hI.2.2.2.2.1, h1, h2⟩
theorem rt_add {y z : ST} (hz : rt y z) (a : Int32) : rt y (g_Route_addBefore z a).2 := by
  obtain ⟨d, n, rfl, h1, h2⟩ := hz
  unfold g_Route_addBefore
  by_cases h : 40 ≤ q_rl (s_rl (s_rd y d) n)
  · rw [if_pos h]; exact ⟨d, n, rfl, h1, h2⟩
  · rw [if_neg h]
    have h : ¬ 40 ≤ n := h
    rw [Int32.le_iff_toInt_le] at h
    have h3 : (40 : Int32).toInt = 40 := rfl
    have h4 : (1 : Int32).toInt = 1 := rfl
    have e1 : (n + 1).toInt = n.toInt + 1 := by
      rw [Int32.toInt_add, h4]
      exact Int.bmod_eq_of_le (by omega) (by omega)
    exact ⟨_, n + 1, rfl, by omega, by omega⟩
theorem ci_restart {x : ST} (hI : CIn x) (a b : Int32) : CIn (g_Route_restart x a b).2 := ⟨hI.1, hI.2.1, hI.2.2.1, hI.2.2.2.1, hI.2.2.2.2.1, by show 0 ≤ (0 : Int32).toInt ∧ (0 : Int32).toInt ≤ 40; decide⟩
def L_Search_tellWayTo (a1 : Int32) : Nat → Int32 → Int32 → ST → Int32 × ST
  | 0, _, _, z => (0, z)
  | k + 1, rm, i, z => if 40 ≤ i then (0, z) else (if (f_Search_isReached z rm) = 0 then (0, z) else (if (f_Search_lowestDoorInto z rm) = (-1) then (0, z) else L_Search_tellWayTo a1 k (f_Doors_roomBehind ((g_Route_addBefore z (f_Search_lowestDoorInto z rm)).2) (f_Search_lowestDoorInto z rm) rm) (i + 1) ((g_Route_addBefore z (f_Search_lowestDoorInto z rm)).2)))
theorem L_Search_tellWayTo_s (a1 : Int32) (k : Nat) (rm i : Int32) (z : ST) : L_Search_tellWayTo a1 (k + 1) rm i z = if 40 ≤ i then (0, z) else (if (f_Search_isReached z rm) = 0 then (0, z) else (if (f_Search_lowestDoorInto z rm) = (-1) then (0, z) else L_Search_tellWayTo a1 k (f_Doors_roomBehind ((g_Route_addBefore z (f_Search_lowestDoorInto z rm)).2) (f_Search_lowestDoorInto z rm) rm) (i + 1) ((g_Route_addBefore z (f_Search_lowestDoorInto z rm)).2))) := rfl
def g_Search_tellWayTo (x : ST) (a1 : Int32) : Int32 × ST := L_Search_tellWayTo a1 41 a1 0 ((g_Route_restart x a1 (f_Search_stairsTo x a1)).2)
set_option maxHeartbeats 400000 in
set_option maxRecDepth 100000 in
theorem u_Search_tellWayTo (l : Launch) (dC : Nat → ClassId) (dI : Nat → Nat → Nat) (cI cZ : ClassId) (ad : Nat → Nat) (hj : aInj 29 ad) (x : ST) (hI : CIn x) (sz : Nat) (a1 : Int32) : MX l y_Search_tellWayTo (Cond.code y_Search_tellWayTo b_Search_tellWayTo 6 none :: BW) { frames := 4, cells := 0, slots := 0, locals := 87 } (PCZ sz (dC, dI) [(cI, .int), (cZ, .boolean)] (wC cI cZ ad x) [.ref (ad 4), .int a1, .ref (ad 5)]) (UQ none (WB (dC, dI) [(cI, .int), (cZ, .boolean)] (wC cI cZ ad (g_Search_tellWayTo x a1).2)) (aC 29 ad sz)) 0 0 (aC 29 ad sz) := by
  refine MX.ofW (cc := b_Search_tellWayTo) (maxL := 6) (ret := none) (by decide) rfl ?_
  intro p e s m args below meth c s₁ B hml hex hv
  obtain ⟨hsz, rfl, hP, hK, hN⟩ := hv
  subst hsz
  have hx := B.exec
  have hb := B.bytes
  have hr := B.returns
  have hts := atoms_spec (ws := Cond.code y_Search_tellWayTo b_Search_tellWayTo 6 none :: BW) B.pre
  have hbw : ∀ w ∈ BW, w.before ([.ref (ad 4), .int a1, .ref (ad 5)]).toArray s = true := fun w h => hts w (List.mem_cons_of_mem _ h)
  have hown : s.vm.findClass "PlanRows$Search" = some m.cls := findClass_of_methodNamed B.named
  have hlocks := B.notSynchronized
  have hDx : ∀ z, va_D (aC 29 ad s.heap.size) (wC cI cZ ad z) := fun z => w_D hj (wC_ad cI cZ ad z) _
  have hA : ∀ H : Heap, s.heap.size ≤ H.size → ∀ q, aC 29 ad H.size q → aC 29 ad s.heap.size q := fun H h => aC_le h
  generalize aC 29 ad s.heap.size = A at hDx hA ⊢
  have hD := hDx x
  have hS : va_S A s.heap s.heap [] := va_S.rf
  have hI0 := hI
  have hl := lv_entry ([.ref (ad 4), .int a1, .ref (ad 5)]) (n := 6) (Nat.le_of_ble_eq_true rfl)
  rw [lg_entry_eq]
  generalize (lg_sl ([.ref (ad 4), .int a1, .ref (ad 5)]) ++ List.replicate (6 - (lg_sl ([.ref (ad 4), .int a1, .ref (ad 5)])).length) Slot.unset).toArray = ls at hl ⊢
  obtain ⟨H, hH⟩ : ∃ H, H = s.heap := ⟨_, rfl⟩
  obtain ⟨locs, hlocs⟩ : ∃ locs : List Loc, locs = [] := ⟨_, rfl⟩
  have hP : va_P (dC, dI) clsA (wC cI cZ ad x) H := by rw [hH]; exact hP
  have hS : va_S A s.heap H locs := by rw [hH, hlocs]; exact hS
  rw [← hlocs]
  have hW0 : ∀ (R : Room) (Q : State → Prop) (g : JFrame), W p l e R s m ([.ref (ad 4), .int a1, .ref (ad 5)]).toArray below meth c H locs 0 0 Q g → W p l e R s m ([.ref (ad 4), .int a1, .ref (ad 5)]).toArray below meth c s.heap locs 0 0 Q g := fun R Q g h => by rw [← hH]; exact h
  refine hW0 _ _ _ ?_
  have hl : lv_has ls 6 [(0, .ref (ad 4)), (1, .int a1), (2, .ref (ad 5))] := hl
  refine lv_aload_n hx hb d_Search_tellWayTo_0 rfl (lv_at hl 2 rfl) ?_
  refine lv_iload_n hx hb d_Search_tellWayTo_1 rfl (lv_at hl 1 rfl) ?_
  refine lv_aload_n hx hb d_Search_tellWayTo_2 rfl (lv_at hl 0 rfl) ?_
  refine lv_iload_n hx hb d_Search_tellWayTo_3 rfl (lv_at hl 1 rfl) ?_
  refine xv (As := [.int a1]) (rest := [.int a1, .ref (ad 5)]) (C := "PlanRows$Search") ⟨hx, hb, hml, hown, hts⟩ (c_Search_stairsTo l dC dI cI cZ ad x hI a1) (cw_Search_89 hts rfl rfl ⟨Nat.le_of_ble_eq_true rfl, Nat.le_of_ble_eq_true rfl⟩) hK hN hP 4 rfl rfl rfl rfl hl.1 rfl (Nat.le_of_ble_eq_true rfl) d_Search_tellWayTo_4 ⟨Nat.zero_le _, Nat.zero_le _⟩ ?_
  refine x_upd (x_runV (C := "PlanRows$Route") (b := (ad 5)) (As := [.int a1, .int (f_Search_stairsTo x a1)]) (rest := []) ⟨hx, hb, hml, hown, hts⟩ (u_Route_restart l dC dI cI cZ ad hj x hI H.size a1 (f_Search_stairsTo x a1)) (cw_Search_92 hts rfl rfl ⟨Nat.le_of_ble_eq_true rfl, Nat.le_of_ble_eq_true rfl⟩) ⟨PCZ.blind, va_recv hK hP (ci := 5) (q0 := 5) rfl rfl, PCZ.at hK hN hP⟩ rfl rfl hl.1 rfl (lv_room (Nat.le_of_ble_eq_true rfl)) d_Search_tellWayTo_7 ⟨Nat.zero_le _, Nat.zero_le _⟩) hS (fun q _ h => hA H hS.1 q h) (fun q h => hA H hS.1 q h) (fun t H1 locs ht hW hB hz1 hk1 hS => ?_)
  obtain ⟨hP, -, -⟩ := hB
  rw [ht] at hP
  generalize H1 = H at hP hS ⊢
  have hD : va_D A (wC cI cZ ad ((g_Route_restart x a1 (f_Search_stairsTo x a1)).2)) := hDx _
  have hY : CIn ((g_Route_restart x a1 (f_Search_stairsTo x a1)).2) := ci_restart hI0 _ _
  have hI := hY
  refine lv_iload_n hx hb d_Search_tellWayTo_10 rfl (lv_at hl 1 rfl) ?_
  refine lv_istore_n (lv' := [(3, .int a1), (0, .ref (ad 4)), (1, .int a1), (2, .ref (ad 5))]) hx hb d_Search_tellWayTo_11 rfl hl (by decide) rfl (fun ls hl => ?_)
  refine lv_iconst (v := 0) hx hb d_Search_tellWayTo_12 (by decide) ?_
  refine lv_istore (lv' := [(4, .int 0), (3, .int a1), (0, .ref (ad 4)), (1, .int a1), (2, .ref (ad 5))]) hx hb d_Search_tellWayTo_13 hl (by decide) rfl (fun ls hl => ?_)
  have loop : ∀ (k : Nat) (rm i : Int32) (z : ST) (ls : Array Slot) (H : Heap) (locs : List Loc), 0 ≤ i.toInt ∧ i.toInt ≤ 40 ∧ 40 - i.toInt < ((k : Nat) : Int) → rt ((g_Route_restart x a1 (f_Search_stairsTo x a1)).2) z → g_Search_tellWayTo x a1 = L_Search_tellWayTo a1 k rm i z → va_P (dC, dI) clsA (wC cI cZ ad z) H → va_S A s.heap H locs → lv_has ls 6 [(4, .int i), (3, .int rm), (0, .ref (ad 4)), (1, .int a1), (2, .ref (ad 5))] → W p l e { frames := 4, cells := 0, slots := 0, locals := 87 } s m ([.ref (ad 4), .int a1, .ref (ad 5)]).toArray below meth c H locs 0 0 (MQX below (UQ none (WB (dC, dI) [(cI, .int), (cZ, .boolean)] (wC cI cZ ad (g_Search_tellWayTo x a1).2)) A) ([.ref (ad 4), .int a1, .ref (ad 5)]).toArray s 0 0 A) (F0 m 15 ls []) := by
    intro k
    induction k with
    | zero =>
      intro rm i z ls H locs hi hz hq hP hS hl
      obtain ⟨h1, h2, h3⟩ := hi
      omega
    | succ k ih =>
      intro rm i z ls H locs hi hz hq hP hS hl
      have hq := hq.trans (L_Search_tellWayTo_s a1 k rm i z)
      have hI := (ci_rt hz hY)
      have hD := hDx z
      refine lv_iload hx hb d_Search_tellWayTo_15 (lv_at hl 0 rfl) ?_
      refine lv_bipush (v := 40) hx hb d_Search_tellWayTo_17 (by decide) ?_
      refine lv_icmp_ge (tgt := 67) hx hb d_Search_tellWayTo_19 (by decide) (fun c_1 => ?_) (fun c_1 => ?_)
      · have hg : g_Search_tellWayTo x a1 = (0, z) := by rw [hq, if_pos c_1]
        exact W.toX (W.vret hx hb hr (fun t ht hW => ⟨rfl, ⟨by rw [ht, hg]; exact hP, va_K.moved hW.alike hK, hN.warm hW⟩, hS.F ht⟩) hS.2.2 d_Search_tellWayTo_67)
      · refine lv_aload_n hx hb d_Search_tellWayTo_22 rfl (lv_at hl 2 rfl) ?_
        refine lv_iload_n hx hb d_Search_tellWayTo_23 rfl (lv_at hl 1 rfl) ?_
        refine xv (As := [.int rm]) (rest := []) (C := "PlanRows$Search") ⟨hx, hb, hml, hown, hts⟩ (c_Search_isReached l dC dI cI cZ ad z hI rm) (cw_Search_74 hts rfl rfl ⟨Nat.le_of_ble_eq_true rfl, Nat.le_of_ble_eq_true rfl⟩) hK hN hP 4 rfl rfl rfl rfl hl.1 rfl (Nat.le_of_ble_eq_true rfl) d_Search_tellWayTo_24 ⟨Nat.zero_le _, Nat.zero_le _⟩ ?_
        refine lv_if_eq (tgt := 67) hx hb d_Search_tellWayTo_27 (by decide) (fun c_2 => ?_) (fun c_2 => ?_)
        · have hg : g_Search_tellWayTo x a1 = (0, z) := by rw [hq, if_neg c_1, if_pos c_2]
          exact W.toX (W.vret hx hb hr (fun t ht hW => ⟨rfl, ⟨by rw [ht, hg]; exact hP, va_K.moved hW.alike hK, hN.warm hW⟩, hS.F ht⟩) hS.2.2 d_Search_tellWayTo_67)
        · refine lv_aload_n hx hb d_Search_tellWayTo_30 rfl (lv_at hl 2 rfl) ?_
          refine lv_iload_n hx hb d_Search_tellWayTo_31 rfl (lv_at hl 1 rfl) ?_
          refine xv (As := [.int rm]) (rest := []) (C := "PlanRows$Search") ⟨hx, hb, hml, hown, hts⟩ (c_Search_lowestDoorInto l dC dI cI cZ ad z hI rm) (cw_Search_98 hts rfl rfl ⟨Nat.le_of_ble_eq_true rfl, Nat.le_of_ble_eq_true rfl⟩) hK hN hP 4 rfl rfl rfl rfl hl.1 rfl (Nat.le_of_ble_eq_true rfl) d_Search_tellWayTo_32 ⟨Nat.zero_le _, Nat.zero_le _⟩ ?_
          refine lv_istore (lv' := [(5, .int (f_Search_lowestDoorInto z rm)), (4, .int i), (3, .int rm), (0, .ref (ad 4)), (1, .int a1), (2, .ref (ad 5))]) hx hb d_Search_tellWayTo_35 hl (by decide) rfl (fun ls hl => ?_)
          refine lv_iload hx hb d_Search_tellWayTo_37 (lv_at hl 0 rfl) ?_
          refine lv_iconst (v := (-1)) hx hb d_Search_tellWayTo_39 (by decide) ?_
          refine lv_icmp_ne (tgt := 44) hx hb d_Search_tellWayTo_40 (by decide) (fun c_3 => ?_) (fun c_3 => ?_)
          · refine lv_aload_n hx hb d_Search_tellWayTo_44 rfl (lv_at hl 5 rfl) ?_
            refine lv_iload hx hb d_Search_tellWayTo_45 (lv_at hl 0 rfl) ?_
            refine x_upd (x_runV (C := "PlanRows$Route") (b := (ad 5)) (As := [.int (f_Search_lowestDoorInto z rm)]) (rest := []) ⟨hx, hb, hml, hown, hts⟩ (u_Route_addBefore l dC dI cI cZ ad hj z hI H.size (f_Search_lowestDoorInto z rm)) (cw_Search_101 hts rfl rfl ⟨Nat.le_of_ble_eq_true rfl, Nat.le_of_ble_eq_true rfl⟩) ⟨PCZ.blind, va_recv hK hP (ci := 5) (q0 := 5) rfl rfl, PCZ.at hK hN hP⟩ rfl rfl hl.1 rfl (lv_room (Nat.le_of_ble_eq_true rfl)) d_Search_tellWayTo_47 ⟨Nat.zero_le _, Nat.zero_le _⟩) hS (fun q _ h => hA H hS.1 q h) (fun q h => hA H hS.1 q h) (fun t H1 locs ht hW hB hz1 hk1 hS => ?_)
            obtain ⟨hP, -, -⟩ := hB
            rw [ht] at hP
            generalize H1 = H at hP hS ⊢
            have hD : va_D A (wC cI cZ ad ((g_Route_addBefore z (f_Search_lowestDoorInto z rm)).2)) := hDx _
            have hI : CIn ((g_Route_addBefore z (f_Search_lowestDoorInto z rm)).2) := ci_rt (rt_add hz _) hY
            refine lv_aload_n hx hb d_Search_tellWayTo_50 rfl (lv_at hl 3 rfl) ?_
            refine va_get (D := (dC, dI)) (ci := 6) (v := .ref (ad 2)) (C := R_Search) (T := F_Search) (N := 4) hx hb hbw in_Search hown hK hP 4 rfl rfl 1 (by decide) (hbw _ w_96) (fun _ h9 => h9) rfl d_Search_tellWayTo_51 ?_
            refine lv_iload hx hb d_Search_tellWayTo_54 (lv_at hl 0 rfl) ?_
            refine lv_iload_n hx hb d_Search_tellWayTo_56 rfl (lv_at hl 2 rfl) ?_
            refine xv (As := [.int (f_Search_lowestDoorInto z rm), .int rm]) (rest := []) (C := "PlanRows$Doors") ⟨hx, hb, hml, hown, hts⟩ (c_Doors_roomBehind l dC dI cI cZ ad ((g_Route_addBefore z (f_Search_lowestDoorInto z rm)).2) hI (f_Search_lowestDoorInto z rm) rm) (cw_Search_104 hts rfl rfl ⟨Nat.le_of_ble_eq_true rfl, Nat.le_of_ble_eq_true rfl⟩) hK hN hP 2 rfl rfl rfl rfl hl.1 rfl (Nat.le_of_ble_eq_true rfl) d_Search_tellWayTo_57 ⟨Nat.zero_le _, Nat.zero_le _⟩ ?_
            refine lv_istore_n (lv' := [(3, .int (f_Doors_roomBehind ((g_Route_addBefore z (f_Search_lowestDoorInto z rm)).2) (f_Search_lowestDoorInto z rm) rm)), (5, .int (f_Search_lowestDoorInto z rm)), (4, .int i), (0, .ref (ad 4)), (1, .int a1), (2, .ref (ad 5))]) hx hb d_Search_tellWayTo_60 rfl hl (by decide) rfl (fun ls hl => ?_)
            refine lv_iinc (v := i + 1) (lv' := [(4, .int (i + 1)), (3, .int (f_Doors_roomBehind ((g_Route_addBefore z (f_Search_lowestDoorInto z rm)).2) (f_Search_lowestDoorInto z rm) rm)), (5, .int (f_Search_lowestDoorInto z rm)), (0, .ref (ad 4)), (1, .int a1), (2, .ref (ad 5))]) hx hb d_Search_tellWayTo_61 hl (k := 2) rfl rfl (by decide) rfl (fun ls hl => ?_)
            refine lv_goto (tgt := 15) hx hb d_Search_tellWayTo_64 (by decide) ?_
            exact ih (f_Doors_roomBehind ((g_Route_addBefore z (f_Search_lowestDoorInto z rm)).2) (f_Search_lowestDoorInto z rm) rm) (i + 1) ((g_Route_addBefore z (f_Search_lowestDoorInto z rm)).2) ls H locs (lp_inc40 hi c_1) (rt_add hz _) (by rw [hq, if_neg c_1, if_neg c_2, if_neg c_3]) hP hS (lv_sub hl [0, 1, 3, 4, 5] rfl)
          · have hg : g_Search_tellWayTo x a1 = (0, z) := by rw [hq, if_neg c_1, if_neg c_2, if_pos c_3]
            exact W.toX (W.vret hx hb hr (fun t ht hW => ⟨rfl, ⟨by rw [ht, hg]; exact hP, va_K.moved hW.alike hK, hN.warm hW⟩, hS.F ht⟩) hS.2.2 d_Search_tellWayTo_43)
  exact loop 41 a1 0 ((g_Route_restart x a1 (f_Search_stairsTo x a1)).2) ls H locs (by decide) (rt_rf hY) (rfl) hP hS (lv_sub hl [0, 1, 2, 3, 4] rfl)
def xnm : Nat → String
  | 1 => "java/lang/IllegalArgumentException"
  | 2 => "java/lang/IndexOutOfBoundsException"
  | 3 => "java/lang/IllegalStateException"
  | _ => "java/lang/UnsupportedOperationException"
def xup : List String := ["java/lang/RuntimeException", "java/lang/Exception"]
def xnW : List Cond := [.declares ⟨"java/lang/RuntimeException", "<init>", "(Ljava/lang/String;)V"⟩, .declares ⟨"java/lang/Exception", "<init>", "(Ljava/lang/String;)V"⟩, .declares ⟨"java/lang/Throwable", "<init>", "(Ljava/lang/String;)V"⟩, .castable (xnm 1) (xnm 1), .castable (xnm 2) (xnm 2), .castable (xnm 3) (xnm 3), .castable (xnm 4) (xnm 4)]
def xhW : List Cond := [.isRef (.static Bundle.tN "UNASSIGNED_STACK" Bundle.steD), .isRef (.static Bundle.tN "SUPPRESSED_SENTINEL" Bundle.listD), .laysStatic Bundle.tN "UNASSIGNED_STACK" Bundle.steD, .laysStatic Bundle.tN "SUPPRESSED_SENTINEL" Bundle.listD]
def strL : List (Nat × String) := [(217, "no such kind of rooms"), (222, "a number is outside its range"), (229, "there is no room for one more"), (212, "no such room"), (103, "a door joins two rooms of the same or neighbouring floors"), (117, "no such key"), (123, "the key is so already"), (225, "a place is below 0"), (161, "no such thing is told of a way"), (175, "the detector is told already"), (181, "no such floor"), (215, "no such window"), (209, "no such thing is counted")]
/-- where a static field lies, its class's statics cell in H -/
def vx_L (C n d : String) (A : Nat → Prop) (U : State) (H : Heap) : Prop := ∃ (c : ClassId) (k : Class) (i : Nat) (f : Field) (a : Nat) (cell : Cell), U.vm.findClass C = some c ∧ U.fieldFound? C n d = some (c, k, i, f) ∧ f.isStatic = true ∧ k.statics = some a ∧ H[a]? = some cell ∧ cell.vm.isStatics = true ∧ cell.cls = c ∧ f.slot < cell.slots.size ∧ k.staticTypes[f.slot]? = some f.type ∧ ¬ A a
theorem vx_L.moved {C n d : String} {A : Nat → Prop} {u U : State} {H : Heap} (hvm : u.vm.Alike U.vm) (h : vx_L C n d A u H) : vx_L C n d A U H := by
  obtain ⟨c, k, i, f, a, cell, h1, h2, h3, h4, h5, h6, h7, h8, h9, h10⟩ := h
  obtain ⟨k', hi', he⟩ := State.fieldFound?_setVm hvm h2
  exact ⟨c, k', i, f, a, cell, by rw [hvm.findClass]; exact h1, hi', h3, by rw [he]; exact h4, h5, h6, h7, h8, by rw [he]; exact h9, h10⟩
theorem vx_L.kept {C n d : String} {A : Nat → Prop} {U : State} {H H1 : Heap} (h : vx_L C n d A U H) (hq : ∀ a : Nat, a < H.size → ¬ A a → H1[a]? = H[a]?) : vx_L C n d A U H1 := by
  obtain ⟨c, k, i, f, a, cell, h1, h2, h3, h4, h5, h6, h7, h8, h9, h10⟩ := h
  exact ⟨c, k, i, f, a, cell, h1, h2, h3, h4, by rw [hq a (Array.getElem?_eq_some_iff.mp h5).1 h10]; exact h5, h6, h7, h8, h9, h10⟩
theorem vx_L.narrow {C n d : String} {A B : Nat → Prop} {U : State} {H : Heap} (h : vx_L C n d A U H) (hAB : ∀ q, B q → A q) : vx_L C n d B U H := by
  obtain ⟨c, k, i, f, a, cell, h1, h2, h3, h4, h5, h6, h7, h8, h9, h10⟩ := h
  exact ⟨c, k, i, f, a, cell, h1, h2, h3, h4, h5, h6, h7, h8, h9, fun z => h10 (hAB _ z)⟩
theorem vx_L.word {C n d : String} {A : Nat → Prop} {s : State} {args : Array Value} (h : vx_L C n d A s s.heap) : (Cond.laysStatic C n d).before args s = true := by
  obtain ⟨c, k, i, f, a, cell, h1, h2, h3, h4, h5, h6, h7, h8, h9, -⟩ := h
  show (Cond.laysStatic C n d).holds args s none s [] = true
  exact Cond.laysStatic_of h1 h2 h3 h4 h5 h6 h7 h8 h9
/-- .. and what it holds: null or some reference -/
def vx_Zq (C n d : String) (A : Nat → Prop) (U : State) (H : Heap) : Prop := va_Zq C n d A U H ∧ vx_L C n d A U H
theorem vx_Zq.moved {C n d : String} {A : Nat → Prop} {u U : State} {H : Heap} (hvm : u.vm.Alike U.vm) (h : vx_Zq C n d A u H) : vx_Zq C n d A U H := ⟨va_Zq.moved hvm h.1, vx_L.moved hvm h.2⟩
theorem vx_Zq.kept {C n d : String} {A : Nat → Prop} {U : State} {H H1 : Heap} (h : vx_Zq C n d A U H) (hq : ∀ a : Nat, a < H.size → ¬ A a → H1[a]? = H[a]?) : vx_Zq C n d A U H1 := ⟨va_Zq.kept h.1 hq, vx_L.kept h.2 hq⟩
theorem vx_Zq.narrow {C n d : String} {A B : Nat → Prop} {U : State} {H : Heap} (h : vx_Zq C n d A U H) (hAB : ∀ q, B q → A q) : vx_Zq C n d B U H := ⟨va_Zq.narrow h.1 hAB, vx_L.narrow h.2 hAB⟩
theorem vx_Zqof {args : Array Value} {s : State} {C n d : String} {A : Nat → Prop} (hl : (Cond.laysStatic C n d).before args s = true) (hini : (Cond.initialized C).before args s = true) (h : (Cond.isRef (.static C n d)).before args s = true) (hA : ∀ a : Nat, a < s.heap.size → ¬ A a) : vx_Zq C n d A s s.heap := by
  refine ⟨va_Zqof hl hini h hA, ?_⟩
  obtain ⟨c, k, i, f, a, cell, h1, h2, h3, h4, h5, h6, h7, h8, h9⟩ := Cond.laysStatic_spec hl
  exact ⟨c, k, i, f, a, cell, h1, h2, h3, h4, h5, h6, h7, h8, h9, hA a (Array.getElem?_eq_some_iff.mp h5).1⟩
theorem vx_isRef {C n d : String} {v : Value} {A : Nat → Prop} {s : State} {args : Array Value} (h : va_Z C n d v A s s.heap) (hv : v.isRef = true) : (Cond.isRef (.static C n d)).before args s = true := by
  obtain ⟨cf, kf, fi, f, a, cell, h1, h2, h3, h4, h5, h6, h7, -⟩ := h
  have he : (Term.static C n d).eval args s none [] s = some v := by
    simp [Term.eval, State.fieldNamed?, h1, h2, h4, h5, h6, h7]
  simp only [Cond.before, Cond.holds, Cond.value, he]
  cases v <;> simp_all [Value.isRef]
theorem vx_isRefq {C n d : String} {A : Nat → Prop} {s : State} {args : Array Value} (h : va_Zq C n d A s s.heap) : (Cond.isRef (.static C n d)).before args s = true := by
  rcases h with h | ⟨t, h⟩
  · exact vx_isRef h rfl
  · exact vx_isRef h rfl
/-- what a throw needs beside the tables' good words -/
def EX (U : State) : Prop := (∀ w ∈ xnW, va_Nw w U) ∧ vx_Zq Bundle.tN "UNASSIGNED_STACK" Bundle.steD (fun _ => False) U U.heap ∧ vx_Zq Bundle.tN "SUPPRESSED_SENTINEL" Bundle.listD (fun _ => False) U U.heap ∧ ∀ q ∈ strL, ∃ a, vk_R "PlanRows" q.1 q.2 a U
theorem xn_castW {a b : String} {s U : State} (hW : s.WarmedH U.vm) (hZ : va_Nw (.castable a b) s) : va_Nw (.castable a b) U := va_tabs rfl (rfl : (s.setVm U.vm).vm = U.vm) (by rw [Cond.castable_setVm hW.alike]; exact hZ)
theorem EX.warm {s U : State} (hW : s.WarmedH U.vm) (hH : U.heap = s.heap) (h : EX s) : EX U := by
  obtain ⟨h1, h2, h3, h4⟩ := h
  refine ⟨fun w hw => ?_, by rw [hH]; exact vx_Zq.moved hW.alike h2, by rw [hH]; exact vx_Zq.moved hW.alike h3, fun q hq => ?_⟩
  · have h5 := h1 w hw
    simp only [xnW, List.mem_cons, List.not_mem_nil, or_false] at hw
    rcases hw with rfl | rfl | rfl | rfl | rfl | rfl | rfl <;> first | exact va_Nw.warmD hW h5 | exact xn_castW hW h5
  · obtain ⟨a, ha⟩ := h4 q hq
    exact ⟨a, ha.warm hW⟩
theorem xn_ot : ∀ w ∈ xnW, w.onTables = true := by decide +kernel
theorem EX.hat {s : State} {args : Array Value} {L : List Cond} (hE : EX s) (hbw : ∀ w ∈ BW, w.before args s = true) (hL : ∀ w ∈ L, w ∈ BW ∨ w ∈ xnW ∨ w ∈ xhW) : ∀ w ∈ L, w.before args s = true := by
  intro w hw
  rcases hL w hw with h | h | h
  · exact hbw w h
  · exact va_Nw.use (xn_ot w h) (hE.1 w h)
  · simp only [xhW, List.mem_cons, List.not_mem_nil, or_false] at h
    rcases h with rfl | rfl | rfl | rfl
    · exact vx_isRefq hE.2.1.1
    · exact vx_isRefq hE.2.2.1.1
    · exact vx_L.word hE.2.1.2
    · exact vx_L.word hE.2.2.1.2
/-- a contract's start of a method that throws -/
def PX (D : va_G) (tys : List (ClassId × FieldType)) (ww : va_W) (av : List Value) : Array Value → State → Prop := fun v U => EX U ∧ PC D tys ww av v U
theorem PX.blind {D : va_G} {tys : List (ClassId × FieldType)} {ww : va_W} {av : List Value} : FrameBlind (PX D tys ww av) := fun a U g mk q => ⟨EX.warm (s := U) (U := U.calling g mk a) (State.WarmedH.refl U) rfl q.1, PC.blind a U g mk q.2⟩
theorem PX.at {s : State} {D : va_G} {tys : List (ClassId × FieldType)} {ww : va_W} {av : List Value} (hE : EX s) (hK : va_K D clsA tys s) (hN : NW s) (hP : va_P D clsA ww s.heap) : ∀ U : State, U.heap = s.heap → s.WarmedH U.vm → PX D tys ww av av.toArray U := fun U hU hW => ⟨hE.warm hW hU, PC.at hK hN hP U hU hW⟩
end
section
set_option maxRecDepth 100000 in
theorem ow_1 : ∀ w ∈ Bundle.ownAtoms "PlanRows" 119 (xnm 1) xup, w ∈ BW ∨ w ∈ xnW ∨ w ∈ xhW := by decide +kernel
set_option maxRecDepth 100000 in
theorem ow_2 : ∀ w ∈ Bundle.ownAtoms "PlanRows" 224 (xnm 2) xup, w ∈ BW ∨ w ∈ xnW ∨ w ∈ xhW := by decide +kernel
set_option maxRecDepth 100000 in
theorem ow_3 : ∀ w ∈ Bundle.ownAtoms "PlanRows" 105 (xnm 3) xup, w ∈ BW ∨ w ∈ xnW ∨ w ∈ xhW := by decide +kernel
set_option maxRecDepth 100000 in
theorem ow_4 : ∀ w ∈ Bundle.ownAtoms "PlanRows" 231 (xnm 4) xup, w ∈ BW ∨ w ∈ xnW ∨ w ∈ xhW := by decide +kernel
end
