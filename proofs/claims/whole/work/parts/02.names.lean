/-! names of the classes, their fields by slots, the methods, the cells of the world -/
def R_BP : String := "BlownByAll$BribePlan"
def F_BP : u_T := fun k => match k with
  | 0 => ("BlownByAll$BribePlan", "pipes", "LBlownByAll$Pipes;", true)
  | 1 => ("BlownByAll$BribePlan", "people", "LBlownByAll$People;", true)
  | 2 => ("BlownByAll$BribePlan", "mass", "LBlownByAll$Mass;", true)
  | 3 => ("BlownByAll$BribePlan", "pipe", "I", false)
  | 4 => ("BlownByAll$BribePlan", "fewest", "I", false)
  | _ => ("BlownByAll$BribePlan", "bits", "I", false)
def t_BP : Nat → FieldType := fun k => match k with
  | 0 => .object "BlownByAll$Pipes"
  | 1 => .object "BlownByAll$People"
  | 2 => .object "BlownByAll$Mass"
  | 3 => .int
  | 4 => .int
  | _ => .int
theorem n_BP : ∀ a, a < 6 → ∀ b, b < 6 → a ≠ b → (F_BP a).2.1 ≠ (F_BP b).2.1 := by decide +kernel
theorem t_BP_ok : ∀ k, k < 6 → parseFieldDescriptor (F_BP k).2.2.1 = some (t_BP k) := by decide +kernel
theorem i_BP : ∀ w ∈ u_ws R_BP F_BP 6, w ∈ lw_tbl := by decide +kernel
def R_MA : String := "BlownByAll$Mass"
def F_MA : u_T := fun k => match k with
  | 0 => ("BlownByAll$Mass", "pipes", "LBlownByAll$Pipes;", true)
  | 1 => ("BlownByAll$Mass", "people", "LBlownByAll$People;", true)
  | 2 => ("BlownByAll$Mass", "wind", "[I", true)
  | 3 => ("BlownByAll$Mass", "held", "[I", true)
  | _ => ("BlownByAll$Mass", "missing", "[I", true)
def t_MA : Nat → FieldType := fun k => match k with
  | 0 => .object "BlownByAll$Pipes"
  | 1 => .object "BlownByAll$People"
  | 2 => .array .int
  | 3 => .array .int
  | _ => .array .int
theorem n_MA : ∀ a, a < 5 → ∀ b, b < 5 → a ≠ b → (F_MA a).2.1 ≠ (F_MA b).2.1 := by decide +kernel
theorem t_MA_ok : ∀ k, k < 5 → parseFieldDescriptor (F_MA k).2.2.1 = some (t_MA k) := by decide +kernel
theorem i_MA : ∀ w ∈ u_ws R_MA F_MA 5, w ∈ lw_tbl := by decide +kernel
def R_PE : String := "BlownByAll$People"
def F_PE : u_T := fun k => match k with
  | 0 => ("BlownByAll$People", "count", "I", false)
  | 1 => ("BlownByAll$People", "late", "I", false)
  | 2 => ("BlownByAll$People", "room", "I", false)
  | 3 => ("BlownByAll$People", "lungs", "[I", true)
  | 4 => ("BlownByAll$People", "force", "[I", true)
  | 5 => ("BlownByAll$People", "place", "[I", true)
  | 6 => ("BlownByAll$People", "phase", "[I", true)
  | _ => ("BlownByAll$People", "bribed", "[Z", true)
def t_PE : Nat → FieldType := fun k => match k with
  | 0 => .int
  | 1 => .int
  | 2 => .int
  | 3 => .array .int
  | 4 => .array .int
  | 5 => .array .int
  | 6 => .array .int
  | _ => .array .boolean
theorem n_PE : ∀ a, a < 8 → ∀ b, b < 8 → a ≠ b → (F_PE a).2.1 ≠ (F_PE b).2.1 := by decide +kernel
theorem t_PE_ok : ∀ k, k < 8 → parseFieldDescriptor (F_PE k).2.2.1 = some (t_PE k) := by decide +kernel
theorem i_PE : ∀ w ∈ u_ws R_PE F_PE 8, w ∈ lw_tbl := by decide +kernel
def R_PH : String := "BlownByAll$PhasePlan"
def F_PH : u_T := fun k => match k with
  | 0 => ("BlownByAll$PhasePlan", "people", "LBlownByAll$People;", true)
  | 1 => ("BlownByAll$PhasePlan", "mass", "LBlownByAll$Mass;", true)
  | 2 => ("BlownByAll$PhasePlan", "sitters", "[I", true)
  | 3 => ("BlownByAll$PhasePlan", "tried", "[I", true)
  | 4 => ("BlownByAll$PhasePlan", "best", "[I", true)
  | 5 => ("BlownByAll$PhasePlan", "toCome", "[I", true)
  | 6 => ("BlownByAll$PhasePlan", "pipe", "I", false)
  | 7 => ("BlownByAll$PhasePlan", "sitting", "I", false)
  | _ => ("BlownByAll$PhasePlan", "least", "I", false)
def t_PH : Nat → FieldType := fun k => match k with
  | 0 => .object "BlownByAll$People"
  | 1 => .object "BlownByAll$Mass"
  | 2 => .array .int
  | 3 => .array .int
  | 4 => .array .int
  | 5 => .array .int
  | 6 => .int
  | 7 => .int
  | _ => .int
theorem n_PH : ∀ a, a < 9 → ∀ b, b < 9 → a ≠ b → (F_PH a).2.1 ≠ (F_PH b).2.1 := by decide +kernel
theorem t_PH_ok : ∀ k, k < 9 → parseFieldDescriptor (F_PH k).2.2.1 = some (t_PH k) := by decide +kernel
theorem i_PH : ∀ w ∈ u_ws R_PH F_PH 9, w ∈ lw_tbl := by decide +kernel
def R_PI : String := "BlownByAll$Pipes"
def F_PI : u_T := fun k => match k with
  | 0 => ("BlownByAll$Pipes", "count", "I", false)
  | 1 => ("BlownByAll$Pipes", "beats", "I", false)
  | 2 => ("BlownByAll$Pipes", "thirst", "[I", true)
  | _ => ("BlownByAll$Pipes", "sounding", "[I", true)
def t_PI : Nat → FieldType := fun k => match k with
  | 0 => .int
  | 1 => .int
  | 2 => .array .int
  | _ => .array .int
theorem n_PI : ∀ a, a < 4 → ∀ b, b < 4 → a ≠ b → (F_PI a).2.1 ≠ (F_PI b).2.1 := by decide +kernel
theorem t_PI_ok : ∀ k, k < 4 → parseFieldDescriptor (F_PI k).2.2.1 = some (t_PI k) := by decide +kernel
theorem i_PI : ∀ w ∈ u_ws R_PI F_PI 4, w ∈ lw_tbl := by decide +kernel
def R_SC : String := "BlownByAll$Script"
def F_SC : u_T := fun k => match k with
  | 0 => ("BlownByAll$Script", "signs", "[B", true)
  | 1 => ("BlownByAll$Script", "length", "I", false)
  | 2 => ("BlownByAll$Script", "at", "I", false)
  | 3 => ("BlownByAll$Script", "pipesRead", "I", false)
  | 4 => ("BlownByAll$Script", "peopleRead", "I", false)
  | _ => ("BlownByAll$Script", "beatsRead", "I", false)
def t_SC : Nat → FieldType := fun k => match k with
  | 0 => .array .byte
  | 1 => .int
  | 2 => .int
  | 3 => .int
  | 4 => .int
  | _ => .int
theorem n_SC : ∀ a, a < 6 → ∀ b, b < 6 → a ≠ b → (F_SC a).2.1 ≠ (F_SC b).2.1 := by decide +kernel
theorem t_SC_ok : ∀ k, k < 6 → parseFieldDescriptor (F_SC k).2.2.1 = some (t_SC k) := by decide +kernel
theorem i_SC : ∀ w ∈ u_ws R_SC F_SC 6, w ∈ lw_tbl := by decide +kernel
def R_SE : String := "BlownByAll$SeatPlan"
def F_SE : u_T := fun k => match k with
  | 0 => ("BlownByAll$SeatPlan", "pipes", "LBlownByAll$Pipes;", true)
  | 1 => ("BlownByAll$SeatPlan", "people", "LBlownByAll$People;", true)
  | 2 => ("BlownByAll$SeatPlan", "mass", "LBlownByAll$Mass;", true)
  | 3 => ("BlownByAll$SeatPlan", "price", "[I", true)
  | _ => ("BlownByAll$SeatPlan", "best", "[I", true)
def t_SE : Nat → FieldType := fun k => match k with
  | 0 => .object "BlownByAll$Pipes"
  | 1 => .object "BlownByAll$People"
  | 2 => .object "BlownByAll$Mass"
  | 3 => .array .int
  | _ => .array .int
theorem n_SE : ∀ a, a < 5 → ∀ b, b < 5 → a ≠ b → (F_SE a).2.1 ≠ (F_SE b).2.1 := by decide +kernel
theorem t_SE_ok : ∀ k, k < 5 → parseFieldDescriptor (F_SE k).2.2.1 = some (t_SE k) := by decide +kernel
theorem i_SE : ∀ w ∈ u_ws R_SE F_SE 5, w ∈ lw_tbl := by decide +kernel
def R_SN : String := "BlownByAll$Sneezes"
def F_SN : u_T := fun k => match k with
  | 0 => ("BlownByAll$Sneezes", "pipes", "LBlownByAll$Pipes;", true)
  | 1 => ("BlownByAll$Sneezes", "people", "LBlownByAll$People;", true)
  | 2 => ("BlownByAll$Sneezes", "cases", "[J", true)
  | 3 => ("BlownByAll$Sneezes", "all", "J", false)
  | 4 => ("BlownByAll$Sneezes", "above", "J", false)
  | _ => ("BlownByAll$Sneezes", "below", "J", false)
def t_SN : Nat → FieldType := fun k => match k with
  | 0 => .object "BlownByAll$Pipes"
  | 1 => .object "BlownByAll$People"
  | 2 => .array .long
  | 3 => .long
  | 4 => .long
  | _ => .long
theorem n_SN : ∀ a, a < 6 → ∀ b, b < 6 → a ≠ b → (F_SN a).2.1 ≠ (F_SN b).2.1 := by decide +kernel
theorem t_SN_ok : ∀ k, k < 6 → parseFieldDescriptor (F_SN k).2.2.1 = some (t_SN k) := by decide +kernel
theorem i_SN : ∀ w ∈ u_ws R_SN F_SN 6, w ∈ lw_tbl := by decide +kernel
def R_BB : String := "BlownByAll"
def F_BB : u_T := fun k => match k with
  | 0 => ("BlownByAll", "script", "LBlownByAll$Script;", true)
  | 1 => ("BlownByAll", "pipes", "LBlownByAll$Pipes;", true)
  | 2 => ("BlownByAll", "people", "LBlownByAll$People;", true)
  | 3 => ("BlownByAll", "mass", "LBlownByAll$Mass;", true)
  | 4 => ("BlownByAll", "phasePlan", "LBlownByAll$PhasePlan;", true)
  | 5 => ("BlownByAll", "seatPlan", "LBlownByAll$SeatPlan;", true)
  | 6 => ("BlownByAll", "bribePlan", "LBlownByAll$BribePlan;", true)
  | 7 => ("BlownByAll", "sneezes", "LBlownByAll$Sneezes;", true)
  | 8 => ("BlownByAll", "slots", "[LBlownByAll$People;", true)
  | _ => ("BlownByAll", "kept", "[Z", true)
def t_BB : Nat → FieldType := fun k => match k with
  | 0 => .object "BlownByAll$Script"
  | 1 => .object "BlownByAll$Pipes"
  | 2 => .object "BlownByAll$People"
  | 3 => .object "BlownByAll$Mass"
  | 4 => .object "BlownByAll$PhasePlan"
  | 5 => .object "BlownByAll$SeatPlan"
  | 6 => .object "BlownByAll$BribePlan"
  | 7 => .object "BlownByAll$Sneezes"
  | 8 => .array (.object "BlownByAll$People")
  | _ => .array .boolean
theorem n_BB : ∀ a, a < 10 → ∀ b, b < 10 → a ≠ b → (F_BB a).2.1 ≠ (F_BB b).2.1 := by decide +kernel
theorem t_BB_ok : ∀ k, k < 10 → parseFieldDescriptor (F_BB k).2.2.1 = some (t_BB k) := by decide +kernel
theorem i_BB : ∀ w ∈ u_ws R_BB F_BB 10, w ∈ lw_tbl := by decide +kernel
def R_MO : String := "BlownByAllModel"
def F_MO : u_T := fun k => match k with
  | 0 => ("BlownByAllModel", "readDrinks", "[I", true)
  | 1 => ("BlownByAllModel", "readPeople", "[I", true)
  | 2 => ("BlownByAllModel", "readBeats", "[I", true)
  | 3 => ("BlownByAllModel", "readPipes", "I", false)
  | 4 => ("BlownByAllModel", "readMany", "I", false)
  | 5 => ("BlownByAllModel", "readLong", "I", false)
  | 6 => ("BlownByAllModel", "drinks", "[I", true)
  | 7 => ("BlownByAllModel", "people", "[I", true)
  | 8 => ("BlownByAllModel", "beats", "[I", true)
  | 9 => ("BlownByAllModel", "pipes", "I", false)
  | 10 => ("BlownByAllModel", "many", "I", false)
  | 11 => ("BlownByAllModel", "beatMany", "I", false)
  | 12 => ("BlownByAllModel", "late", "I", false)
  | 13 => ("BlownByAllModel", "most", "I", false)
  | 14 => ("BlownByAllModel", "text", "[I", true)
  | 15 => ("BlownByAllModel", "length", "I", false)
  | 16 => ("BlownByAllModel", "at", "I", false)
  | 17 => ("BlownByAllModel", "faultAt", "I", false)
  | 18 => ("BlownByAllModel", "lacks", "[I", true)
  | 19 => ("BlownByAllModel", "stores", "[I", true)
  | 20 => ("BlownByAllModel", "wasPhase", "[I", true)
  | 21 => ("BlownByAllModel", "bestPhase", "[I", true)
  | 22 => ("BlownByAllModel", "lacking", "[I", true)
  | 23 => ("BlownByAllModel", "bestSeat", "[I", true)
  | 24 => ("BlownByAllModel", "sets", "[I", true)
  | 25 => ("BlownByAllModel", "wasBribed", "[I", true)
  | 26 => ("BlownByAllModel", "ways", "[J", true)
  | 27 => ("BlownByAllModel", "whole", "J", false)
  | 28 => ("BlownByAllModel", "isKept", "[Z", true)
  | 29 => ("BlownByAllModel", "keptPeople", "[I", true)
  | _ => ("BlownByAllModel", "keptRest", "[I", true)
def t_MO : Nat → FieldType := fun k => match k with
  | 0 => .array .int
  | 1 => .array .int
  | 2 => .array .int
  | 3 => .int
  | 4 => .int
  | 5 => .int
  | 6 => .array .int
  | 7 => .array .int
  | 8 => .array .int
  | 9 => .int
  | 10 => .int
  | 11 => .int
  | 12 => .int
  | 13 => .int
  | 14 => .array .int
  | 15 => .int
  | 16 => .int
  | 17 => .int
  | 18 => .array .int
  | 19 => .array .int
  | 20 => .array .int
  | 21 => .array .int
  | 22 => .array .int
  | 23 => .array .int
  | 24 => .array .int
  | 25 => .array .int
  | 26 => .array .long
  | 27 => .long
  | 28 => .array .boolean
  | 29 => .array .int
  | _ => .array .int
theorem n_MO : ∀ a, a < 31 → ∀ b, b < 31 → a ≠ b → (F_MO a).2.1 ≠ (F_MO b).2.1 := by decide +kernel
theorem t_MO_ok : ∀ k, k < 31 → parseFieldDescriptor (F_MO k).2.2.1 = some (t_MO k) := by decide +kernel
theorem i_MO : ∀ w ∈ u_ws R_MO F_MO 31, w ∈ lw_tbl := by decide +kernel
abbrev classes : List vw_C := [(R_BP, F_BP, 6), (R_MA, F_MA, 5), (R_PE, F_PE, 8), (R_PH, F_PH, 9), (R_PI, F_PI, 4), (R_SC, F_SC, 6), (R_SE, F_SE, 5), (R_SN, F_SN, 6), (R_BB, F_BB, 10), (R_MO, F_MO, 31)]
abbrev MD : Type := MethodName × ByteArray × Nat × Option FieldType
abbrev M_BP_init : MD := (⟨"BlownByAll$BribePlan", "<init>", "(LBlownByAll$Pipes;LBlownByAll$People;LBlownByAll$Mass;)V"⟩, prog_2_method_1_code, 4, none)
abbrev M_BP_find : MD := (⟨"BlownByAll$BribePlan", "find", "(I)I"⟩, prog_2_method_2_code, 2, some .int)
abbrev M_BP_decideFrom : MD := (⟨"BlownByAll$BribePlan", "decideFrom", "(LBlownByAll$BribePlan;II)V"⟩, prog_2_method_3_code, 7, none)
abbrev M_BP_nextToDecide : MD := (⟨"BlownByAll$BribePlan", "nextToDecide", "(I)I"⟩, prog_2_method_4_code, 3, some .int)
abbrev M_MA_init : MD := (⟨"BlownByAll$Mass", "<init>", "(LBlownByAll$Pipes;LBlownByAll$People;)V"⟩, prog_3_method_1_code, 3, none)
abbrev M_MA_gather : MD := (⟨"BlownByAll$Mass", "gather", "(II)V"⟩, prog_3_method_2_code, 5, none)
abbrev M_MA_fill : MD := (⟨"BlownByAll$Mass", "fill", "(I)V"⟩, prog_3_method_3_code, 3, none)
abbrev M_MA_addAtBreaths : MD := (⟨"BlownByAll$Mass", "addAtBreaths", "(III)V"⟩, prog_3_method_4_code, 7, none)
abbrev M_MA_blow : MD := (⟨"BlownByAll$Mass", "blow", "(I)I"⟩, prog_3_method_5_code, 6, some .int)
abbrev M_MA_play : MD := (⟨"BlownByAll$Mass", "play", "(II)I"⟩, prog_3_method_6_code, 3, some .int)
abbrev M_MA_playAll : MD := (⟨"BlownByAll$Mass", "playAll", "(I)I"⟩, prog_3_method_7_code, 4, some .int)
abbrev M_MA_firstMissing : MD := (⟨"BlownByAll$Mass", "firstMissing", "()I"⟩, prog_3_method_8_code, 2, some .int)
abbrev M_PE_init : MD := (⟨"BlownByAll$People", "<init>", "()V"⟩, prog_4_method_1_code, 1, none)
abbrev M_PE_takeFrom : MD := (⟨"BlownByAll$People", "takeFrom", "(LBlownByAll$Script;)V"⟩, prog_4_method_2_code, 3, none)
abbrev M_PE_copyFrom : MD := (⟨"BlownByAll$People", "copyFrom", "(LBlownByAll$People;)V"⟩, prog_4_method_3_code, 3, none)
abbrev M_PE_has : MD := (⟨"BlownByAll$People", "has", "(I)Z"⟩, prog_4_method_4_code, 2, some .boolean)
abbrev M_PE_turnOf : MD := (⟨"BlownByAll$People", "turnOf", "(I)I"⟩, prog_4_method_5_code, 2, some .int)
abbrev M_PE_givenAt : MD := (⟨"BlownByAll$People", "givenAt", "(II)I"⟩, prog_4_method_6_code, 4, some .int)
abbrev M_PE_sittingAt : MD := (⟨"BlownByAll$People", "sittingAt", "(I)I"⟩, prog_4_method_7_code, 4, some .int)
abbrev M_PE_forceOf : MD := (⟨"BlownByAll$People", "forceOf", "(I)I"⟩, prog_4_method_8_code, 4, some .int)
abbrev M_PE_bribedOnes : MD := (⟨"BlownByAll$People", "bribedOnes", "()I"⟩, prog_4_method_9_code, 3, some .int)
abbrev M_PH_init : MD := (⟨"BlownByAll$PhasePlan", "<init>", "(LBlownByAll$People;LBlownByAll$Mass;)V"⟩, prog_5_method_1_code, 3, none)
abbrev M_PH_find : MD := (⟨"BlownByAll$PhasePlan", "find", "(I)Z"⟩, prog_5_method_2_code, 3, some .boolean)
abbrev M_PH_list : MD := (⟨"BlownByAll$PhasePlan", "list", "(I)V"⟩, prog_5_method_3_code, 3, none)
abbrev M_PH_foresee : MD := (⟨"BlownByAll$PhasePlan", "foresee", "()V"⟩, prog_5_method_4_code, 3, none)
abbrev M_PH_leastAlone : MD := (⟨"BlownByAll$PhasePlan", "leastAlone", "(I)I"⟩, prog_5_method_5_code, 4, some .int)
abbrev M_PH_lastPhase : MD := (⟨"BlownByAll$PhasePlan", "lastPhase", "(I)I"⟩, prog_5_method_6_code, 2, some .int)
abbrev M_PH_breath : MD := (⟨"BlownByAll$PhasePlan", "breath", "(I)I"⟩, prog_5_method_7_code, 2, some .int)
abbrev M_PH_tryFrom : MD := (⟨"BlownByAll$PhasePlan", "tryFrom", "(LBlownByAll$PhasePlan;I)V"⟩, prog_5_method_8_code, 5, none)
abbrev M_PH_settle : MD := (⟨"BlownByAll$PhasePlan", "settle", "(I)V"⟩, prog_5_method_9_code, 3, none)
abbrev M_PH_phaseOf : MD := (⟨"BlownByAll$PhasePlan", "phaseOf", "(I)I"⟩, prog_5_method_10_code, 2, some .int)
abbrev M_PI_init : MD := (⟨"BlownByAll$Pipes", "<init>", "()V"⟩, prog_6_method_1_code, 1, none)
abbrev M_PI_takeFrom : MD := (⟨"BlownByAll$Pipes", "takeFrom", "(LBlownByAll$Script;)V"⟩, prog_6_method_2_code, 3, none)
abbrev M_PI_has : MD := (⟨"BlownByAll$Pipes", "has", "(I)Z"⟩, prog_6_method_3_code, 2, some .boolean)
abbrev M_PI_hasBeat : MD := (⟨"BlownByAll$Pipes", "hasBeat", "(I)Z"⟩, prog_6_method_4_code, 2, some .boolean)
abbrev M_PI_hasBoth : MD := (⟨"BlownByAll$Pipes", "hasBoth", "(II)Z"⟩, prog_6_method_5_code, 3, some .boolean)
abbrev M_PI_isSounding : MD := (⟨"BlownByAll$Pipes", "isSounding", "(II)Z"⟩, prog_6_method_6_code, 3, some .boolean)
abbrev M_SC_init : MD := (⟨"BlownByAll$Script", "<init>", "()V"⟩, prog_7_method_1_code, 1, none)
abbrev M_SC_hasRoom : MD := (⟨"BlownByAll$Script", "hasRoom", "(I)Z"⟩, prog_7_method_2_code, 2, some .boolean)
abbrev M_SC_append : MD := (⟨"BlownByAll$Script", "append", "(IJ)I"⟩, prog_7_method_3_code, 5, some .int)
abbrev M_SC_clear : MD := (⟨"BlownByAll$Script", "clear", "()I"⟩, prog_7_method_4_code, 2, some .int)
abbrev M_SC_read : MD := (⟨"BlownByAll$Script", "read", "()I"⟩, prog_7_method_5_code, 2, some .int)
abbrev M_SC_signAt : MD := (⟨"BlownByAll$Script", "signAt", "(I)I"⟩, prog_7_method_6_code, 2, some .int)
abbrev M_SC_figureAt : MD := (⟨"BlownByAll$Script", "figureAt", "(I)I"⟩, prog_7_method_7_code, 2, some .int)
abbrev M_SC_takeSign : MD := (⟨"BlownByAll$Script", "takeSign", "(C)Z"⟩, prog_7_method_8_code, 2, some .boolean)
abbrev M_SC_takeFigure : MD := (⟨"BlownByAll$Script", "takeFigure", "(II)Z"⟩, prog_7_method_9_code, 4, some .boolean)
abbrev M_SC_takePipes : MD := (⟨"BlownByAll$Script", "takePipes", "()Z"⟩, prog_7_method_10_code, 2, some .boolean)
abbrev M_SC_takePeople : MD := (⟨"BlownByAll$Script", "takePeople", "()Z"⟩, prog_7_method_11_code, 2, some .boolean)
abbrev M_SC_takeHymn : MD := (⟨"BlownByAll$Script", "takeHymn", "()Z"⟩, prog_7_method_12_code, 4, some .boolean)
abbrev M_SC_thirstRead : MD := (⟨"BlownByAll$Script", "thirstRead", "(I)I"⟩, prog_7_method_13_code, 2, some .int)
abbrev M_SC_personRead : MD := (⟨"BlownByAll$Script", "personRead", "(II)I"⟩, prog_7_method_14_code, 3, some .int)
abbrev M_SC_beatRead : MD := (⟨"BlownByAll$Script", "beatRead", "(I)I"⟩, prog_7_method_15_code, 3, some .int)
abbrev M_SE_init : MD := (⟨"BlownByAll$SeatPlan", "<init>", "(LBlownByAll$Pipes;LBlownByAll$People;LBlownByAll$Mass;)V"⟩, prog_8_method_1_code, 4, none)
abbrev M_SE_find : MD := (⟨"BlownByAll$SeatPlan", "find", "()Z"⟩, prog_8_method_2_code, 4, some .boolean)
abbrev M_SE_setPrices : MD := (⟨"BlownByAll$SeatPlan", "setPrices", "(I)V"⟩, prog_8_method_3_code, 4, none)
abbrev M_SE_seatsOf : MD := (⟨"BlownByAll$SeatPlan", "seatsOf", "(I)I"⟩, prog_8_method_4_code, 3, some .int)
abbrev M_SE_bestWith : MD := (⟨"BlownByAll$SeatPlan", "bestWith", "(II)I"⟩, prog_8_method_5_code, 5, some .int)
abbrev M_SE_plan : MD := (⟨"BlownByAll$SeatPlan", "plan", "()I"⟩, prog_8_method_6_code, 1, some .int)
abbrev M_SE_least : MD := (⟨"BlownByAll$SeatPlan", "least", "()I"⟩, prog_8_method_7_code, 1, some .int)
abbrev M_SE_placeOf : MD := (⟨"BlownByAll$SeatPlan", "placeOf", "(I)I"⟩, prog_8_method_8_code, 2, some .int)
abbrev M_SN_init : MD := (⟨"BlownByAll$Sneezes", "<init>", "(LBlownByAll$Pipes;LBlownByAll$People;)V"⟩, prog_9_method_1_code, 3, none)
abbrev M_SN_weighEnough : MD := (⟨"BlownByAll$Sneezes", "weighEnough", "(III)V"⟩, prog_9_method_2_code, 4, none)
abbrev M_SN_weighGuilt : MD := (⟨"BlownByAll$Sneezes", "weighGuilt", "(III)Z"⟩, prog_9_method_3_code, 11, some .boolean)
abbrev M_SN_spread : MD := (⟨"BlownByAll$Sneezes", "spread", "(III)V"⟩, prog_9_method_4_code, 6, none)
abbrev M_SN_admit : MD := (⟨"BlownByAll$Sneezes", nm_SN5, "(II)V"⟩, prog_9_method_5_code, 6, none)
abbrev M_SN_casesUnder : MD := (⟨"BlownByAll$Sneezes", "casesUnder", "(I)J"⟩, prog_9_method_6_code, 5, some .long)
abbrev M_SN_reduce : MD := (⟨"BlownByAll$Sneezes", "reduce", "(JJ)V"⟩, prog_9_method_7_code, 12, none)
abbrev M_BB_init : MD := (⟨"BlownByAll", "<init>", "()V"⟩, prog_1_method_1_code, 2, none)
abbrev M_BB_write : MD := (⟨"BlownByAll", "write", "(IJ)I"⟩, prog_1_method_2_code, 4, some .int)
abbrev M_BB_wipe : MD := (⟨"BlownByAll", "wipe", "()I"⟩, prog_1_method_3_code, 1, some .int)
abbrev M_BB_fault : MD := (⟨"BlownByAll", "fault", "()I"⟩, prog_1_method_4_code, 1, some .int)
abbrev M_BB_organ : MD := (⟨"BlownByAll", "organ", "()I"⟩, prog_1_method_5_code, 2, some .int)
abbrev M_BB_drinks : MD := (⟨"BlownByAll", "drinks", "(I)I"⟩, prog_1_method_6_code, 2, some .int)
abbrev M_BB_sounds : MD := (⟨"BlownByAll", "sounds", "(II)I"⟩, prog_1_method_7_code, 3, some .int)
abbrev M_BB_person : MD := (⟨"BlownByAll", "person", "(II)I"⟩, prog_1_method_8_code, 3, some .int)
abbrev M_BB_seat : MD := (⟨"BlownByAll", "seat", "(II)I"⟩, prog_1_method_9_code, 4, some .int)
abbrev M_BB_phase : MD := (⟨"BlownByAll", "phase", "(II)I"⟩, prog_1_method_10_code, 4, some .int)
abbrev M_BB_bribe : MD := (⟨"BlownByAll", "bribe", "(IZ)I"⟩, prog_1_method_11_code, 4, some .int)
abbrev M_BB_grow : MD := (⟨"BlownByAll", "grow", "(I)I"⟩, prog_1_method_12_code, 2, some .int)
abbrev M_BB_store : MD := (⟨"BlownByAll", "store", "(I)I"⟩, prog_1_method_13_code, 3, some .int)
abbrev M_BB_late : MD := (⟨"BlownByAll", "late", "(I)I"⟩, prog_1_method_14_code, 3, some .int)
abbrev M_BB_gives : MD := (⟨"BlownByAll", "gives", "(II)I"⟩, prog_1_method_15_code, 3, some .int)
abbrev M_BB_air : MD := (⟨"BlownByAll", "air", "(II)I"⟩, prog_1_method_16_code, 3, some .int)
abbrev M_BB_stored : MD := (⟨"BlownByAll", "stored", "(II)I"⟩, prog_1_method_17_code, 3, some .int)
abbrev M_BB_sags : MD := (⟨"BlownByAll", "sags", "(II)I"⟩, prog_1_method_18_code, 3, some .int)
abbrev M_BB_total : MD := (⟨"BlownByAll", "total", "()I"⟩, prog_1_method_19_code, 1, some .int)
abbrev M_BB_first : MD := (⟨"BlownByAll", "first", "()I"⟩, prog_1_method_20_code, 4, some .int)
abbrev M_BB_worst : MD := (⟨"BlownByAll", "worst", "()I"⟩, prog_1_method_21_code, 5, some .int)
abbrev M_BB_bestLate : MD := (⟨"BlownByAll", "bestLate", "()I"⟩, prog_1_method_22_code, 5, some .int)
abbrev M_BB_phases : MD := (⟨"BlownByAll", "phases", "(I)I"⟩, prog_1_method_23_code, 2, some .int)
abbrev M_BB_phaseAt : MD := (⟨"BlownByAll", "phaseAt", "(II)I"⟩, prog_1_method_24_code, 3, some .int)
abbrev M_BB_seats : MD := (⟨"BlownByAll", "seats", "()I"⟩, prog_1_method_25_code, 1, some .int)
abbrev M_BB_seatAt : MD := (⟨"BlownByAll", "seatAt", "(I)I"⟩, prog_1_method_26_code, 2, some .int)
abbrev M_BB_bribes : MD := (⟨"BlownByAll", "bribes", "()I"⟩, prog_1_method_27_code, 4, some .int)
abbrev M_BB_needed : MD := (⟨"BlownByAll", "needed", "(I)I"⟩, prog_1_method_28_code, 4, some .int)
abbrev M_BB_never : MD := (⟨"BlownByAll", "never", "()I"⟩, prog_1_method_29_code, 4, some .int)
abbrev M_BB_steady : MD := (⟨"BlownByAll", "steady", "(IIIZ)J"⟩, prog_1_method_30_code, 5, some .long)
abbrev M_BB_blame : MD := (⟨"BlownByAll", "blame", "(IIIZ)J"⟩, prog_1_method_31_code, 5, some .long)
abbrev M_BB_keep : MD := (⟨"BlownByAll", "keep", "(I)I"⟩, prog_1_method_32_code, 2, some .int)
abbrev M_BB_again : MD := (⟨"BlownByAll", "again", "(I)I"⟩, prog_1_method_33_code, 2, some .int)
abbrev M_BB_count : MD := (⟨"BlownByAll", "count", "(I)I"⟩, prog_1_method_34_code, 2, some .int)
abbrev M_MO_init : MD := (⟨"BlownByAllModel", "<init>", "()V"⟩, prog_11_method_1_code, 1, none)
abbrev M_MO_in : MD := (⟨"BlownByAllModel", "in", "(JJJ)Z"⟩, prog_11_method_3_code, 6, some .boolean)
abbrev M_MO_write : MD := (⟨"BlownByAllModel", "write", "(IJ)I"⟩, prog_11_method_4_code, 5, some .int)
abbrev M_MO_wipe : MD := (⟨"BlownByAllModel", "wipe", "()I"⟩, prog_11_method_5_code, 2, some .int)
abbrev M_MO_here : MD := (⟨"BlownByAllModel", "here", "()I"⟩, prog_11_method_6_code, 1, some .int)
abbrev M_MO_fail : MD := (⟨"BlownByAllModel", "fail", "()V"⟩, prog_11_method_7_code, 1, none)
abbrev M_MO_figure : MD := (⟨"BlownByAllModel", "figure", "(II)I"⟩, prog_11_method_8_code, 4, some .int)
abbrev M_MO_bits : MD := (⟨"BlownByAllModel", "bits", "(I)I"⟩, prog_11_method_9_code, 3, some .int)
abbrev M_MO_readText : MD := (⟨"BlownByAllModel", "readText", "()I"⟩, prog_11_method_10_code, 3, some .int)
abbrev M_MO_fault : MD := (⟨"BlownByAllModel", "fault", "()I"⟩, prog_11_method_11_code, 1, some .int)
abbrev M_MO_organ : MD := (⟨"BlownByAllModel", "organ", "()I"⟩, prog_11_method_12_code, 2, some .int)
abbrev M_MO_isPipe : MD := (⟨"BlownByAllModel", "isPipe", "(I)Z"⟩, prog_11_method_13_code, 2, some .boolean)
abbrev M_MO_isPerson : MD := (⟨"BlownByAllModel", "isPerson", "(I)Z"⟩, prog_11_method_14_code, 2, some .boolean)
abbrev M_MO_isBeat : MD := (⟨"BlownByAllModel", "isBeat", "(I)Z"⟩, prog_11_method_15_code, 2, some .boolean)
abbrev M_MO_drinks : MD := (⟨"BlownByAllModel", "drinks", "(I)I"⟩, prog_11_method_16_code, 2, some .int)
abbrev M_MO_sounds : MD := (⟨"BlownByAllModel", "sounds", "(II)I"⟩, prog_11_method_17_code, 3, some .int)
abbrev M_MO_person : MD := (⟨"BlownByAllModel", "person", "(II)I"⟩, prog_11_method_18_code, 3, some .int)
abbrev M_MO_tell : MD := (⟨"BlownByAllModel", "tell", "(II)I"⟩, prog_11_method_19_code, 4, some .int)
abbrev M_MO_seat : MD := (⟨"BlownByAllModel", "seat", "(II)I"⟩, prog_11_method_20_code, 3, some .int)
abbrev M_MO_phase : MD := (⟨"BlownByAllModel", "phase", "(II)I"⟩, prog_11_method_21_code, 3, some .int)
abbrev M_MO_bribe : MD := (⟨"BlownByAllModel", "bribe", "(IZ)I"⟩, prog_11_method_22_code, 3, some .int)
abbrev M_MO_grow : MD := (⟨"BlownByAllModel", "grow", "(I)I"⟩, prog_11_method_23_code, 2, some .int)
abbrev M_MO_store : MD := (⟨"BlownByAllModel", "store", "(I)I"⟩, prog_11_method_24_code, 3, some .int)
abbrev M_MO_late : MD := (⟨"BlownByAllModel", "late", "(I)I"⟩, prog_11_method_25_code, 3, some .int)
abbrev M_MO_givesOf : MD := (⟨"BlownByAllModel", "givesOf", "(II)I"⟩, prog_11_method_26_code, 6, some .int)
abbrev M_MO_gives : MD := (⟨"BlownByAllModel", "gives", "(II)I"⟩, prog_11_method_27_code, 3, some .int)
abbrev M_MO_airOf : MD := (⟨"BlownByAllModel", "airOf", "(II)I"⟩, prog_11_method_28_code, 5, some .int)
abbrev M_MO_sitters : MD := (⟨"BlownByAllModel", "sitters", "(I)I"⟩, prog_11_method_29_code, 4, some .int)
abbrev M_MO_blow : MD := (⟨"BlownByAllModel", "blow", "(II)I"⟩, prog_11_method_30_code, 9, some .int)
abbrev M_MO_air : MD := (⟨"BlownByAllModel", "air", "(II)I"⟩, prog_11_method_31_code, 3, some .int)
abbrev M_MO_stored : MD := (⟨"BlownByAllModel", "stored", "(II)I"⟩, prog_11_method_32_code, 3, some .int)
abbrev M_MO_sags : MD := (⟨"BlownByAllModel", "sags", "(II)I"⟩, prog_11_method_33_code, 3, some .int)
abbrev M_MO_totalOf : MD := (⟨"BlownByAllModel", "totalOf", "()I"⟩, prog_11_method_34_code, 3, some .int)
abbrev M_MO_total : MD := (⟨"BlownByAllModel", "total", "()I"⟩, prog_11_method_35_code, 1, some .int)
abbrev M_MO_first : MD := (⟨"BlownByAllModel", "first", "()I"⟩, prog_11_method_36_code, 4, some .int)
abbrev M_MO_worst : MD := (⟨"BlownByAllModel", "worst", "()I"⟩, prog_11_method_37_code, 5, some .int)
abbrev M_MO_bestLate : MD := (⟨"BlownByAllModel", "bestLate", "()I"⟩, prog_11_method_38_code, 6, some .int)
abbrev M_MO_ones : MD := (⟨"BlownByAllModel", "ones", "(I)I"⟩, prog_11_method_39_code, 3, some .int)
abbrev M_MO_member : MD := (⟨"BlownByAllModel", "member", "(II)I"⟩, prog_11_method_40_code, 4, some .int)
abbrev M_MO_layPhases : MD := (⟨"BlownByAllModel", "layPhases", "(I)I"⟩, prog_11_method_41_code, 10, some .int)
abbrev M_MO_phases : MD := (⟨"BlownByAllModel", "phases", "(I)I"⟩, prog_11_method_42_code, 2, some .int)
abbrev M_MO_phaseAt : MD := (⟨"BlownByAllModel", "phaseAt", "(II)I"⟩, prog_11_method_43_code, 4, some .int)
abbrev M_MO_laySeats : MD := (⟨"BlownByAllModel", "laySeats", "()I"⟩, prog_11_method_44_code, 8, some .int)
abbrev M_MO_seats : MD := (⟨"BlownByAllModel", "seats", "()I"⟩, prog_11_method_45_code, 1, some .int)
abbrev M_MO_seatAt : MD := (⟨"BlownByAllModel", "seatAt", "(I)I"⟩, prog_11_method_46_code, 2, some .int)
abbrev M_MO_isSteady : MD := (⟨"BlownByAllModel", "isSteady", "(I)Z"⟩, prog_11_method_47_code, 3, some .boolean)
abbrev M_MO_bribes : MD := (⟨"BlownByAllModel", "bribes", "()I"⟩, prog_11_method_48_code, 5, some .int)
abbrev M_MO_needed : MD := (⟨"BlownByAllModel", "needed", "(I)I"⟩, prog_11_method_49_code, 4, some .int)
abbrev M_MO_never : MD := (⟨"BlownByAllModel", "never", "()I"⟩, prog_11_method_50_code, 5, some .int)
abbrev M_MO_layWays : MD := (⟨"BlownByAllModel", "layWays", "(III)V"⟩, prog_11_method_51_code, 7, none)
abbrev M_MO_less : MD := (⟨"BlownByAllModel", "less", "(I)J"⟩, prog_11_method_52_code, 5, some .long)
abbrev M_MO_part : MD := (⟨"BlownByAllModel", "part", "(JJZ)J"⟩, prog_11_method_53_code, 11, some .long)
abbrev M_MO_steady : MD := (⟨"BlownByAllModel", "steady", "(IIIZ)J"⟩, prog_11_method_54_code, 5, some .long)
abbrev M_MO_blame : MD := (⟨"BlownByAllModel", "blame", "(IIIZ)J"⟩, prog_11_method_55_code, 8, some .long)
abbrev M_MO_keep : MD := (⟨"BlownByAllModel", "keep", "(I)I"⟩, prog_11_method_56_code, 3, some .int)
abbrev M_MO_again : MD := (⟨"BlownByAllModel", "again", "(I)I"⟩, prog_11_method_57_code, 3, some .int)
abbrev M_MO_count : MD := (⟨"BlownByAllModel", "count", "(I)I"⟩, prog_11_method_58_code, 4, some .int)
abbrev M_IG_bitCount : MD := (⟨"java/lang/Integer", "bitCount", "(I)I"⟩, prog_12_method_49_code, 1, some .int)
abbrev M_MT_floorMod : MD := (⟨"java/lang/Math", "floorMod", "(II)I"⟩, prog_13_method_50_code, 3, some .int)
abbrev M_MT_max : MD := (⟨"java/lang/Math", "max", "(II)I"⟩, prog_13_method_65_code, 2, some .int)
abbrev M_MT_min : MD := (⟨"java/lang/Math", "min", "(II)I"⟩, prog_13_method_69_code, 2, some .int)
abbrev M_LW_law : MD := (⟨"BlownByAllLaw", "law", "([I)Z"⟩, code, 4, some .boolean)
/-- what a cell is: an array (type, length), or an object (class, its fields: an int, a long, a cell) -/
abbrev Sh : Type := (Nat × Nat) ⊕ (Nat × List (Option (Option Nat)))
def shapes : List Sh := [
  .inr (8, [some (some 1), some (some 3), some (some 6), some (some 24), some (some 28), some (some 33), some (some 36), some (some 37), some (some 39), some (some 40)]),
  .inr (5, [some (some 2), none, none, none, none, none]),
  .inl (1, 104),
  .inr (4, [none, none, some (some 4), some (some 5)]),
  .inl (0, 6),
  .inl (0, 24),
  .inr (2, [none, none, none, some (some 7), some (some 8), some (some 9), some (some 10), some (some 11)]),
  .inl (0, 12),
  .inl (0, 12),
  .inl (0, 12),
  .inl (0, 12),
  .inl (2, 12),
  .inr (2, [none, none, none, some (some 13), some (some 14), some (some 15), some (some 16), some (some 17)]),
  .inl (0, 12),
  .inl (0, 12),
  .inl (0, 12),
  .inl (0, 12),
  .inl (2, 12),
  .inr (2, [none, none, none, some (some 19), some (some 20), some (some 21), some (some 22), some (some 23)]),
  .inl (0, 12),
  .inl (0, 12),
  .inl (0, 12),
  .inl (0, 12),
  .inl (2, 12),
  .inr (1, [some (some 3), some (some 6), some (some 25), some (some 26), some (some 27)]),
  .inl (0, 24),
  .inl (0, 24),
  .inl (0, 24),
  .inr (3, [some (some 6), some (some 24), some (some 29), some (some 30), some (some 31), some (some 32), none, none, none]),
  .inl (0, 4),
  .inl (0, 4),
  .inl (0, 4),
  .inl (0, 5),
  .inr (6, [some (some 3), some (some 6), some (some 24), some (some 34), some (some 35)]),
  .inl (0, 384),
  .inl (0, 64),
  .inr (0, [some (some 3), some (some 6), some (some 24), none, none, none]),
  .inr (7, [some (some 3), some (some 6), some (some 38), some none, some none, some none]),
  .inl (3, 37),
  .inl (4, 2),
  .inl (2, 2),
  .inr (9, [some (some 42), some (some 43), some (some 44), none, none, none, some (some 45), some (some 46), some (some 47), none, none, none, none, none, some (some 48), none, none, none, some (some 49), some (some 50), some (some 51), some (some 52), some (some 53), some (some 54), some (some 55), some (some 56), some (some 57), some none, some (some 58), some (some 59), some (some 60)]),
  .inl (0, 6),
  .inl (0, 60),
  .inl (0, 24),
  .inl (0, 6),
  .inl (0, 60),
  .inl (0, 24),
  .inl (0, 104),
  .inl (0, 24),
  .inl (0, 24),
  .inl (0, 12),
  .inl (0, 12),
  .inl (0, 384),
  .inl (0, 6),
  .inl (0, 6),
  .inl (0, 12),
  .inl (3, 40),
  .inl (2, 2),
  .inl (0, 120),
  .inl (0, 4)]
abbrev c_BB : Nat := 0
abbrev c_SC : Nat := 1
abbrev c_signs : Nat := 2
abbrev c_PI : Nat := 3
abbrev c_thirst : Nat := 4
abbrev c_sounding : Nat := 5
abbrev c_PE : Nat := 6
abbrev c_lungs : Nat := 7
abbrev c_force : Nat := 8
abbrev c_place : Nat := 9
abbrev c_phase : Nat := 10
abbrev c_bribed : Nat := 11
abbrev c_P0 : Nat := 12
abbrev c_lungs0 : Nat := 13
abbrev c_force0 : Nat := 14
abbrev c_place0 : Nat := 15
abbrev c_phase0 : Nat := 16
abbrev c_bribed0 : Nat := 17
abbrev c_P1 : Nat := 18
abbrev c_lungs1 : Nat := 19
abbrev c_force1 : Nat := 20
abbrev c_place1 : Nat := 21
abbrev c_phase1 : Nat := 22
abbrev c_bribed1 : Nat := 23
abbrev c_MA : Nat := 24
abbrev c_wind : Nat := 25
abbrev c_held : Nat := 26
abbrev c_missing : Nat := 27
abbrev c_PH : Nat := 28
abbrev c_sitters : Nat := 29
abbrev c_tried : Nat := 30
abbrev c_phBest : Nat := 31
abbrev c_toCome : Nat := 32
abbrev c_SE : Nat := 33
abbrev c_price : Nat := 34
abbrev c_seBest : Nat := 35
abbrev c_BP : Nat := 36
abbrev c_SN : Nat := 37
abbrev c_cases : Nat := 38
abbrev c_slots : Nat := 39
abbrev c_kept : Nat := 40
abbrev c_MO : Nat := 41
abbrev c_m_readDrinks : Nat := 42
abbrev c_m_readPeople : Nat := 43
abbrev c_m_readBeats : Nat := 44
abbrev c_m_drinks : Nat := 45
abbrev c_m_people : Nat := 46
abbrev c_m_beats : Nat := 47
abbrev c_m_text : Nat := 48
abbrev c_m_lacks : Nat := 49
abbrev c_m_stores : Nat := 50
abbrev c_m_wasPhase : Nat := 51
abbrev c_m_bestPhase : Nat := 52
abbrev c_m_lacking : Nat := 53
abbrev c_m_bestSeat : Nat := 54
abbrev c_m_sets : Nat := 55
abbrev c_m_wasBribed : Nat := 56
abbrev c_m_ways : Nat := 57
abbrev c_m_isKept : Nat := 58
abbrev c_m_keptPeople : Nat := 59
abbrev c_m_keptRest : Nat := 60
