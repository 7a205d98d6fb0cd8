/-! THE CONSTRUCTORS -/
theorem ac_int : Cond.arrayClass .int ∈ gtbl := gt_in 118 (by decide +kernel) rfl
theorem ac_byte : Cond.arrayClass .byte ∈ gtbl := gt_in 90 (by decide +kernel) rfl
theorem ac_boolean : Cond.arrayClass .boolean ∈ gtbl := gt_in 176 (by decide +kernel) rfl
theorem ac_long : Cond.arrayClass .long ∈ gtbl := gt_in 311 (by decide +kernel) rfl
theorem oi_inst : Cond.instanceMethod Lib.objectInit ∈ gtbl := gt_in 59 (by decide +kernel) rfl
theorem oi_code : Cond.code Lib.objectInit ⟨#[0xb1]⟩ 1 none ∈ gtbl := gt_in 60 (by decide +kernel) rfl
theorem nw_LW_7 : NewOk "BlownByAllLaw" 7 R_BB F_BB 10 t_BB 8 := ⟨rfl, g_BB, t_BB_ok, gt_in 53 (by decide +kernel) rfl, gt_in 54 (by decide +kernel) rfl, gt_in 41 (by decide +kernel) rfl⟩
theorem nw_BB_7 : NewOk "BlownByAll" 7 R_SC F_SC 6 t_SC 5 := ⟨rfl, g_SC, t_SC_ok, gt_in 61 (by decide +kernel) rfl, gt_in 62 (by decide +kernel) rfl, gt_in 42 (by decide +kernel) rfl⟩
theorem nw_BB_16 : NewOk "BlownByAll" 16 R_PI F_PI 4 t_PI 4 := ⟨rfl, g_PI, t_PI_ok, gt_in 91 (by decide +kernel) rfl, gt_in 92 (by decide +kernel) rfl, gt_in 43 (by decide +kernel) rfl⟩
theorem nw_BB_23 : NewOk "BlownByAll" 23 R_PE F_PE 8 t_PE 2 := ⟨rfl, g_PE, t_PE_ok, gt_in 119 (by decide +kernel) rfl, gt_in 120 (by decide +kernel) rfl, gt_in 44 (by decide +kernel) rfl⟩
theorem cl_BB_23 : Cond.classLink "BlownByAll" 23 "BlownByAll$People" ∈ gtbl := gt_in 119 (by decide +kernel) rfl
theorem nw_BB_30 : NewOk "BlownByAll" 30 R_MA F_MA 5 t_MA 1 := ⟨rfl, g_MA, t_MA_ok, gt_in 177 (by decide +kernel) rfl, gt_in 178 (by decide +kernel) rfl, gt_in 45 (by decide +kernel) rfl⟩
theorem nw_BB_39 : NewOk "BlownByAll" 39 R_PH F_PH 9 t_PH 3 := ⟨rfl, g_PH, t_PH_ok, gt_in 202 (by decide +kernel) rfl, gt_in 203 (by decide +kernel) rfl, gt_in 46 (by decide +kernel) rfl⟩
theorem nw_BB_48 : NewOk "BlownByAll" 48 R_SE F_SE 5 t_SE 6 := ⟨rfl, g_SE, t_SE_ok, gt_in 237 (by decide +kernel) rfl, gt_in 238 (by decide +kernel) rfl, gt_in 47 (by decide +kernel) rfl⟩
theorem nw_BB_57 : NewOk "BlownByAll" 57 R_BP F_BP 6 t_BP 0 := ⟨rfl, g_BP, t_BP_ok, gt_in 259 (by decide +kernel) rfl, gt_in 260 (by decide +kernel) rfl, gt_in 48 (by decide +kernel) rfl⟩
theorem nw_BB_64 : NewOk "BlownByAll" 64 R_SN F_SN 6 t_SN 7 := ⟨rfl, g_SN, t_SN_ok, gt_in 284 (by decide +kernel) rfl, gt_in 285 (by decide +kernel) rfl, gt_in 49 (by decide +kernel) rfl⟩
theorem nw_LW_10 : NewOk "BlownByAllLaw" 10 R_MO F_MO 31 t_MO 9 := ⟨rfl, g_MO, t_MO_ok, gt_in 763 (by decide +kernel) rfl, gt_in 764 (by decide +kernel) rfl, gt_in 50 (by decide +kernel) rfl⟩
theorem ki_LW_9 : CallI "BlownByAllLaw" 9 M_BB_init 0 := ⟨gt_in 55 (by decide +kernel) rfl, gt_in 56 (by decide +kernel) rfl, gt_in 41 (by decide +kernel) rfl, gt_in 57 (by decide +kernel) rfl, ⟨by decide +kernel, by decide +kernel, by decide +kernel⟩, rfl, rfl, by decide⟩
theorem oi_BB : Cond.methodLink "BlownByAll" 1 Lib.objectInit ∈ gtbl := gt_in 58 (by decide +kernel) rfl
theorem ki_BB_9 : CallI "BlownByAll" 9 M_SC_init 0 := ⟨gt_in 63 (by decide +kernel) rfl, gt_in 64 (by decide +kernel) rfl, gt_in 42 (by decide +kernel) rfl, gt_in 65 (by decide +kernel) rfl, ⟨by decide +kernel, by decide +kernel, by decide +kernel⟩, rfl, rfl, by decide⟩
theorem oi_SC : Cond.methodLink "BlownByAll$Script" 3 Lib.objectInit ∈ gtbl := gt_in 66 (by decide +kernel) rfl
theorem ki_BB_18 : CallI "BlownByAll" 18 M_PI_init 0 := ⟨gt_in 93 (by decide +kernel) rfl, gt_in 94 (by decide +kernel) rfl, gt_in 43 (by decide +kernel) rfl, gt_in 95 (by decide +kernel) rfl, ⟨by decide +kernel, by decide +kernel, by decide +kernel⟩, rfl, rfl, by decide⟩
theorem oi_PI : Cond.methodLink "BlownByAll$Pipes" 3 Lib.objectInit ∈ gtbl := gt_in 96 (by decide +kernel) rfl
theorem ki_BB_25 : CallI "BlownByAll" 25 M_PE_init 0 := ⟨gt_in 121 (by decide +kernel) rfl, gt_in 122 (by decide +kernel) rfl, gt_in 44 (by decide +kernel) rfl, gt_in 123 (by decide +kernel) rfl, ⟨by decide +kernel, by decide +kernel, by decide +kernel⟩, rfl, rfl, by decide⟩
theorem oi_PE : Cond.methodLink "BlownByAll$People" 3 Lib.objectInit ∈ gtbl := gt_in 124 (by decide +kernel) rfl
theorem ki_BB_32 : CallI "BlownByAll" 32 M_MA_init 2 := ⟨gt_in 179 (by decide +kernel) rfl, gt_in 180 (by decide +kernel) rfl, gt_in 45 (by decide +kernel) rfl, gt_in 181 (by decide +kernel) rfl, ⟨by decide +kernel, by decide +kernel, by decide +kernel⟩, rfl, rfl, by decide⟩
theorem oi_MA : Cond.methodLink "BlownByAll$Mass" 3 Lib.objectInit ∈ gtbl := gt_in 182 (by decide +kernel) rfl
theorem ki_BB_41 : CallI "BlownByAll" 41 M_PH_init 2 := ⟨gt_in 204 (by decide +kernel) rfl, gt_in 205 (by decide +kernel) rfl, gt_in 46 (by decide +kernel) rfl, gt_in 206 (by decide +kernel) rfl, ⟨by decide +kernel, by decide +kernel, by decide +kernel⟩, rfl, rfl, by decide⟩
theorem oi_PH : Cond.methodLink "BlownByAll$PhasePlan" 3 Lib.objectInit ∈ gtbl := gt_in 207 (by decide +kernel) rfl
theorem ki_BB_50 : CallI "BlownByAll" 50 M_SE_init 3 := ⟨gt_in 239 (by decide +kernel) rfl, gt_in 240 (by decide +kernel) rfl, gt_in 47 (by decide +kernel) rfl, gt_in 241 (by decide +kernel) rfl, ⟨by decide +kernel, by decide +kernel, by decide +kernel⟩, rfl, rfl, by decide⟩
theorem oi_SE : Cond.methodLink "BlownByAll$SeatPlan" 3 Lib.objectInit ∈ gtbl := gt_in 242 (by decide +kernel) rfl
theorem ki_BB_59 : CallI "BlownByAll" 59 M_BP_init 3 := ⟨gt_in 261 (by decide +kernel) rfl, gt_in 262 (by decide +kernel) rfl, gt_in 48 (by decide +kernel) rfl, gt_in 263 (by decide +kernel) rfl, ⟨by decide +kernel, by decide +kernel, by decide +kernel⟩, rfl, rfl, by decide⟩
theorem oi_BP : Cond.methodLink "BlownByAll$BribePlan" 3 Lib.objectInit ∈ gtbl := gt_in 264 (by decide +kernel) rfl
theorem ki_BB_66 : CallI "BlownByAll" 66 M_SN_init 2 := ⟨gt_in 286 (by decide +kernel) rfl, gt_in 287 (by decide +kernel) rfl, gt_in 49 (by decide +kernel) rfl, gt_in 288 (by decide +kernel) rfl, ⟨by decide +kernel, by decide +kernel, by decide +kernel⟩, rfl, rfl, by decide⟩
theorem oi_SN : Cond.methodLink "BlownByAll$Sneezes" 3 Lib.objectInit ∈ gtbl := gt_in 289 (by decide +kernel) rfl
theorem ki_LW_12 : CallI "BlownByAllLaw" 12 M_MO_init 0 := ⟨gt_in 765 (by decide +kernel) rfl, gt_in 766 (by decide +kernel) rfl, gt_in 50 (by decide +kernel) rfl, gt_in 767 (by decide +kernel) rfl, ⟨by decide +kernel, by decide +kernel, by decide +kernel⟩, rfl, rfl, by decide⟩
theorem oi_MO : Cond.methodLink "BlownByAllModel" 1 Lib.objectInit ∈ gtbl := gt_in 768 (by decide +kernel) rfl
theorem cl_BP : ∀ C T N, classes[0]? = some (C, T, N) → C = R_BP := by
  intro C T N h
  have h2 : some (R_BP, F_BP, 6) = some (C, T, N) := h
  cases h2
  rfl
theorem bl_BP : ∀ j, j < 6 → defaultValue (t_BP j) = vp_V [.null, .null, .null, .int 0, .int 0, .int 0] j := by
  intro j hj
  have h : j = 0 ∨ j = 1 ∨ j = 2 ∨ j = 3 ∨ j = 4 ∨ j = 5 := by omega
  rcases h with rfl | rfl | rfl | rfl | rfl | rfl <;> rfl
theorem fk_BP_0 : finOk 0 0 (.object "BlownByAll$Pipes") := finOk_of (C := R_BP) (T := F_BP) (N := 6) rfl rfl (by decide +kernel)
theorem fk_BP_1 : finOk 0 1 (.object "BlownByAll$People") := finOk_of (C := R_BP) (T := F_BP) (N := 6) rfl rfl (by decide +kernel)
theorem fk_BP_2 : finOk 0 2 (.object "BlownByAll$Mass") := finOk_of (C := R_BP) (T := F_BP) (N := 6) rfl rfl (by decide +kernel)
theorem cl_MA : ∀ C T N, classes[1]? = some (C, T, N) → C = R_MA := by
  intro C T N h
  have h2 : some (R_MA, F_MA, 5) = some (C, T, N) := h
  cases h2
  rfl
theorem bl_MA : ∀ j, j < 5 → defaultValue (t_MA j) = vp_V [.null, .null, .null, .null, .null] j := by
  intro j hj
  have h : j = 0 ∨ j = 1 ∨ j = 2 ∨ j = 3 ∨ j = 4 := by omega
  rcases h with rfl | rfl | rfl | rfl | rfl <;> rfl
theorem fk_MA_0 : finOk 1 0 (.object "BlownByAll$Pipes") := finOk_of (C := R_MA) (T := F_MA) (N := 5) rfl rfl (by decide +kernel)
theorem fk_MA_1 : finOk 1 1 (.object "BlownByAll$People") := finOk_of (C := R_MA) (T := F_MA) (N := 5) rfl rfl (by decide +kernel)
theorem fk_MA_2 : finOk 1 2 (.array .int) := finOk_of (C := R_MA) (T := F_MA) (N := 5) rfl rfl (by decide +kernel)
theorem fk_MA_3 : finOk 1 3 (.array .int) := finOk_of (C := R_MA) (T := F_MA) (N := 5) rfl rfl (by decide +kernel)
theorem fk_MA_4 : finOk 1 4 (.array .int) := finOk_of (C := R_MA) (T := F_MA) (N := 5) rfl rfl (by decide +kernel)
theorem cl_PE : ∀ C T N, classes[2]? = some (C, T, N) → C = R_PE := by
  intro C T N h
  have h2 : some (R_PE, F_PE, 8) = some (C, T, N) := h
  cases h2
  rfl
theorem bl_PE : ∀ j, j < 8 → defaultValue (t_PE j) = vp_V [.int 0, .int 0, .int 0, .null, .null, .null, .null, .null] j := by
  intro j hj
  have h : j = 0 ∨ j = 1 ∨ j = 2 ∨ j = 3 ∨ j = 4 ∨ j = 5 ∨ j = 6 ∨ j = 7 := by omega
  rcases h with rfl | rfl | rfl | rfl | rfl | rfl | rfl | rfl <;> rfl
theorem fk_PE_3 : finOk 2 3 (.array .int) := finOk_of (C := R_PE) (T := F_PE) (N := 8) rfl rfl (by decide +kernel)
theorem fk_PE_4 : finOk 2 4 (.array .int) := finOk_of (C := R_PE) (T := F_PE) (N := 8) rfl rfl (by decide +kernel)
theorem fk_PE_5 : finOk 2 5 (.array .int) := finOk_of (C := R_PE) (T := F_PE) (N := 8) rfl rfl (by decide +kernel)
theorem fk_PE_6 : finOk 2 6 (.array .int) := finOk_of (C := R_PE) (T := F_PE) (N := 8) rfl rfl (by decide +kernel)
theorem fk_PE_7 : finOk 2 7 (.array .boolean) := finOk_of (C := R_PE) (T := F_PE) (N := 8) rfl rfl (by decide +kernel)
theorem cl_PH : ∀ C T N, classes[3]? = some (C, T, N) → C = R_PH := by
  intro C T N h
  have h2 : some (R_PH, F_PH, 9) = some (C, T, N) := h
  cases h2
  rfl
theorem bl_PH : ∀ j, j < 9 → defaultValue (t_PH j) = vp_V [.null, .null, .null, .null, .null, .null, .int 0, .int 0, .int 0] j := by
  intro j hj
  have h : j = 0 ∨ j = 1 ∨ j = 2 ∨ j = 3 ∨ j = 4 ∨ j = 5 ∨ j = 6 ∨ j = 7 ∨ j = 8 := by omega
  rcases h with rfl | rfl | rfl | rfl | rfl | rfl | rfl | rfl | rfl <;> rfl
theorem fk_PH_0 : finOk 3 0 (.object "BlownByAll$People") := finOk_of (C := R_PH) (T := F_PH) (N := 9) rfl rfl (by decide +kernel)
theorem fk_PH_1 : finOk 3 1 (.object "BlownByAll$Mass") := finOk_of (C := R_PH) (T := F_PH) (N := 9) rfl rfl (by decide +kernel)
theorem fk_PH_2 : finOk 3 2 (.array .int) := finOk_of (C := R_PH) (T := F_PH) (N := 9) rfl rfl (by decide +kernel)
theorem fk_PH_3 : finOk 3 3 (.array .int) := finOk_of (C := R_PH) (T := F_PH) (N := 9) rfl rfl (by decide +kernel)
theorem fk_PH_4 : finOk 3 4 (.array .int) := finOk_of (C := R_PH) (T := F_PH) (N := 9) rfl rfl (by decide +kernel)
theorem fk_PH_5 : finOk 3 5 (.array .int) := finOk_of (C := R_PH) (T := F_PH) (N := 9) rfl rfl (by decide +kernel)
theorem cl_PI : ∀ C T N, classes[4]? = some (C, T, N) → C = R_PI := by
  intro C T N h
  have h2 : some (R_PI, F_PI, 4) = some (C, T, N) := h
  cases h2
  rfl
theorem bl_PI : ∀ j, j < 4 → defaultValue (t_PI j) = vp_V [.int 0, .int 0, .null, .null] j := by
  intro j hj
  have h : j = 0 ∨ j = 1 ∨ j = 2 ∨ j = 3 := by omega
  rcases h with rfl | rfl | rfl | rfl <;> rfl
theorem fk_PI_2 : finOk 4 2 (.array .int) := finOk_of (C := R_PI) (T := F_PI) (N := 4) rfl rfl (by decide +kernel)
theorem fk_PI_3 : finOk 4 3 (.array .int) := finOk_of (C := R_PI) (T := F_PI) (N := 4) rfl rfl (by decide +kernel)
theorem cl_SC : ∀ C T N, classes[5]? = some (C, T, N) → C = R_SC := by
  intro C T N h
  have h2 : some (R_SC, F_SC, 6) = some (C, T, N) := h
  cases h2
  rfl
theorem bl_SC : ∀ j, j < 6 → defaultValue (t_SC j) = vp_V [.null, .int 0, .int 0, .int 0, .int 0, .int 0] j := by
  intro j hj
  have h : j = 0 ∨ j = 1 ∨ j = 2 ∨ j = 3 ∨ j = 4 ∨ j = 5 := by omega
  rcases h with rfl | rfl | rfl | rfl | rfl | rfl <;> rfl
theorem fk_SC_0 : finOk 5 0 (.array .byte) := finOk_of (C := R_SC) (T := F_SC) (N := 6) rfl rfl (by decide +kernel)
theorem cl_SE : ∀ C T N, classes[6]? = some (C, T, N) → C = R_SE := by
  intro C T N h
  have h2 : some (R_SE, F_SE, 5) = some (C, T, N) := h
  cases h2
  rfl
theorem bl_SE : ∀ j, j < 5 → defaultValue (t_SE j) = vp_V [.null, .null, .null, .null, .null] j := by
  intro j hj
  have h : j = 0 ∨ j = 1 ∨ j = 2 ∨ j = 3 ∨ j = 4 := by omega
  rcases h with rfl | rfl | rfl | rfl | rfl <;> rfl
theorem fk_SE_0 : finOk 6 0 (.object "BlownByAll$Pipes") := finOk_of (C := R_SE) (T := F_SE) (N := 5) rfl rfl (by decide +kernel)
theorem fk_SE_1 : finOk 6 1 (.object "BlownByAll$People") := finOk_of (C := R_SE) (T := F_SE) (N := 5) rfl rfl (by decide +kernel)
theorem fk_SE_2 : finOk 6 2 (.object "BlownByAll$Mass") := finOk_of (C := R_SE) (T := F_SE) (N := 5) rfl rfl (by decide +kernel)
theorem fk_SE_3 : finOk 6 3 (.array .int) := finOk_of (C := R_SE) (T := F_SE) (N := 5) rfl rfl (by decide +kernel)
theorem fk_SE_4 : finOk 6 4 (.array .int) := finOk_of (C := R_SE) (T := F_SE) (N := 5) rfl rfl (by decide +kernel)
theorem cl_SN : ∀ C T N, classes[7]? = some (C, T, N) → C = R_SN := by
  intro C T N h
  have h2 : some (R_SN, F_SN, 6) = some (C, T, N) := h
  cases h2
  rfl
theorem bl_SN : ∀ j, j < 6 → defaultValue (t_SN j) = vp_V [.null, .null, .null, .long 0, .long 0, .long 0] j := by
  intro j hj
  have h : j = 0 ∨ j = 1 ∨ j = 2 ∨ j = 3 ∨ j = 4 ∨ j = 5 := by omega
  rcases h with rfl | rfl | rfl | rfl | rfl | rfl <;> rfl
theorem fk_SN_0 : finOk 7 0 (.object "BlownByAll$Pipes") := finOk_of (C := R_SN) (T := F_SN) (N := 6) rfl rfl (by decide +kernel)
theorem fk_SN_1 : finOk 7 1 (.object "BlownByAll$People") := finOk_of (C := R_SN) (T := F_SN) (N := 6) rfl rfl (by decide +kernel)
theorem fk_SN_2 : finOk 7 2 (.array .long) := finOk_of (C := R_SN) (T := F_SN) (N := 6) rfl rfl (by decide +kernel)
theorem cl_BB : ∀ C T N, classes[8]? = some (C, T, N) → C = R_BB := by
  intro C T N h
  have h2 : some (R_BB, F_BB, 10) = some (C, T, N) := h
  cases h2
  rfl
theorem bl_BB : ∀ j, j < 10 → defaultValue (t_BB j) = vp_V [.null, .null, .null, .null, .null, .null, .null, .null, .null, .null] j := by
  intro j hj
  have h : j = 0 ∨ j = 1 ∨ j = 2 ∨ j = 3 ∨ j = 4 ∨ j = 5 ∨ j = 6 ∨ j = 7 ∨ j = 8 ∨ j = 9 := by omega
  rcases h with rfl | rfl | rfl | rfl | rfl | rfl | rfl | rfl | rfl | rfl <;> rfl
theorem fk_BB_0 : finOk 8 0 (.object "BlownByAll$Script") := finOk_of (C := R_BB) (T := F_BB) (N := 10) rfl rfl (by decide +kernel)
theorem fk_BB_1 : finOk 8 1 (.object "BlownByAll$Pipes") := finOk_of (C := R_BB) (T := F_BB) (N := 10) rfl rfl (by decide +kernel)
theorem fk_BB_2 : finOk 8 2 (.object "BlownByAll$People") := finOk_of (C := R_BB) (T := F_BB) (N := 10) rfl rfl (by decide +kernel)
theorem fk_BB_3 : finOk 8 3 (.object "BlownByAll$Mass") := finOk_of (C := R_BB) (T := F_BB) (N := 10) rfl rfl (by decide +kernel)
theorem fk_BB_4 : finOk 8 4 (.object "BlownByAll$PhasePlan") := finOk_of (C := R_BB) (T := F_BB) (N := 10) rfl rfl (by decide +kernel)
theorem fk_BB_5 : finOk 8 5 (.object "BlownByAll$SeatPlan") := finOk_of (C := R_BB) (T := F_BB) (N := 10) rfl rfl (by decide +kernel)
theorem fk_BB_6 : finOk 8 6 (.object "BlownByAll$BribePlan") := finOk_of (C := R_BB) (T := F_BB) (N := 10) rfl rfl (by decide +kernel)
theorem fk_BB_7 : finOk 8 7 (.object "BlownByAll$Sneezes") := finOk_of (C := R_BB) (T := F_BB) (N := 10) rfl rfl (by decide +kernel)
theorem fk_BB_8 : finOk 8 8 (.array (.object "BlownByAll$People")) := finOk_of (C := R_BB) (T := F_BB) (N := 10) rfl rfl (by decide +kernel)
theorem fk_BB_9 : finOk 8 9 (.array .boolean) := finOk_of (C := R_BB) (T := F_BB) (N := 10) rfl rfl (by decide +kernel)
theorem cl_MO : ∀ C T N, classes[9]? = some (C, T, N) → C = R_MO := by
  intro C T N h
  have h2 : some (R_MO, F_MO, 31) = some (C, T, N) := h
  cases h2
  rfl
theorem bl_MO : ∀ j, j < 31 → defaultValue (t_MO j) = vp_V [.null, .null, .null, .int 0, .int 0, .int 0, .null, .null, .null, .int 0, .int 0, .int 0, .int 0, .int 0, .null, .int 0, .int 0, .int 0, .null, .null, .null, .null, .null, .null, .null, .null, .null, .long 0, .null, .null, .null] j := by
  intro j hj
  have h : j = 0 ∨ j = 1 ∨ j = 2 ∨ j = 3 ∨ j = 4 ∨ j = 5 ∨ j = 6 ∨ j = 7 ∨ j = 8 ∨ j = 9 ∨ j = 10 ∨ j = 11 ∨ j = 12 ∨ j = 13 ∨ j = 14 ∨ j = 15 ∨ j = 16 ∨ j = 17 ∨ j = 18 ∨ j = 19 ∨ j = 20 ∨ j = 21 ∨ j = 22 ∨ j = 23 ∨ j = 24 ∨ j = 25 ∨ j = 26 ∨ j = 27 ∨ j = 28 ∨ j = 29 ∨ j = 30 := by omega
  rcases h with rfl | rfl | rfl | rfl | rfl | rfl | rfl | rfl | rfl | rfl | rfl | rfl | rfl | rfl | rfl | rfl | rfl | rfl | rfl | rfl | rfl | rfl | rfl | rfl | rfl | rfl | rfl | rfl | rfl | rfl | rfl <;> rfl
theorem fk_MO_0 : finOk 9 0 (.array .int) := finOk_of (C := R_MO) (T := F_MO) (N := 31) rfl rfl (by decide +kernel)
theorem fk_MO_1 : finOk 9 1 (.array .int) := finOk_of (C := R_MO) (T := F_MO) (N := 31) rfl rfl (by decide +kernel)
theorem fk_MO_2 : finOk 9 2 (.array .int) := finOk_of (C := R_MO) (T := F_MO) (N := 31) rfl rfl (by decide +kernel)
theorem fk_MO_6 : finOk 9 6 (.array .int) := finOk_of (C := R_MO) (T := F_MO) (N := 31) rfl rfl (by decide +kernel)
theorem fk_MO_7 : finOk 9 7 (.array .int) := finOk_of (C := R_MO) (T := F_MO) (N := 31) rfl rfl (by decide +kernel)
theorem fk_MO_8 : finOk 9 8 (.array .int) := finOk_of (C := R_MO) (T := F_MO) (N := 31) rfl rfl (by decide +kernel)
theorem fk_MO_14 : finOk 9 14 (.array .int) := finOk_of (C := R_MO) (T := F_MO) (N := 31) rfl rfl (by decide +kernel)
theorem fk_MO_18 : finOk 9 18 (.array .int) := finOk_of (C := R_MO) (T := F_MO) (N := 31) rfl rfl (by decide +kernel)
theorem fk_MO_19 : finOk 9 19 (.array .int) := finOk_of (C := R_MO) (T := F_MO) (N := 31) rfl rfl (by decide +kernel)
theorem fk_MO_20 : finOk 9 20 (.array .int) := finOk_of (C := R_MO) (T := F_MO) (N := 31) rfl rfl (by decide +kernel)
theorem fk_MO_21 : finOk 9 21 (.array .int) := finOk_of (C := R_MO) (T := F_MO) (N := 31) rfl rfl (by decide +kernel)
theorem fk_MO_22 : finOk 9 22 (.array .int) := finOk_of (C := R_MO) (T := F_MO) (N := 31) rfl rfl (by decide +kernel)
theorem fk_MO_23 : finOk 9 23 (.array .int) := finOk_of (C := R_MO) (T := F_MO) (N := 31) rfl rfl (by decide +kernel)
theorem fk_MO_24 : finOk 9 24 (.array .int) := finOk_of (C := R_MO) (T := F_MO) (N := 31) rfl rfl (by decide +kernel)
theorem fk_MO_25 : finOk 9 25 (.array .int) := finOk_of (C := R_MO) (T := F_MO) (N := 31) rfl rfl (by decide +kernel)
theorem fk_MO_26 : finOk 9 26 (.array .long) := finOk_of (C := R_MO) (T := F_MO) (N := 31) rfl rfl (by decide +kernel)
theorem fk_MO_28 : finOk 9 28 (.array .boolean) := finOk_of (C := R_MO) (T := F_MO) (N := 31) rfl rfl (by decide +kernel)
theorem fk_MO_29 : finOk 9 29 (.array .int) := finOk_of (C := R_MO) (T := F_MO) (N := 31) rfl rfl (by decide +kernel)
theorem fk_MO_30 : finOk 9 30 (.array .int) := finOk_of (C := R_MO) (T := F_MO) (N := 31) rfl rfl (by decide +kernel)
theorem cn_SC_1 {Δ : Dl} {α : Nat → Nat} {E : Nat → va_E} {ks : List Nat} (h0 : 1 ∈ ks) (n2 : 2 ∉ ks) (hE : E 1 = .inr (5, [.null, .int 0, .int 0, .int 0, .int 0, .int 0])) : CtN Δ M_SC_init 2 1 104 [.ref (α 1)] α E ks (fun α' E' ks' => ∃ q2, α' = upf α 2 q2 ∧ E' = upf (upf E 2 (.inl (Δ.2.1 1, 104, .inl (fun _ => 0)))) 1 (.inr (5, [.ref q2, .int 0, .int 0, .int 0, .int 0, .int 0])) ∧ ks' = ks ++ [2]) := by
  refine ctn_intro (lv := [_]) (by decide +kernel) rfl (Nat.le_of_ble_eq_true rfl) rfl ?_
  refine wn_aload_n d_SC_init_0 rfl ?_
  refine wn_objInit d_SC_init_1 oi_SC oi_inst oi_code (by decide) (Nat.le_of_ble_eq_true rfl) ?_
  refine wn_aload_n d_SC_init_4 rfl ?_
  refine wn_bipush (v := 104) d_SC_init_5 rfl ?_
  refine wn_newa (t := 1) (k := 2) (N' := 104) (a0 := (104, .inl (fun _ => 0))) (ty := .byte) d_SC_init_7 ac_byte rfl rfl (fun _ _ h => h) (fun _ => rfl) (by decide) rfl (by decide) (by simp [n2]) (Nat.le_of_ble_eq_true rfl) (Nat.le_of_ble_eq_true rfl) (fun q2 => ?_)
  refine wn_putF (k := 1) (fs := [.null, .int 0, .int 0, .int 0, .int 0, .int 0]) f_SC_9 fk_SC_0 cl_SC rfl d_SC_init_9 (by first | exact hE | rfl) rfl (by simp [h0]) rfl rfl (Nat.le_of_ble_eq_true rfl) ?_
  exact wn_ret d_SC_init_12 rfl rfl ⟨q2, rfl, rfl, rfl⟩
theorem cn_PI_3 {Δ : Dl} {α : Nat → Nat} {E : Nat → va_E} {ks : List Nat} (h0 : 3 ∈ ks) (n4 : 4 ∉ ks) (n5 : 5 ∉ ks) (hE : E 3 = .inr (4, [.int 0, .int 0, .null, .null])) : CtN Δ M_PI_init 2 2 30 [.ref (α 3)] α E ks (fun α' E' ks' => ∃ q4 q5, α' = upf (upf α 4 q4) 5 q5 ∧ E' = upf (upf (upf (upf (upf (upf E 4 (.inl (Δ.2.1 0, 6, .inl (fun _ => 0)))) 3 (.inr (4, [.int 0, .int 0, .ref q4, .null]))) 5 (.inl (Δ.2.1 0, 24, .inl (fun _ => 0)))) 3 (.inr (4, [.int 0, .int 0, .ref q4, .ref q5]))) 3 (.inr (4, [.int 1, .int 0, .ref q4, .ref q5]))) 4 (.inl (Δ.2.1 0, 6, .inl (upd (fun _ => 0) 0 1))) ∧ ks' = ks ++ [4] ++ [5]) := by
  refine ctn_intro (lv := [_]) (by decide +kernel) rfl (Nat.le_of_ble_eq_true rfl) rfl ?_
  refine wn_aload_n d_PI_init_0 rfl ?_
  refine wn_objInit d_PI_init_1 oi_PI oi_inst oi_code (by decide) (Nat.le_of_ble_eq_true rfl) ?_
  refine wn_aload_n d_PI_init_4 rfl ?_
  refine wn_bipush (v := 6) d_PI_init_5 rfl ?_
  refine wn_newa (t := 0) (k := 4) (N' := 6) (a0 := (6, .inl (fun _ => 0))) (ty := .int) d_PI_init_7 ac_int rfl rfl (fun _ _ h => h) (fun _ => rfl) (by decide) rfl (by decide) (by simp [n4]) (Nat.le_of_ble_eq_true rfl) (Nat.le_of_ble_eq_true rfl) (fun q4 => ?_)
  refine wn_putF (k := 3) (fs := [.int 0, .int 0, .null, .null]) f_PI_9 fk_PI_2 cl_PI rfl d_PI_init_9 (by first | exact hE | rfl) rfl (by simp [h0]) rfl rfl (Nat.le_of_ble_eq_true rfl) ?_
  refine wn_aload_n d_PI_init_12 rfl ?_
  refine wn_bipush (v := 24) d_PI_init_13 rfl ?_
  refine wn_newa (t := 0) (k := 5) (N' := 24) (a0 := (24, .inl (fun _ => 0))) (ty := .int) d_PI_init_15 ac_int rfl rfl (fun _ _ h => h) (fun _ => rfl) (by decide) rfl (by decide) (by simp [n5]) (Nat.le_of_ble_eq_true rfl) (Nat.le_of_ble_eq_true rfl) (fun q5 => ?_)
  refine wn_putF (k := 3) (fs := [.int 0, .int 0, .ref q4, .null]) f_PI_15 fk_PI_3 cl_PI rfl d_PI_init_17 rfl rfl (by simp [h0]) rfl rfl (Nat.le_of_ble_eq_true rfl) ?_
  refine wn_aload_n d_PI_init_20 rfl ?_
  refine wn_iconst (v := 1) d_PI_init_21 rfl ?_
  refine wn_put (k := 3) (fs := [.int 0, .int 0, .ref q4, .ref q5]) f_PI_18 pk_PI_0 cl_PI d_PI_init_22 rfl rfl (by simp [h0]) rfl rfl (Nat.le_of_ble_eq_true rfl) ?_
  refine wn_aload_n d_PI_init_25 rfl ?_
  refine wn_get (k := 3) f_PI_9 cl_PI d_PI_init_26 rfl rfl (by simp [h0]) rfl ?_
  refine wn_iconst (v := 0) d_PI_init_29 rfl ?_
  refine wn_iconst (v := 1) d_PI_init_30 rfl ?_
  refine wn_iast (k := 4) d_PI_init_31 rfl rfl (by simp) (by unfold vp_in; decide) ?_
  exact wn_ret d_PI_init_32 rfl rfl ⟨q4, q5, rfl, rfl, rfl⟩
theorem cn_PE_6 {Δ : Dl} {α : Nat → Nat} {E : Nat → va_E} {ks : List Nat} (h0 : 6 ∈ ks) (n7 : 7 ∉ ks) (n8 : 8 ∉ ks) (n9 : 9 ∉ ks) (n10 : 10 ∉ ks) (n11 : 11 ∉ ks) (hE : E 6 = .inr (2, [.int 0, .int 0, .int 0, .null, .null, .null, .null, .null])) : CtN Δ M_PE_init 2 5 60 [.ref (α 6)] α E ks (fun α' E' ks' => ∃ q7 q8 q9 q10 q11, α' = upf (upf (upf (upf (upf α 7 q7) 8 q8) 9 q9) 10 q10) 11 q11 ∧ E' = upf (upf (upf (upf (upf (upf (upf (upf (upf (upf E 7 (.inl (Δ.2.1 0, 12, .inl (fun _ => 0)))) 6 (.inr (2, [.int 0, .int 0, .int 0, .ref q7, .null, .null, .null, .null]))) 8 (.inl (Δ.2.1 0, 12, .inl (fun _ => 0)))) 6 (.inr (2, [.int 0, .int 0, .int 0, .ref q7, .ref q8, .null, .null, .null]))) 9 (.inl (Δ.2.1 0, 12, .inl (fun _ => 0)))) 6 (.inr (2, [.int 0, .int 0, .int 0, .ref q7, .ref q8, .ref q9, .null, .null]))) 10 (.inl (Δ.2.1 0, 12, .inl (fun _ => 0)))) 6 (.inr (2, [.int 0, .int 0, .int 0, .ref q7, .ref q8, .ref q9, .ref q10, .null]))) 11 (.inl (Δ.2.1 2, 12, .inl (fun _ => 0)))) 6 (.inr (2, [.int 0, .int 0, .int 0, .ref q7, .ref q8, .ref q9, .ref q10, .ref q11])) ∧ ks' = ks ++ [7] ++ [8] ++ [9] ++ [10] ++ [11]) := by
  refine ctn_intro (lv := [_]) (by decide +kernel) rfl (Nat.le_of_ble_eq_true rfl) rfl ?_
  refine wn_aload_n d_PE_init_0 rfl ?_
  refine wn_objInit d_PE_init_1 oi_PE oi_inst oi_code (by decide) (Nat.le_of_ble_eq_true rfl) ?_
  refine wn_aload_n d_PE_init_4 rfl ?_
  refine wn_bipush (v := 12) d_PE_init_5 rfl ?_
  refine wn_newa (t := 0) (k := 7) (N' := 12) (a0 := (12, .inl (fun _ => 0))) (ty := .int) d_PE_init_7 ac_int rfl rfl (fun _ _ h => h) (fun _ => rfl) (by decide) rfl (by decide) (by simp [n7]) (Nat.le_of_ble_eq_true rfl) (Nat.le_of_ble_eq_true rfl) (fun q7 => ?_)
  refine wn_putF (k := 6) (fs := [.int 0, .int 0, .int 0, .null, .null, .null, .null, .null]) f_PE_9 fk_PE_3 cl_PE rfl d_PE_init_9 (by first | exact hE | rfl) rfl (by simp [h0]) rfl rfl (Nat.le_of_ble_eq_true rfl) ?_
  refine wn_aload_n d_PE_init_12 rfl ?_
  refine wn_bipush (v := 12) d_PE_init_13 rfl ?_
  refine wn_newa (t := 0) (k := 8) (N' := 12) (a0 := (12, .inl (fun _ => 0))) (ty := .int) d_PE_init_15 ac_int rfl rfl (fun _ _ h => h) (fun _ => rfl) (by decide) rfl (by decide) (by simp [n8]) (Nat.le_of_ble_eq_true rfl) (Nat.le_of_ble_eq_true rfl) (fun q8 => ?_)
  refine wn_putF (k := 6) (fs := [.int 0, .int 0, .int 0, .ref q7, .null, .null, .null, .null]) f_PE_15 fk_PE_4 cl_PE rfl d_PE_init_17 rfl rfl (by simp [h0]) rfl rfl (Nat.le_of_ble_eq_true rfl) ?_
  refine wn_aload_n d_PE_init_20 rfl ?_
  refine wn_bipush (v := 12) d_PE_init_21 rfl ?_
  refine wn_newa (t := 0) (k := 9) (N' := 12) (a0 := (12, .inl (fun _ => 0))) (ty := .int) d_PE_init_23 ac_int rfl rfl (fun _ _ h => h) (fun _ => rfl) (by decide) rfl (by decide) (by simp [n9]) (Nat.le_of_ble_eq_true rfl) (Nat.le_of_ble_eq_true rfl) (fun q9 => ?_)
  refine wn_putF (k := 6) (fs := [.int 0, .int 0, .int 0, .ref q7, .ref q8, .null, .null, .null]) f_PE_18 fk_PE_5 cl_PE rfl d_PE_init_25 rfl rfl (by simp [h0]) rfl rfl (Nat.le_of_ble_eq_true rfl) ?_
  refine wn_aload_n d_PE_init_28 rfl ?_
  refine wn_bipush (v := 12) d_PE_init_29 rfl ?_
  refine wn_newa (t := 0) (k := 10) (N' := 12) (a0 := (12, .inl (fun _ => 0))) (ty := .int) d_PE_init_31 ac_int rfl rfl (fun _ _ h => h) (fun _ => rfl) (by decide) rfl (by decide) (by simp [n10]) (Nat.le_of_ble_eq_true rfl) (Nat.le_of_ble_eq_true rfl) (fun q10 => ?_)
  refine wn_putF (k := 6) (fs := [.int 0, .int 0, .int 0, .ref q7, .ref q8, .ref q9, .null, .null]) f_PE_21 fk_PE_6 cl_PE rfl d_PE_init_33 rfl rfl (by simp [h0]) rfl rfl (Nat.le_of_ble_eq_true rfl) ?_
  refine wn_aload_n d_PE_init_36 rfl ?_
  refine wn_bipush (v := 12) d_PE_init_37 rfl ?_
  refine wn_newa (t := 2) (k := 11) (N' := 12) (a0 := (12, .inl (fun _ => 0))) (ty := .boolean) d_PE_init_39 ac_boolean rfl rfl (fun _ _ h => h) (fun _ => rfl) (by decide) rfl (by decide) (by simp [n11]) (Nat.le_of_ble_eq_true rfl) (Nat.le_of_ble_eq_true rfl) (fun q11 => ?_)
  refine wn_putF (k := 6) (fs := [.int 0, .int 0, .int 0, .ref q7, .ref q8, .ref q9, .ref q10, .null]) f_PE_24 fk_PE_7 cl_PE rfl d_PE_init_41 rfl rfl (by simp [h0]) rfl rfl (Nat.le_of_ble_eq_true rfl) ?_
  exact wn_ret d_PE_init_44 rfl rfl ⟨q7, q8, q9, q10, q11, rfl, rfl, rfl⟩
theorem cn_PE_12 {Δ : Dl} {α : Nat → Nat} {E : Nat → va_E} {ks : List Nat} (h0 : 12 ∈ ks) (n13 : 13 ∉ ks) (n14 : 14 ∉ ks) (n15 : 15 ∉ ks) (n16 : 16 ∉ ks) (n17 : 17 ∉ ks) (hE : E 12 = .inr (2, [.int 0, .int 0, .int 0, .null, .null, .null, .null, .null])) : CtN Δ M_PE_init 2 5 60 [.ref (α 12)] α E ks (fun α' E' ks' => ∃ q13 q14 q15 q16 q17, α' = upf (upf (upf (upf (upf α 13 q13) 14 q14) 15 q15) 16 q16) 17 q17 ∧ E' = upf (upf (upf (upf (upf (upf (upf (upf (upf (upf E 13 (.inl (Δ.2.1 0, 12, .inl (fun _ => 0)))) 12 (.inr (2, [.int 0, .int 0, .int 0, .ref q13, .null, .null, .null, .null]))) 14 (.inl (Δ.2.1 0, 12, .inl (fun _ => 0)))) 12 (.inr (2, [.int 0, .int 0, .int 0, .ref q13, .ref q14, .null, .null, .null]))) 15 (.inl (Δ.2.1 0, 12, .inl (fun _ => 0)))) 12 (.inr (2, [.int 0, .int 0, .int 0, .ref q13, .ref q14, .ref q15, .null, .null]))) 16 (.inl (Δ.2.1 0, 12, .inl (fun _ => 0)))) 12 (.inr (2, [.int 0, .int 0, .int 0, .ref q13, .ref q14, .ref q15, .ref q16, .null]))) 17 (.inl (Δ.2.1 2, 12, .inl (fun _ => 0)))) 12 (.inr (2, [.int 0, .int 0, .int 0, .ref q13, .ref q14, .ref q15, .ref q16, .ref q17])) ∧ ks' = ks ++ [13] ++ [14] ++ [15] ++ [16] ++ [17]) := by
  refine ctn_intro (lv := [_]) (by decide +kernel) rfl (Nat.le_of_ble_eq_true rfl) rfl ?_
  refine wn_aload_n d_PE_init_0 rfl ?_
  refine wn_objInit d_PE_init_1 oi_PE oi_inst oi_code (by decide) (Nat.le_of_ble_eq_true rfl) ?_
  refine wn_aload_n d_PE_init_4 rfl ?_
  refine wn_bipush (v := 12) d_PE_init_5 rfl ?_
  refine wn_newa (t := 0) (k := 13) (N' := 12) (a0 := (12, .inl (fun _ => 0))) (ty := .int) d_PE_init_7 ac_int rfl rfl (fun _ _ h => h) (fun _ => rfl) (by decide) rfl (by decide) (by simp [n13]) (Nat.le_of_ble_eq_true rfl) (Nat.le_of_ble_eq_true rfl) (fun q13 => ?_)
  refine wn_putF (k := 12) (fs := [.int 0, .int 0, .int 0, .null, .null, .null, .null, .null]) f_PE_9 fk_PE_3 cl_PE rfl d_PE_init_9 (by first | exact hE | rfl) rfl (by simp [h0]) rfl rfl (Nat.le_of_ble_eq_true rfl) ?_
  refine wn_aload_n d_PE_init_12 rfl ?_
  refine wn_bipush (v := 12) d_PE_init_13 rfl ?_
  refine wn_newa (t := 0) (k := 14) (N' := 12) (a0 := (12, .inl (fun _ => 0))) (ty := .int) d_PE_init_15 ac_int rfl rfl (fun _ _ h => h) (fun _ => rfl) (by decide) rfl (by decide) (by simp [n14]) (Nat.le_of_ble_eq_true rfl) (Nat.le_of_ble_eq_true rfl) (fun q14 => ?_)
  refine wn_putF (k := 12) (fs := [.int 0, .int 0, .int 0, .ref q13, .null, .null, .null, .null]) f_PE_15 fk_PE_4 cl_PE rfl d_PE_init_17 rfl rfl (by simp [h0]) rfl rfl (Nat.le_of_ble_eq_true rfl) ?_
  refine wn_aload_n d_PE_init_20 rfl ?_
  refine wn_bipush (v := 12) d_PE_init_21 rfl ?_
  refine wn_newa (t := 0) (k := 15) (N' := 12) (a0 := (12, .inl (fun _ => 0))) (ty := .int) d_PE_init_23 ac_int rfl rfl (fun _ _ h => h) (fun _ => rfl) (by decide) rfl (by decide) (by simp [n15]) (Nat.le_of_ble_eq_true rfl) (Nat.le_of_ble_eq_true rfl) (fun q15 => ?_)
  refine wn_putF (k := 12) (fs := [.int 0, .int 0, .int 0, .ref q13, .ref q14, .null, .null, .null]) f_PE_18 fk_PE_5 cl_PE rfl d_PE_init_25 rfl rfl (by simp [h0]) rfl rfl (Nat.le_of_ble_eq_true rfl) ?_
  refine wn_aload_n d_PE_init_28 rfl ?_
  refine wn_bipush (v := 12) d_PE_init_29 rfl ?_
  refine wn_newa (t := 0) (k := 16) (N' := 12) (a0 := (12, .inl (fun _ => 0))) (ty := .int) d_PE_init_31 ac_int rfl rfl (fun _ _ h => h) (fun _ => rfl) (by decide) rfl (by decide) (by simp [n16]) (Nat.le_of_ble_eq_true rfl) (Nat.le_of_ble_eq_true rfl) (fun q16 => ?_)
  refine wn_putF (k := 12) (fs := [.int 0, .int 0, .int 0, .ref q13, .ref q14, .ref q15, .null, .null]) f_PE_21 fk_PE_6 cl_PE rfl d_PE_init_33 rfl rfl (by simp [h0]) rfl rfl (Nat.le_of_ble_eq_true rfl) ?_
  refine wn_aload_n d_PE_init_36 rfl ?_
  refine wn_bipush (v := 12) d_PE_init_37 rfl ?_
  refine wn_newa (t := 2) (k := 17) (N' := 12) (a0 := (12, .inl (fun _ => 0))) (ty := .boolean) d_PE_init_39 ac_boolean rfl rfl (fun _ _ h => h) (fun _ => rfl) (by decide) rfl (by decide) (by simp [n17]) (Nat.le_of_ble_eq_true rfl) (Nat.le_of_ble_eq_true rfl) (fun q17 => ?_)
  refine wn_putF (k := 12) (fs := [.int 0, .int 0, .int 0, .ref q13, .ref q14, .ref q15, .ref q16, .null]) f_PE_24 fk_PE_7 cl_PE rfl d_PE_init_41 rfl rfl (by simp [h0]) rfl rfl (Nat.le_of_ble_eq_true rfl) ?_
  exact wn_ret d_PE_init_44 rfl rfl ⟨q13, q14, q15, q16, q17, rfl, rfl, rfl⟩
theorem cn_PE_18 {Δ : Dl} {α : Nat → Nat} {E : Nat → va_E} {ks : List Nat} (h0 : 18 ∈ ks) (n19 : 19 ∉ ks) (n20 : 20 ∉ ks) (n21 : 21 ∉ ks) (n22 : 22 ∉ ks) (n23 : 23 ∉ ks) (hE : E 18 = .inr (2, [.int 0, .int 0, .int 0, .null, .null, .null, .null, .null])) : CtN Δ M_PE_init 2 5 60 [.ref (α 18)] α E ks (fun α' E' ks' => ∃ q19 q20 q21 q22 q23, α' = upf (upf (upf (upf (upf α 19 q19) 20 q20) 21 q21) 22 q22) 23 q23 ∧ E' = upf (upf (upf (upf (upf (upf (upf (upf (upf (upf E 19 (.inl (Δ.2.1 0, 12, .inl (fun _ => 0)))) 18 (.inr (2, [.int 0, .int 0, .int 0, .ref q19, .null, .null, .null, .null]))) 20 (.inl (Δ.2.1 0, 12, .inl (fun _ => 0)))) 18 (.inr (2, [.int 0, .int 0, .int 0, .ref q19, .ref q20, .null, .null, .null]))) 21 (.inl (Δ.2.1 0, 12, .inl (fun _ => 0)))) 18 (.inr (2, [.int 0, .int 0, .int 0, .ref q19, .ref q20, .ref q21, .null, .null]))) 22 (.inl (Δ.2.1 0, 12, .inl (fun _ => 0)))) 18 (.inr (2, [.int 0, .int 0, .int 0, .ref q19, .ref q20, .ref q21, .ref q22, .null]))) 23 (.inl (Δ.2.1 2, 12, .inl (fun _ => 0)))) 18 (.inr (2, [.int 0, .int 0, .int 0, .ref q19, .ref q20, .ref q21, .ref q22, .ref q23])) ∧ ks' = ks ++ [19] ++ [20] ++ [21] ++ [22] ++ [23]) := by
  refine ctn_intro (lv := [_]) (by decide +kernel) rfl (Nat.le_of_ble_eq_true rfl) rfl ?_
  refine wn_aload_n d_PE_init_0 rfl ?_
  refine wn_objInit d_PE_init_1 oi_PE oi_inst oi_code (by decide) (Nat.le_of_ble_eq_true rfl) ?_
  refine wn_aload_n d_PE_init_4 rfl ?_
  refine wn_bipush (v := 12) d_PE_init_5 rfl ?_
  refine wn_newa (t := 0) (k := 19) (N' := 12) (a0 := (12, .inl (fun _ => 0))) (ty := .int) d_PE_init_7 ac_int rfl rfl (fun _ _ h => h) (fun _ => rfl) (by decide) rfl (by decide) (by simp [n19]) (Nat.le_of_ble_eq_true rfl) (Nat.le_of_ble_eq_true rfl) (fun q19 => ?_)
  refine wn_putF (k := 18) (fs := [.int 0, .int 0, .int 0, .null, .null, .null, .null, .null]) f_PE_9 fk_PE_3 cl_PE rfl d_PE_init_9 (by first | exact hE | rfl) rfl (by simp [h0]) rfl rfl (Nat.le_of_ble_eq_true rfl) ?_
  refine wn_aload_n d_PE_init_12 rfl ?_
  refine wn_bipush (v := 12) d_PE_init_13 rfl ?_
  refine wn_newa (t := 0) (k := 20) (N' := 12) (a0 := (12, .inl (fun _ => 0))) (ty := .int) d_PE_init_15 ac_int rfl rfl (fun _ _ h => h) (fun _ => rfl) (by decide) rfl (by decide) (by simp [n20]) (Nat.le_of_ble_eq_true rfl) (Nat.le_of_ble_eq_true rfl) (fun q20 => ?_)
  refine wn_putF (k := 18) (fs := [.int 0, .int 0, .int 0, .ref q19, .null, .null, .null, .null]) f_PE_15 fk_PE_4 cl_PE rfl d_PE_init_17 rfl rfl (by simp [h0]) rfl rfl (Nat.le_of_ble_eq_true rfl) ?_
  refine wn_aload_n d_PE_init_20 rfl ?_
  refine wn_bipush (v := 12) d_PE_init_21 rfl ?_
  refine wn_newa (t := 0) (k := 21) (N' := 12) (a0 := (12, .inl (fun _ => 0))) (ty := .int) d_PE_init_23 ac_int rfl rfl (fun _ _ h => h) (fun _ => rfl) (by decide) rfl (by decide) (by simp [n21]) (Nat.le_of_ble_eq_true rfl) (Nat.le_of_ble_eq_true rfl) (fun q21 => ?_)
  refine wn_putF (k := 18) (fs := [.int 0, .int 0, .int 0, .ref q19, .ref q20, .null, .null, .null]) f_PE_18 fk_PE_5 cl_PE rfl d_PE_init_25 rfl rfl (by simp [h0]) rfl rfl (Nat.le_of_ble_eq_true rfl) ?_
  refine wn_aload_n d_PE_init_28 rfl ?_
  refine wn_bipush (v := 12) d_PE_init_29 rfl ?_
  refine wn_newa (t := 0) (k := 22) (N' := 12) (a0 := (12, .inl (fun _ => 0))) (ty := .int) d_PE_init_31 ac_int rfl rfl (fun _ _ h => h) (fun _ => rfl) (by decide) rfl (by decide) (by simp [n22]) (Nat.le_of_ble_eq_true rfl) (Nat.le_of_ble_eq_true rfl) (fun q22 => ?_)
  refine wn_putF (k := 18) (fs := [.int 0, .int 0, .int 0, .ref q19, .ref q20, .ref q21, .null, .null]) f_PE_21 fk_PE_6 cl_PE rfl d_PE_init_33 rfl rfl (by simp [h0]) rfl rfl (Nat.le_of_ble_eq_true rfl) ?_
  refine wn_aload_n d_PE_init_36 rfl ?_
  refine wn_bipush (v := 12) d_PE_init_37 rfl ?_
  refine wn_newa (t := 2) (k := 23) (N' := 12) (a0 := (12, .inl (fun _ => 0))) (ty := .boolean) d_PE_init_39 ac_boolean rfl rfl (fun _ _ h => h) (fun _ => rfl) (by decide) rfl (by decide) (by simp [n23]) (Nat.le_of_ble_eq_true rfl) (Nat.le_of_ble_eq_true rfl) (fun q23 => ?_)
  refine wn_putF (k := 18) (fs := [.int 0, .int 0, .int 0, .ref q19, .ref q20, .ref q21, .ref q22, .null]) f_PE_24 fk_PE_7 cl_PE rfl d_PE_init_41 rfl rfl (by simp [h0]) rfl rfl (Nat.le_of_ble_eq_true rfl) ?_
  exact wn_ret d_PE_init_44 rfl rfl ⟨q19, q20, q21, q22, q23, rfl, rfl, rfl⟩
theorem cn_MA_24 {Δ : Dl} {α : Nat → Nat} {E : Nat → va_E} {ks : List Nat} (h0 : 24 ∈ ks) (n25 : 25 ∉ ks) (n26 : 26 ∉ ks) (n27 : 27 ∉ ks) (hE : E 24 = .inr (1, [.null, .null, .null, .null, .null])) : CtN Δ M_MA_init 2 3 72 [.ref (α 24), .ref (α 3), .ref (α 6)] α E ks (fun α' E' ks' => ∃ q25 q26 q27, α' = upf (upf (upf α 25 q25) 26 q26) 27 q27 ∧ E' = upf (upf (upf (upf (upf (upf (upf (upf E 24 (.inr (1, [.ref (α 3), .null, .null, .null, .null]))) 24 (.inr (1, [.ref (α 3), .ref (α 6), .null, .null, .null]))) 25 (.inl (Δ.2.1 0, 24, .inl (fun _ => 0)))) 24 (.inr (1, [.ref (α 3), .ref (α 6), .ref q25, .null, .null]))) 26 (.inl (Δ.2.1 0, 24, .inl (fun _ => 0)))) 24 (.inr (1, [.ref (α 3), .ref (α 6), .ref q25, .ref q26, .null]))) 27 (.inl (Δ.2.1 0, 24, .inl (fun _ => 0)))) 24 (.inr (1, [.ref (α 3), .ref (α 6), .ref q25, .ref q26, .ref q27])) ∧ ks' = ks ++ [25] ++ [26] ++ [27]) := by
  refine ctn_intro (lv := [_, _, _]) (by decide +kernel) rfl (Nat.le_of_ble_eq_true rfl) rfl ?_
  refine wn_aload_n d_MA_init_0 rfl ?_
  refine wn_objInit d_MA_init_1 oi_MA oi_inst oi_code (by decide) (Nat.le_of_ble_eq_true rfl) ?_
  refine wn_aload_n d_MA_init_4 rfl ?_
  refine wn_aload_n d_MA_init_5 rfl ?_
  refine wn_putF (k := 24) (fs := [.null, .null, .null, .null, .null]) f_MA_9 fk_MA_0 cl_MA rfl d_MA_init_6 (by first | exact hE | rfl) rfl (by simp [h0]) rfl rfl (Nat.le_of_ble_eq_true rfl) ?_
  refine wn_aload_n d_MA_init_9 rfl ?_
  refine wn_aload_n d_MA_init_10 rfl ?_
  refine wn_putF (k := 24) (fs := [.ref (α 3), .null, .null, .null, .null]) f_MA_15 fk_MA_1 cl_MA rfl d_MA_init_11 rfl rfl (by simp [h0]) rfl rfl (Nat.le_of_ble_eq_true rfl) ?_
  refine wn_aload_n d_MA_init_14 rfl ?_
  refine wn_bipush (v := 24) d_MA_init_15 rfl ?_
  refine wn_newa (t := 0) (k := 25) (N' := 24) (a0 := (24, .inl (fun _ => 0))) (ty := .int) d_MA_init_17 ac_int rfl rfl (fun _ _ h => h) (fun _ => rfl) (by decide) rfl (by decide) (by simp [n25]) (Nat.le_of_ble_eq_true rfl) (Nat.le_of_ble_eq_true rfl) (fun q25 => ?_)
  refine wn_putF (k := 24) (fs := [.ref (α 3), .ref (α 6), .null, .null, .null]) f_MA_19 fk_MA_2 cl_MA rfl d_MA_init_19 rfl rfl (by simp [h0]) rfl rfl (Nat.le_of_ble_eq_true rfl) ?_
  refine wn_aload_n d_MA_init_22 rfl ?_
  refine wn_bipush (v := 24) d_MA_init_23 rfl ?_
  refine wn_newa (t := 0) (k := 26) (N' := 24) (a0 := (24, .inl (fun _ => 0))) (ty := .int) d_MA_init_25 ac_int rfl rfl (fun _ _ h => h) (fun _ => rfl) (by decide) rfl (by decide) (by simp [n26]) (Nat.le_of_ble_eq_true rfl) (Nat.le_of_ble_eq_true rfl) (fun q26 => ?_)
  refine wn_putF (k := 24) (fs := [.ref (α 3), .ref (α 6), .ref q25, .null, .null]) f_MA_23 fk_MA_3 cl_MA rfl d_MA_init_27 rfl rfl (by simp [h0]) rfl rfl (Nat.le_of_ble_eq_true rfl) ?_
  refine wn_aload_n d_MA_init_30 rfl ?_
  refine wn_bipush (v := 24) d_MA_init_31 rfl ?_
  refine wn_newa (t := 0) (k := 27) (N' := 24) (a0 := (24, .inl (fun _ => 0))) (ty := .int) d_MA_init_33 ac_int rfl rfl (fun _ _ h => h) (fun _ => rfl) (by decide) rfl (by decide) (by simp [n27]) (Nat.le_of_ble_eq_true rfl) (Nat.le_of_ble_eq_true rfl) (fun q27 => ?_)
  refine wn_putF (k := 24) (fs := [.ref (α 3), .ref (α 6), .ref q25, .ref q26, .null]) f_MA_26 fk_MA_4 cl_MA rfl d_MA_init_35 rfl rfl (by simp [h0]) rfl rfl (Nat.le_of_ble_eq_true rfl) ?_
  exact wn_ret d_MA_init_38 rfl rfl ⟨q25, q26, q27, rfl, rfl, rfl⟩
theorem cn_PH_28 {Δ : Dl} {α : Nat → Nat} {E : Nat → va_E} {ks : List Nat} (h0 : 28 ∈ ks) (n29 : 29 ∉ ks) (n30 : 30 ∉ ks) (n31 : 31 ∉ ks) (n32 : 32 ∉ ks) (hE : E 28 = .inr (3, [.null, .null, .null, .null, .null, .null, .int 0, .int 0, .int 0])) : CtN Δ M_PH_init 2 4 17 [.ref (α 28), .ref (α 6), .ref (α 24)] α E ks (fun α' E' ks' => ∃ q29 q30 q31 q32, α' = upf (upf (upf (upf α 29 q29) 30 q30) 31 q31) 32 q32 ∧ E' = upf (upf (upf (upf (upf (upf (upf (upf (upf (upf E 28 (.inr (3, [.ref (α 6), .null, .null, .null, .null, .null, .int 0, .int 0, .int 0]))) 28 (.inr (3, [.ref (α 6), .ref (α 24), .null, .null, .null, .null, .int 0, .int 0, .int 0]))) 29 (.inl (Δ.2.1 0, 4, .inl (fun _ => 0)))) 28 (.inr (3, [.ref (α 6), .ref (α 24), .ref q29, .null, .null, .null, .int 0, .int 0, .int 0]))) 30 (.inl (Δ.2.1 0, 4, .inl (fun _ => 0)))) 28 (.inr (3, [.ref (α 6), .ref (α 24), .ref q29, .ref q30, .null, .null, .int 0, .int 0, .int 0]))) 31 (.inl (Δ.2.1 0, 4, .inl (fun _ => 0)))) 28 (.inr (3, [.ref (α 6), .ref (α 24), .ref q29, .ref q30, .ref q31, .null, .int 0, .int 0, .int 0]))) 32 (.inl (Δ.2.1 0, 5, .inl (fun _ => 0)))) 28 (.inr (3, [.ref (α 6), .ref (α 24), .ref q29, .ref q30, .ref q31, .ref q32, .int 0, .int 0, .int 0])) ∧ ks' = ks ++ [29] ++ [30] ++ [31] ++ [32]) := by
  refine ctn_intro (lv := [_, _, _]) (by decide +kernel) rfl (Nat.le_of_ble_eq_true rfl) rfl ?_
  refine wn_aload_n d_PH_init_0 rfl ?_
  refine wn_objInit d_PH_init_1 oi_PH oi_inst oi_code (by decide) (Nat.le_of_ble_eq_true rfl) ?_
  refine wn_aload_n d_PH_init_4 rfl ?_
  refine wn_aload_n d_PH_init_5 rfl ?_
  refine wn_putF (k := 28) (fs := [.null, .null, .null, .null, .null, .null, .int 0, .int 0, .int 0]) f_PH_9 fk_PH_0 cl_PH rfl d_PH_init_6 (by first | exact hE | rfl) rfl (by simp [h0]) rfl rfl (Nat.le_of_ble_eq_true rfl) ?_
  refine wn_aload_n d_PH_init_9 rfl ?_
  refine wn_aload_n d_PH_init_10 rfl ?_
  refine wn_putF (k := 28) (fs := [.ref (α 6), .null, .null, .null, .null, .null, .int 0, .int 0, .int 0]) f_PH_15 fk_PH_1 cl_PH rfl d_PH_init_11 rfl rfl (by simp [h0]) rfl rfl (Nat.le_of_ble_eq_true rfl) ?_
  refine wn_aload_n d_PH_init_14 rfl ?_
  refine wn_iconst (v := 4) d_PH_init_15 rfl ?_
  refine wn_newa (t := 0) (k := 29) (N' := 4) (a0 := (4, .inl (fun _ => 0))) (ty := .int) d_PH_init_16 ac_int rfl rfl (fun _ _ h => h) (fun _ => rfl) (by decide) rfl (by decide) (by simp [n29]) (Nat.le_of_ble_eq_true rfl) (Nat.le_of_ble_eq_true rfl) (fun q29 => ?_)
  refine wn_putF (k := 28) (fs := [.ref (α 6), .ref (α 24), .null, .null, .null, .null, .int 0, .int 0, .int 0]) f_PH_19 fk_PH_2 cl_PH rfl d_PH_init_18 rfl rfl (by simp [h0]) rfl rfl (Nat.le_of_ble_eq_true rfl) ?_
  refine wn_aload_n d_PH_init_21 rfl ?_
  refine wn_iconst (v := 4) d_PH_init_22 rfl ?_
  refine wn_newa (t := 0) (k := 30) (N' := 4) (a0 := (4, .inl (fun _ => 0))) (ty := .int) d_PH_init_23 ac_int rfl rfl (fun _ _ h => h) (fun _ => rfl) (by decide) rfl (by decide) (by simp [n30]) (Nat.le_of_ble_eq_true rfl) (Nat.le_of_ble_eq_true rfl) (fun q30 => ?_)
  refine wn_putF (k := 28) (fs := [.ref (α 6), .ref (α 24), .ref q29, .null, .null, .null, .int 0, .int 0, .int 0]) f_PH_23 fk_PH_3 cl_PH rfl d_PH_init_25 rfl rfl (by simp [h0]) rfl rfl (Nat.le_of_ble_eq_true rfl) ?_
  refine wn_aload_n d_PH_init_28 rfl ?_
  refine wn_iconst (v := 4) d_PH_init_29 rfl ?_
  refine wn_newa (t := 0) (k := 31) (N' := 4) (a0 := (4, .inl (fun _ => 0))) (ty := .int) d_PH_init_30 ac_int rfl rfl (fun _ _ h => h) (fun _ => rfl) (by decide) rfl (by decide) (by simp [n31]) (Nat.le_of_ble_eq_true rfl) (Nat.le_of_ble_eq_true rfl) (fun q31 => ?_)
  refine wn_putF (k := 28) (fs := [.ref (α 6), .ref (α 24), .ref q29, .ref q30, .null, .null, .int 0, .int 0, .int 0]) f_PH_26 fk_PH_4 cl_PH rfl d_PH_init_32 rfl rfl (by simp [h0]) rfl rfl (Nat.le_of_ble_eq_true rfl) ?_
  refine wn_aload_n d_PH_init_35 rfl ?_
  refine wn_iconst (v := 5) d_PH_init_36 rfl ?_
  refine wn_newa (t := 0) (k := 32) (N' := 5) (a0 := (5, .inl (fun _ => 0))) (ty := .int) d_PH_init_37 ac_int rfl rfl (fun _ _ h => h) (fun _ => rfl) (by decide) rfl (by decide) (by simp [n32]) (Nat.le_of_ble_eq_true rfl) (Nat.le_of_ble_eq_true rfl) (fun q32 => ?_)
  refine wn_putF (k := 28) (fs := [.ref (α 6), .ref (α 24), .ref q29, .ref q30, .ref q31, .null, .int 0, .int 0, .int 0]) f_PH_29 fk_PH_5 cl_PH rfl d_PH_init_39 rfl rfl (by simp [h0]) rfl rfl (Nat.le_of_ble_eq_true rfl) ?_
  exact wn_ret d_PH_init_42 rfl rfl ⟨q29, q30, q31, q32, rfl, rfl, rfl⟩
theorem cn_SE_33 {Δ : Dl} {α : Nat → Nat} {E : Nat → va_E} {ks : List Nat} (h0 : 33 ∈ ks) (n34 : 34 ∉ ks) (n35 : 35 ∉ ks) (hE : E 33 = .inr (6, [.null, .null, .null, .null, .null])) : CtN Δ M_SE_init 2 2 448 [.ref (α 33), .ref (α 3), .ref (α 6), .ref (α 24)] α E ks (fun α' E' ks' => ∃ q34 q35, α' = upf (upf α 34 q34) 35 q35 ∧ E' = upf (upf (upf (upf (upf (upf (upf E 33 (.inr (6, [.ref (α 3), .null, .null, .null, .null]))) 33 (.inr (6, [.ref (α 3), .ref (α 6), .null, .null, .null]))) 33 (.inr (6, [.ref (α 3), .ref (α 6), .ref (α 24), .null, .null]))) 34 (.inl (Δ.2.1 0, 384, .inl (fun _ => 0)))) 33 (.inr (6, [.ref (α 3), .ref (α 6), .ref (α 24), .ref q34, .null]))) 35 (.inl (Δ.2.1 0, 64, .inl (fun _ => 0)))) 33 (.inr (6, [.ref (α 3), .ref (α 6), .ref (α 24), .ref q34, .ref q35])) ∧ ks' = ks ++ [34] ++ [35]) := by
  refine ctn_intro (lv := [_, _, _, _]) (by decide +kernel) rfl (Nat.le_of_ble_eq_true rfl) rfl ?_
  refine wn_aload_n d_SE_init_0 rfl ?_
  refine wn_objInit d_SE_init_1 oi_SE oi_inst oi_code (by decide) (Nat.le_of_ble_eq_true rfl) ?_
  refine wn_aload_n d_SE_init_4 rfl ?_
  refine wn_aload_n d_SE_init_5 rfl ?_
  refine wn_putF (k := 33) (fs := [.null, .null, .null, .null, .null]) f_SE_9 fk_SE_0 cl_SE rfl d_SE_init_6 (by first | exact hE | rfl) rfl (by simp [h0]) rfl rfl (Nat.le_of_ble_eq_true rfl) ?_
  refine wn_aload_n d_SE_init_9 rfl ?_
  refine wn_aload_n d_SE_init_10 rfl ?_
  refine wn_putF (k := 33) (fs := [.ref (α 3), .null, .null, .null, .null]) f_SE_15 fk_SE_1 cl_SE rfl d_SE_init_11 rfl rfl (by simp [h0]) rfl rfl (Nat.le_of_ble_eq_true rfl) ?_
  refine wn_aload_n d_SE_init_14 rfl ?_
  refine wn_aload_n d_SE_init_15 rfl ?_
  refine wn_putF (k := 33) (fs := [.ref (α 3), .ref (α 6), .null, .null, .null]) f_SE_19 fk_SE_2 cl_SE rfl d_SE_init_16 rfl rfl (by simp [h0]) rfl rfl (Nat.le_of_ble_eq_true rfl) ?_
  refine wn_aload_n d_SE_init_19 rfl ?_
  refine wn_sipush (v := 384) d_SE_init_20 rfl ?_
  refine wn_newa (t := 0) (k := 34) (N' := 384) (a0 := (384, .inl (fun _ => 0))) (ty := .int) d_SE_init_23 ac_int rfl rfl (fun _ _ h => h) (fun _ => rfl) (by decide) rfl (by decide) (by simp [n34]) (Nat.le_of_ble_eq_true rfl) (Nat.le_of_ble_eq_true rfl) (fun q34 => ?_)
  refine wn_putF (k := 33) (fs := [.ref (α 3), .ref (α 6), .ref (α 24), .null, .null]) f_SE_23 fk_SE_3 cl_SE rfl d_SE_init_25 rfl rfl (by simp [h0]) rfl rfl (Nat.le_of_ble_eq_true rfl) ?_
  refine wn_aload_n d_SE_init_28 rfl ?_
  refine wn_bipush (v := 64) d_SE_init_29 rfl ?_
  refine wn_newa (t := 0) (k := 35) (N' := 64) (a0 := (64, .inl (fun _ => 0))) (ty := .int) d_SE_init_31 ac_int rfl rfl (fun _ _ h => h) (fun _ => rfl) (by decide) rfl (by decide) (by simp [n35]) (Nat.le_of_ble_eq_true rfl) (Nat.le_of_ble_eq_true rfl) (fun q35 => ?_)
  refine wn_putF (k := 33) (fs := [.ref (α 3), .ref (α 6), .ref (α 24), .ref q34, .null]) f_SE_27 fk_SE_4 cl_SE rfl d_SE_init_33 rfl rfl (by simp [h0]) rfl rfl (Nat.le_of_ble_eq_true rfl) ?_
  exact wn_ret d_SE_init_36 rfl rfl ⟨q34, q35, rfl, rfl, rfl⟩
theorem cn_BP_36 {Δ : Dl} {α : Nat → Nat} {E : Nat → va_E} {ks : List Nat} (h0 : 36 ∈ ks)  (hE : E 36 = .inr (0, [.null, .null, .null, .int 0, .int 0, .int 0])) : CtN Δ M_BP_init 2 0 0 [.ref (α 36), .ref (α 3), .ref (α 6), .ref (α 24)] α E ks (fun α' E' ks' => α' = α ∧ E' = upf (upf (upf E 36 (.inr (0, [.ref (α 3), .null, .null, .int 0, .int 0, .int 0]))) 36 (.inr (0, [.ref (α 3), .ref (α 6), .null, .int 0, .int 0, .int 0]))) 36 (.inr (0, [.ref (α 3), .ref (α 6), .ref (α 24), .int 0, .int 0, .int 0])) ∧ ks' = ks) := by
  refine ctn_intro (lv := [_, _, _, _]) (by decide +kernel) rfl (Nat.le_of_ble_eq_true rfl) rfl ?_
  refine wn_aload_n d_BP_init_0 rfl ?_
  refine wn_objInit d_BP_init_1 oi_BP oi_inst oi_code (by decide) (Nat.le_of_ble_eq_true rfl) ?_
  refine wn_aload_n d_BP_init_4 rfl ?_
  refine wn_aload_n d_BP_init_5 rfl ?_
  refine wn_putF (k := 36) (fs := [.null, .null, .null, .int 0, .int 0, .int 0]) f_BP_9 fk_BP_0 cl_BP rfl d_BP_init_6 (by first | exact hE | rfl) rfl (by simp [h0]) rfl rfl (Nat.le_of_ble_eq_true rfl) ?_
  refine wn_aload_n d_BP_init_9 rfl ?_
  refine wn_aload_n d_BP_init_10 rfl ?_
  refine wn_putF (k := 36) (fs := [.ref (α 3), .null, .null, .int 0, .int 0, .int 0]) f_BP_15 fk_BP_1 cl_BP rfl d_BP_init_11 rfl rfl (by simp [h0]) rfl rfl (Nat.le_of_ble_eq_true rfl) ?_
  refine wn_aload_n d_BP_init_14 rfl ?_
  refine wn_aload_n d_BP_init_15 rfl ?_
  refine wn_putF (k := 36) (fs := [.ref (α 3), .ref (α 6), .null, .int 0, .int 0, .int 0]) f_BP_19 fk_BP_2 cl_BP rfl d_BP_init_16 rfl rfl (by simp [h0]) rfl rfl (Nat.le_of_ble_eq_true rfl) ?_
  exact wn_ret d_BP_init_19 rfl rfl ⟨rfl, rfl, rfl⟩
theorem cn_SN_37 {Δ : Dl} {α : Nat → Nat} {E : Nat → va_E} {ks : List Nat} (h0 : 37 ∈ ks) (n38 : 38 ∉ ks) (hE : E 37 = .inr (7, [.null, .null, .null, .long 0, .long 0, .long 0])) : CtN Δ M_SN_init 2 1 37 [.ref (α 37), .ref (α 3), .ref (α 6)] α E ks (fun α' E' ks' => ∃ q38, α' = upf α 38 q38 ∧ E' = upf (upf (upf (upf E 37 (.inr (7, [.ref (α 3), .null, .null, .long 0, .long 0, .long 0]))) 37 (.inr (7, [.ref (α 3), .ref (α 6), .null, .long 0, .long 0, .long 0]))) 38 (.inl (Δ.2.1 3, 37, .inr (.inl (fun _ => 0))))) 37 (.inr (7, [.ref (α 3), .ref (α 6), .ref q38, .long 0, .long 0, .long 0])) ∧ ks' = ks ++ [38]) := by
  refine ctn_intro (lv := [_, _, _]) (by decide +kernel) rfl (Nat.le_of_ble_eq_true rfl) rfl ?_
  refine wn_aload_n d_SN_init_0 rfl ?_
  refine wn_objInit d_SN_init_1 oi_SN oi_inst oi_code (by decide) (Nat.le_of_ble_eq_true rfl) ?_
  refine wn_aload_n d_SN_init_4 rfl ?_
  refine wn_aload_n d_SN_init_5 rfl ?_
  refine wn_putF (k := 37) (fs := [.null, .null, .null, .long 0, .long 0, .long 0]) f_SN_9 fk_SN_0 cl_SN rfl d_SN_init_6 (by first | exact hE | rfl) rfl (by simp [h0]) rfl rfl (Nat.le_of_ble_eq_true rfl) ?_
  refine wn_aload_n d_SN_init_9 rfl ?_
  refine wn_aload_n d_SN_init_10 rfl ?_
  refine wn_putF (k := 37) (fs := [.ref (α 3), .null, .null, .long 0, .long 0, .long 0]) f_SN_15 fk_SN_1 cl_SN rfl d_SN_init_11 rfl rfl (by simp [h0]) rfl rfl (Nat.le_of_ble_eq_true rfl) ?_
  refine wn_aload_n d_SN_init_14 rfl ?_
  refine wn_bipush (v := 37) d_SN_init_15 rfl ?_
  refine wn_newa (t := 3) (k := 38) (N' := 37) (a0 := (37, .inr (.inl (fun _ => 0)))) (ty := .long) d_SN_init_17 ac_long rfl rfl (fun _ _ h => h) (fun _ => rfl) (by decide) rfl (by decide) (by simp [n38]) (Nat.le_of_ble_eq_true rfl) (Nat.le_of_ble_eq_true rfl) (fun q38 => ?_)
  refine wn_putF (k := 37) (fs := [.ref (α 3), .ref (α 6), .null, .long 0, .long 0, .long 0]) f_SN_19 fk_SN_2 cl_SN rfl d_SN_init_19 rfl rfl (by simp [h0]) rfl rfl (Nat.le_of_ble_eq_true rfl) ?_
  exact wn_ret d_SN_init_22 rfl rfl ⟨q38, rfl, rfl, rfl⟩
set_option maxHeartbeats 4000000 in
theorem cn_MO_41 {Δ : Dl} {α : Nat → Nat} {E : Nat → va_E} {ks : List Nat} (h0 : 41 ∈ ks) (n42 : 42 ∉ ks) (n43 : 43 ∉ ks) (n44 : 44 ∉ ks) (n45 : 45 ∉ ks) (n46 : 46 ∉ ks) (n47 : 47 ∉ ks) (n48 : 48 ∉ ks) (n49 : 49 ∉ ks) (n50 : 50 ∉ ks) (n51 : 51 ∉ ks) (n52 : 52 ∉ ks) (n53 : 53 ∉ ks) (n54 : 54 ∉ ks) (n55 : 55 ∉ ks) (n56 : 56 ∉ ks) (n57 : 57 ∉ ks) (n58 : 58 ∉ ks) (n59 : 59 ∉ ks) (n60 : 60 ∉ ks) (hE : E 41 = .inr (9, [.null, .null, .null, .int 0, .int 0, .int 0, .null, .null, .null, .int 0, .int 0, .int 0, .int 0, .int 0, .null, .int 0, .int 0, .int 0, .null, .null, .null, .null, .null, .null, .null, .null, .null, .long 0, .null, .null, .null])) : CtN Δ M_MO_init 2 19 930 [.ref (α 41)] α E ks (fun α' E' ks' => ∃ q42 q43 q44 q45 q46 q47 q48 q49 q50 q51 q52 q53 q54 q55 q56 q57 q58 q59 q60, α' = upf (upf (upf (upf (upf (upf (upf (upf (upf (upf (upf (upf (upf (upf (upf (upf (upf (upf (upf α 42 q42) 43 q43) 44 q44) 45 q45) 46 q46) 47 q47) 48 q48) 49 q49) 50 q50) 51 q51) 52 q52) 53 q53) 54 q54) 55 q55) 56 q56) 57 q57) 58 q58) 59 q59) 60 q60 ∧ E' = upf (upf (upf (upf (upf (upf (upf (upf (upf (upf (upf (upf (upf (upf (upf (upf (upf (upf (upf (upf (upf (upf (upf (upf (upf (upf (upf (upf (upf (upf (upf (upf (upf (upf (upf (upf (upf (upf (upf (upf E 42 (.inl (Δ.2.1 0, 6, .inl (fun _ => 0)))) 41 (.inr (9, [.ref q42, .null, .null, .int 0, .int 0, .int 0, .null, .null, .null, .int 0, .int 0, .int 0, .int 0, .int 0, .null, .int 0, .int 0, .int 0, .null, .null, .null, .null, .null, .null, .null, .null, .null, .long 0, .null, .null, .null]))) 43 (.inl (Δ.2.1 0, 60, .inl (fun _ => 0)))) 41 (.inr (9, [.ref q42, .ref q43, .null, .int 0, .int 0, .int 0, .null, .null, .null, .int 0, .int 0, .int 0, .int 0, .int 0, .null, .int 0, .int 0, .int 0, .null, .null, .null, .null, .null, .null, .null, .null, .null, .long 0, .null, .null, .null]))) 44 (.inl (Δ.2.1 0, 24, .inl (fun _ => 0)))) 41 (.inr (9, [.ref q42, .ref q43, .ref q44, .int 0, .int 0, .int 0, .null, .null, .null, .int 0, .int 0, .int 0, .int 0, .int 0, .null, .int 0, .int 0, .int 0, .null, .null, .null, .null, .null, .null, .null, .null, .null, .long 0, .null, .null, .null]))) 45 (.inl (Δ.2.1 0, 6, .inl (fun _ => 0)))) 41 (.inr (9, [.ref q42, .ref q43, .ref q44, .int 0, .int 0, .int 0, .ref q45, .null, .null, .int 0, .int 0, .int 0, .int 0, .int 0, .null, .int 0, .int 0, .int 0, .null, .null, .null, .null, .null, .null, .null, .null, .null, .long 0, .null, .null, .null]))) 46 (.inl (Δ.2.1 0, 60, .inl (fun _ => 0)))) 41 (.inr (9, [.ref q42, .ref q43, .ref q44, .int 0, .int 0, .int 0, .ref q45, .ref q46, .null, .int 0, .int 0, .int 0, .int 0, .int 0, .null, .int 0, .int 0, .int 0, .null, .null, .null, .null, .null, .null, .null, .null, .null, .long 0, .null, .null, .null]))) 47 (.inl (Δ.2.1 0, 24, .inl (fun _ => 0)))) 41 (.inr (9, [.ref q42, .ref q43, .ref q44, .int 0, .int 0, .int 0, .ref q45, .ref q46, .ref q47, .int 0, .int 0, .int 0, .int 0, .int 0, .null, .int 0, .int 0, .int 0, .null, .null, .null, .null, .null, .null, .null, .null, .null, .long 0, .null, .null, .null]))) 48 (.inl (Δ.2.1 0, 104, .inl (fun _ => 0)))) 41 (.inr (9, [.ref q42, .ref q43, .ref q44, .int 0, .int 0, .int 0, .ref q45, .ref q46, .ref q47, .int 0, .int 0, .int 0, .int 0, .int 0, .ref q48, .int 0, .int 0, .int 0, .null, .null, .null, .null, .null, .null, .null, .null, .null, .long 0, .null, .null, .null]))) 49 (.inl (Δ.2.1 0, 24, .inl (fun _ => 0)))) 41 (.inr (9, [.ref q42, .ref q43, .ref q44, .int 0, .int 0, .int 0, .ref q45, .ref q46, .ref q47, .int 0, .int 0, .int 0, .int 0, .int 0, .ref q48, .int 0, .int 0, .int 0, .ref q49, .null, .null, .null, .null, .null, .null, .null, .null, .long 0, .null, .null, .null]))) 50 (.inl (Δ.2.1 0, 24, .inl (fun _ => 0)))) 41 (.inr (9, [.ref q42, .ref q43, .ref q44, .int 0, .int 0, .int 0, .ref q45, .ref q46, .ref q47, .int 0, .int 0, .int 0, .int 0, .int 0, .ref q48, .int 0, .int 0, .int 0, .ref q49, .ref q50, .null, .null, .null, .null, .null, .null, .null, .long 0, .null, .null, .null]))) 51 (.inl (Δ.2.1 0, 12, .inl (fun _ => 0)))) 41 (.inr (9, [.ref q42, .ref q43, .ref q44, .int 0, .int 0, .int 0, .ref q45, .ref q46, .ref q47, .int 0, .int 0, .int 0, .int 0, .int 0, .ref q48, .int 0, .int 0, .int 0, .ref q49, .ref q50, .ref q51, .null, .null, .null, .null, .null, .null, .long 0, .null, .null, .null]))) 52 (.inl (Δ.2.1 0, 12, .inl (fun _ => 0)))) 41 (.inr (9, [.ref q42, .ref q43, .ref q44, .int 0, .int 0, .int 0, .ref q45, .ref q46, .ref q47, .int 0, .int 0, .int 0, .int 0, .int 0, .ref q48, .int 0, .int 0, .int 0, .ref q49, .ref q50, .ref q51, .ref q52, .null, .null, .null, .null, .null, .long 0, .null, .null, .null]))) 53 (.inl (Δ.2.1 0, 384, .inl (fun _ => 0)))) 41 (.inr (9, [.ref q42, .ref q43, .ref q44, .int 0, .int 0, .int 0, .ref q45, .ref q46, .ref q47, .int 0, .int 0, .int 0, .int 0, .int 0, .ref q48, .int 0, .int 0, .int 0, .ref q49, .ref q50, .ref q51, .ref q52, .ref q53, .null, .null, .null, .null, .long 0, .null, .null, .null]))) 54 (.inl (Δ.2.1 0, 6, .inl (fun _ => 0)))) 41 (.inr (9, [.ref q42, .ref q43, .ref q44, .int 0, .int 0, .int 0, .ref q45, .ref q46, .ref q47, .int 0, .int 0, .int 0, .int 0, .int 0, .ref q48, .int 0, .int 0, .int 0, .ref q49, .ref q50, .ref q51, .ref q52, .ref q53, .ref q54, .null, .null, .null, .long 0, .null, .null, .null]))) 55 (.inl (Δ.2.1 0, 6, .inl (fun _ => 0)))) 41 (.inr (9, [.ref q42, .ref q43, .ref q44, .int 0, .int 0, .int 0, .ref q45, .ref q46, .ref q47, .int 0, .int 0, .int 0, .int 0, .int 0, .ref q48, .int 0, .int 0, .int 0, .ref q49, .ref q50, .ref q51, .ref q52, .ref q53, .ref q54, .ref q55, .null, .null, .long 0, .null, .null, .null]))) 56 (.inl (Δ.2.1 0, 12, .inl (fun _ => 0)))) 41 (.inr (9, [.ref q42, .ref q43, .ref q44, .int 0, .int 0, .int 0, .ref q45, .ref q46, .ref q47, .int 0, .int 0, .int 0, .int 0, .int 0, .ref q48, .int 0, .int 0, .int 0, .ref q49, .ref q50, .ref q51, .ref q52, .ref q53, .ref q54, .ref q55, .ref q56, .null, .long 0, .null, .null, .null]))) 57 (.inl (Δ.2.1 3, 40, .inr (.inl (fun _ => 0))))) 41 (.inr (9, [.ref q42, .ref q43, .ref q44, .int 0, .int 0, .int 0, .ref q45, .ref q46, .ref q47, .int 0, .int 0, .int 0, .int 0, .int 0, .ref q48, .int 0, .int 0, .int 0, .ref q49, .ref q50, .ref q51, .ref q52, .ref q53, .ref q54, .ref q55, .ref q56, .ref q57, .long 0, .null, .null, .null]))) 58 (.inl (Δ.2.1 2, 2, .inl (fun _ => 0)))) 41 (.inr (9, [.ref q42, .ref q43, .ref q44, .int 0, .int 0, .int 0, .ref q45, .ref q46, .ref q47, .int 0, .int 0, .int 0, .int 0, .int 0, .ref q48, .int 0, .int 0, .int 0, .ref q49, .ref q50, .ref q51, .ref q52, .ref q53, .ref q54, .ref q55, .ref q56, .ref q57, .long 0, .ref q58, .null, .null]))) 59 (.inl (Δ.2.1 0, 120, .inl (fun _ => 0)))) 41 (.inr (9, [.ref q42, .ref q43, .ref q44, .int 0, .int 0, .int 0, .ref q45, .ref q46, .ref q47, .int 0, .int 0, .int 0, .int 0, .int 0, .ref q48, .int 0, .int 0, .int 0, .ref q49, .ref q50, .ref q51, .ref q52, .ref q53, .ref q54, .ref q55, .ref q56, .ref q57, .long 0, .ref q58, .ref q59, .null]))) 60 (.inl (Δ.2.1 0, 4, .inl (fun _ => 0)))) 41 (.inr (9, [.ref q42, .ref q43, .ref q44, .int 0, .int 0, .int 0, .ref q45, .ref q46, .ref q47, .int 0, .int 0, .int 0, .int 0, .int 0, .ref q48, .int 0, .int 0, .int 0, .ref q49, .ref q50, .ref q51, .ref q52, .ref q53, .ref q54, .ref q55, .ref q56, .ref q57, .long 0, .ref q58, .ref q59, .ref q60]))) 41 (.inr (9, [.ref q42, .ref q43, .ref q44, .int 0, .int 0, .int 0, .ref q45, .ref q46, .ref q47, .int 1, .int 0, .int 0, .int 0, .int 0, .ref q48, .int 0, .int 0, .int 0, .ref q49, .ref q50, .ref q51, .ref q52, .ref q53, .ref q54, .ref q55, .ref q56, .ref q57, .long 0, .ref q58, .ref q59, .ref q60]))) 45 (.inl (Δ.2.1 0, 6, .inl (upd (fun _ => 0) 0 1))) ∧ ks' = ks ++ [42] ++ [43] ++ [44] ++ [45] ++ [46] ++ [47] ++ [48] ++ [49] ++ [50] ++ [51] ++ [52] ++ [53] ++ [54] ++ [55] ++ [56] ++ [57] ++ [58] ++ [59] ++ [60]) := by
  refine ctn_intro (lv := [_]) (by decide +kernel) rfl (Nat.le_of_ble_eq_true rfl) rfl ?_
  refine wn_aload_n d_MO_init_0 rfl ?_
  refine wn_objInit d_MO_init_1 oi_MO oi_inst oi_code (by decide) (Nat.le_of_ble_eq_true rfl) ?_
  refine wn_aload_n d_MO_init_4 rfl ?_
  refine wn_bipush (v := 6) d_MO_init_5 rfl ?_
  refine wn_newa (t := 0) (k := 42) (N' := 6) (a0 := (6, .inl (fun _ => 0))) (ty := .int) d_MO_init_7 ac_int rfl rfl (fun _ _ h => h) (fun _ => rfl) (by decide) rfl (by decide) (by simp [n42]) (Nat.le_of_ble_eq_true rfl) (Nat.le_of_ble_eq_true rfl) (fun q42 => ?_)
  refine wn_putF (k := 41) (fs := [.null, .null, .null, .int 0, .int 0, .int 0, .null, .null, .null, .int 0, .int 0, .int 0, .int 0, .int 0, .null, .int 0, .int 0, .int 0, .null, .null, .null, .null, .null, .null, .null, .null, .null, .long 0, .null, .null, .null]) f_MO_7 fk_MO_0 cl_MO rfl d_MO_init_9 (by first | exact hE | rfl) rfl (by simp [h0]) rfl rfl (Nat.le_of_ble_eq_true rfl) ?_
  refine wn_aload_n d_MO_init_12 rfl ?_
  refine wn_bipush (v := 60) d_MO_init_13 rfl ?_
  refine wn_newa (t := 0) (k := 43) (N' := 60) (a0 := (60, .inl (fun _ => 0))) (ty := .int) d_MO_init_15 ac_int rfl rfl (fun _ _ h => h) (fun _ => rfl) (by decide) rfl (by decide) (by simp [n43]) (Nat.le_of_ble_eq_true rfl) (Nat.le_of_ble_eq_true rfl) (fun q43 => ?_)
  refine wn_putF (k := 41) (fs := [.ref q42, .null, .null, .int 0, .int 0, .int 0, .null, .null, .null, .int 0, .int 0, .int 0, .int 0, .int 0, .null, .int 0, .int 0, .int 0, .null, .null, .null, .null, .null, .null, .null, .null, .null, .long 0, .null, .null, .null]) f_MO_13 fk_MO_1 cl_MO rfl d_MO_init_17 rfl rfl (by simp [h0]) rfl rfl (Nat.le_of_ble_eq_true rfl) ?_
  refine wn_aload_n d_MO_init_20 rfl ?_
  refine wn_bipush (v := 24) d_MO_init_21 rfl ?_
  refine wn_newa (t := 0) (k := 44) (N' := 24) (a0 := (24, .inl (fun _ => 0))) (ty := .int) d_MO_init_23 ac_int rfl rfl (fun _ _ h => h) (fun _ => rfl) (by decide) rfl (by decide) (by simp [n44]) (Nat.le_of_ble_eq_true rfl) (Nat.le_of_ble_eq_true rfl) (fun q44 => ?_)
  refine wn_putF (k := 41) (fs := [.ref q42, .ref q43, .null, .int 0, .int 0, .int 0, .null, .null, .null, .int 0, .int 0, .int 0, .int 0, .int 0, .null, .int 0, .int 0, .int 0, .null, .null, .null, .null, .null, .null, .null, .null, .null, .long 0, .null, .null, .null]) f_MO_16 fk_MO_2 cl_MO rfl d_MO_init_25 rfl rfl (by simp [h0]) rfl rfl (Nat.le_of_ble_eq_true rfl) ?_
  refine wn_aload_n d_MO_init_28 rfl ?_
  refine wn_bipush (v := 6) d_MO_init_29 rfl ?_
  refine wn_newa (t := 0) (k := 45) (N' := 6) (a0 := (6, .inl (fun _ => 0))) (ty := .int) d_MO_init_31 ac_int rfl rfl (fun _ _ h => h) (fun _ => rfl) (by decide) rfl (by decide) (by simp [n45]) (Nat.le_of_ble_eq_true rfl) (Nat.le_of_ble_eq_true rfl) (fun q45 => ?_)
  refine wn_putF (k := 41) (fs := [.ref q42, .ref q43, .ref q44, .int 0, .int 0, .int 0, .null, .null, .null, .int 0, .int 0, .int 0, .int 0, .int 0, .null, .int 0, .int 0, .int 0, .null, .null, .null, .null, .null, .null, .null, .null, .null, .long 0, .null, .null, .null]) f_MO_19 fk_MO_6 cl_MO rfl d_MO_init_33 rfl rfl (by simp [h0]) rfl rfl (Nat.le_of_ble_eq_true rfl) ?_
  refine wn_aload_n d_MO_init_36 rfl ?_
  refine wn_bipush (v := 60) d_MO_init_37 rfl ?_
  refine wn_newa (t := 0) (k := 46) (N' := 60) (a0 := (60, .inl (fun _ => 0))) (ty := .int) d_MO_init_39 ac_int rfl rfl (fun _ _ h => h) (fun _ => rfl) (by decide) rfl (by decide) (by simp [n46]) (Nat.le_of_ble_eq_true rfl) (Nat.le_of_ble_eq_true rfl) (fun q46 => ?_)
  refine wn_putF (k := 41) (fs := [.ref q42, .ref q43, .ref q44, .int 0, .int 0, .int 0, .ref q45, .null, .null, .int 0, .int 0, .int 0, .int 0, .int 0, .null, .int 0, .int 0, .int 0, .null, .null, .null, .null, .null, .null, .null, .null, .null, .long 0, .null, .null, .null]) f_MO_22 fk_MO_7 cl_MO rfl d_MO_init_41 rfl rfl (by simp [h0]) rfl rfl (Nat.le_of_ble_eq_true rfl) ?_
  refine wn_aload_n d_MO_init_44 rfl ?_
  refine wn_bipush (v := 24) d_MO_init_45 rfl ?_
  refine wn_newa (t := 0) (k := 47) (N' := 24) (a0 := (24, .inl (fun _ => 0))) (ty := .int) d_MO_init_47 ac_int rfl rfl (fun _ _ h => h) (fun _ => rfl) (by decide) rfl (by decide) (by simp [n47]) (Nat.le_of_ble_eq_true rfl) (Nat.le_of_ble_eq_true rfl) (fun q47 => ?_)
  refine wn_putF (k := 41) (fs := [.ref q42, .ref q43, .ref q44, .int 0, .int 0, .int 0, .ref q45, .ref q46, .null, .int 0, .int 0, .int 0, .int 0, .int 0, .null, .int 0, .int 0, .int 0, .null, .null, .null, .null, .null, .null, .null, .null, .null, .long 0, .null, .null, .null]) f_MO_25 fk_MO_8 cl_MO rfl d_MO_init_49 rfl rfl (by simp [h0]) rfl rfl (Nat.le_of_ble_eq_true rfl) ?_
  refine wn_aload_n d_MO_init_52 rfl ?_
  refine wn_bipush (v := 104) d_MO_init_53 rfl ?_
  refine wn_newa (t := 0) (k := 48) (N' := 104) (a0 := (104, .inl (fun _ => 0))) (ty := .int) d_MO_init_55 ac_int rfl rfl (fun _ _ h => h) (fun _ => rfl) (by decide) rfl (by decide) (by simp [n48]) (Nat.le_of_ble_eq_true rfl) (Nat.le_of_ble_eq_true rfl) (fun q48 => ?_)
  refine wn_putF (k := 41) (fs := [.ref q42, .ref q43, .ref q44, .int 0, .int 0, .int 0, .ref q45, .ref q46, .ref q47, .int 0, .int 0, .int 0, .int 0, .int 0, .null, .int 0, .int 0, .int 0, .null, .null, .null, .null, .null, .null, .null, .null, .null, .long 0, .null, .null, .null]) f_MO_28 fk_MO_14 cl_MO rfl d_MO_init_57 rfl rfl (by simp [h0]) rfl rfl (Nat.le_of_ble_eq_true rfl) ?_
  refine wn_aload_n d_MO_init_60 rfl ?_
  refine wn_bipush (v := 24) d_MO_init_61 rfl ?_
  refine wn_newa (t := 0) (k := 49) (N' := 24) (a0 := (24, .inl (fun _ => 0))) (ty := .int) d_MO_init_63 ac_int rfl rfl (fun _ _ h => h) (fun _ => rfl) (by decide) rfl (by decide) (by simp [n49]) (Nat.le_of_ble_eq_true rfl) (Nat.le_of_ble_eq_true rfl) (fun q49 => ?_)
  refine wn_putF (k := 41) (fs := [.ref q42, .ref q43, .ref q44, .int 0, .int 0, .int 0, .ref q45, .ref q46, .ref q47, .int 0, .int 0, .int 0, .int 0, .int 0, .ref q48, .int 0, .int 0, .int 0, .null, .null, .null, .null, .null, .null, .null, .null, .null, .long 0, .null, .null, .null]) f_MO_31 fk_MO_18 cl_MO rfl d_MO_init_65 rfl rfl (by simp [h0]) rfl rfl (Nat.le_of_ble_eq_true rfl) ?_
  refine wn_aload_n d_MO_init_68 rfl ?_
  refine wn_bipush (v := 24) d_MO_init_69 rfl ?_
  refine wn_newa (t := 0) (k := 50) (N' := 24) (a0 := (24, .inl (fun _ => 0))) (ty := .int) d_MO_init_71 ac_int rfl rfl (fun _ _ h => h) (fun _ => rfl) (by decide) rfl (by decide) (by simp [n50]) (Nat.le_of_ble_eq_true rfl) (Nat.le_of_ble_eq_true rfl) (fun q50 => ?_)
  refine wn_putF (k := 41) (fs := [.ref q42, .ref q43, .ref q44, .int 0, .int 0, .int 0, .ref q45, .ref q46, .ref q47, .int 0, .int 0, .int 0, .int 0, .int 0, .ref q48, .int 0, .int 0, .int 0, .ref q49, .null, .null, .null, .null, .null, .null, .null, .null, .long 0, .null, .null, .null]) f_MO_34 fk_MO_19 cl_MO rfl d_MO_init_73 rfl rfl (by simp [h0]) rfl rfl (Nat.le_of_ble_eq_true rfl) ?_
  refine wn_aload_n d_MO_init_76 rfl ?_
  refine wn_bipush (v := 12) d_MO_init_77 rfl ?_
  refine wn_newa (t := 0) (k := 51) (N' := 12) (a0 := (12, .inl (fun _ => 0))) (ty := .int) d_MO_init_79 ac_int rfl rfl (fun _ _ h => h) (fun _ => rfl) (by decide) rfl (by decide) (by simp [n51]) (Nat.le_of_ble_eq_true rfl) (Nat.le_of_ble_eq_true rfl) (fun q51 => ?_)
  refine wn_putF (k := 41) (fs := [.ref q42, .ref q43, .ref q44, .int 0, .int 0, .int 0, .ref q45, .ref q46, .ref q47, .int 0, .int 0, .int 0, .int 0, .int 0, .ref q48, .int 0, .int 0, .int 0, .ref q49, .ref q50, .null, .null, .null, .null, .null, .null, .null, .long 0, .null, .null, .null]) f_MO_37 fk_MO_20 cl_MO rfl d_MO_init_81 rfl rfl (by simp [h0]) rfl rfl (Nat.le_of_ble_eq_true rfl) ?_
  refine wn_aload_n d_MO_init_84 rfl ?_
  refine wn_bipush (v := 12) d_MO_init_85 rfl ?_
  refine wn_newa (t := 0) (k := 52) (N' := 12) (a0 := (12, .inl (fun _ => 0))) (ty := .int) d_MO_init_87 ac_int rfl rfl (fun _ _ h => h) (fun _ => rfl) (by decide) rfl (by decide) (by simp [n52]) (Nat.le_of_ble_eq_true rfl) (Nat.le_of_ble_eq_true rfl) (fun q52 => ?_)
  refine wn_putF (k := 41) (fs := [.ref q42, .ref q43, .ref q44, .int 0, .int 0, .int 0, .ref q45, .ref q46, .ref q47, .int 0, .int 0, .int 0, .int 0, .int 0, .ref q48, .int 0, .int 0, .int 0, .ref q49, .ref q50, .ref q51, .null, .null, .null, .null, .null, .null, .long 0, .null, .null, .null]) f_MO_40 fk_MO_21 cl_MO rfl d_MO_init_89 rfl rfl (by simp [h0]) rfl rfl (Nat.le_of_ble_eq_true rfl) ?_
  refine wn_aload_n d_MO_init_92 rfl ?_
  refine wn_sipush (v := 384) d_MO_init_93 rfl ?_
  refine wn_newa (t := 0) (k := 53) (N' := 384) (a0 := (384, .inl (fun _ => 0))) (ty := .int) d_MO_init_96 ac_int rfl rfl (fun _ _ h => h) (fun _ => rfl) (by decide) rfl (by decide) (by simp [n53]) (Nat.le_of_ble_eq_true rfl) (Nat.le_of_ble_eq_true rfl) (fun q53 => ?_)
  refine wn_putF (k := 41) (fs := [.ref q42, .ref q43, .ref q44, .int 0, .int 0, .int 0, .ref q45, .ref q46, .ref q47, .int 0, .int 0, .int 0, .int 0, .int 0, .ref q48, .int 0, .int 0, .int 0, .ref q49, .ref q50, .ref q51, .ref q52, .null, .null, .null, .null, .null, .long 0, .null, .null, .null]) f_MO_43 fk_MO_22 cl_MO rfl d_MO_init_98 rfl rfl (by simp [h0]) rfl rfl (Nat.le_of_ble_eq_true rfl) ?_
  refine wn_aload_n d_MO_init_101 rfl ?_
  refine wn_bipush (v := 6) d_MO_init_102 rfl ?_
  refine wn_newa (t := 0) (k := 54) (N' := 6) (a0 := (6, .inl (fun _ => 0))) (ty := .int) d_MO_init_104 ac_int rfl rfl (fun _ _ h => h) (fun _ => rfl) (by decide) rfl (by decide) (by simp [n54]) (Nat.le_of_ble_eq_true rfl) (Nat.le_of_ble_eq_true rfl) (fun q54 => ?_)
  refine wn_putF (k := 41) (fs := [.ref q42, .ref q43, .ref q44, .int 0, .int 0, .int 0, .ref q45, .ref q46, .ref q47, .int 0, .int 0, .int 0, .int 0, .int 0, .ref q48, .int 0, .int 0, .int 0, .ref q49, .ref q50, .ref q51, .ref q52, .ref q53, .null, .null, .null, .null, .long 0, .null, .null, .null]) f_MO_46 fk_MO_23 cl_MO rfl d_MO_init_106 rfl rfl (by simp [h0]) rfl rfl (Nat.le_of_ble_eq_true rfl) ?_
  refine wn_aload_n d_MO_init_109 rfl ?_
  refine wn_bipush (v := 6) d_MO_init_110 rfl ?_
  refine wn_newa (t := 0) (k := 55) (N' := 6) (a0 := (6, .inl (fun _ => 0))) (ty := .int) d_MO_init_112 ac_int rfl rfl (fun _ _ h => h) (fun _ => rfl) (by decide) rfl (by decide) (by simp [n55]) (Nat.le_of_ble_eq_true rfl) (Nat.le_of_ble_eq_true rfl) (fun q55 => ?_)
  refine wn_putF (k := 41) (fs := [.ref q42, .ref q43, .ref q44, .int 0, .int 0, .int 0, .ref q45, .ref q46, .ref q47, .int 0, .int 0, .int 0, .int 0, .int 0, .ref q48, .int 0, .int 0, .int 0, .ref q49, .ref q50, .ref q51, .ref q52, .ref q53, .ref q54, .null, .null, .null, .long 0, .null, .null, .null]) f_MO_49 fk_MO_24 cl_MO rfl d_MO_init_114 rfl rfl (by simp [h0]) rfl rfl (Nat.le_of_ble_eq_true rfl) ?_
  refine wn_aload_n d_MO_init_117 rfl ?_
  refine wn_bipush (v := 12) d_MO_init_118 rfl ?_
  refine wn_newa (t := 0) (k := 56) (N' := 12) (a0 := (12, .inl (fun _ => 0))) (ty := .int) d_MO_init_120 ac_int rfl rfl (fun _ _ h => h) (fun _ => rfl) (by decide) rfl (by decide) (by simp [n56]) (Nat.le_of_ble_eq_true rfl) (Nat.le_of_ble_eq_true rfl) (fun q56 => ?_)
  refine wn_putF (k := 41) (fs := [.ref q42, .ref q43, .ref q44, .int 0, .int 0, .int 0, .ref q45, .ref q46, .ref q47, .int 0, .int 0, .int 0, .int 0, .int 0, .ref q48, .int 0, .int 0, .int 0, .ref q49, .ref q50, .ref q51, .ref q52, .ref q53, .ref q54, .ref q55, .null, .null, .long 0, .null, .null, .null]) f_MO_52 fk_MO_25 cl_MO rfl d_MO_init_122 rfl rfl (by simp [h0]) rfl rfl (Nat.le_of_ble_eq_true rfl) ?_
  refine wn_aload_n d_MO_init_125 rfl ?_
  refine wn_bipush (v := 40) d_MO_init_126 rfl ?_
  refine wn_newa (t := 3) (k := 57) (N' := 40) (a0 := (40, .inr (.inl (fun _ => 0)))) (ty := .long) d_MO_init_128 ac_long rfl rfl (fun _ _ h => h) (fun _ => rfl) (by decide) rfl (by decide) (by simp [n57]) (Nat.le_of_ble_eq_true rfl) (Nat.le_of_ble_eq_true rfl) (fun q57 => ?_)
  refine wn_putF (k := 41) (fs := [.ref q42, .ref q43, .ref q44, .int 0, .int 0, .int 0, .ref q45, .ref q46, .ref q47, .int 0, .int 0, .int 0, .int 0, .int 0, .ref q48, .int 0, .int 0, .int 0, .ref q49, .ref q50, .ref q51, .ref q52, .ref q53, .ref q54, .ref q55, .ref q56, .null, .long 0, .null, .null, .null]) f_MO_55 fk_MO_26 cl_MO rfl d_MO_init_130 rfl rfl (by simp [h0]) rfl rfl (Nat.le_of_ble_eq_true rfl) ?_
  refine wn_aload_n d_MO_init_133 rfl ?_
  refine wn_iconst (v := 2) d_MO_init_134 rfl ?_
  refine wn_newa (t := 2) (k := 58) (N' := 2) (a0 := (2, .inl (fun _ => 0))) (ty := .boolean) d_MO_init_135 ac_boolean rfl rfl (fun _ _ h => h) (fun _ => rfl) (by decide) rfl (by decide) (by simp [n58]) (Nat.le_of_ble_eq_true rfl) (Nat.le_of_ble_eq_true rfl) (fun q58 => ?_)
  refine wn_putF (k := 41) (fs := [.ref q42, .ref q43, .ref q44, .int 0, .int 0, .int 0, .ref q45, .ref q46, .ref q47, .int 0, .int 0, .int 0, .int 0, .int 0, .ref q48, .int 0, .int 0, .int 0, .ref q49, .ref q50, .ref q51, .ref q52, .ref q53, .ref q54, .ref q55, .ref q56, .ref q57, .long 0, .null, .null, .null]) f_MO_59 fk_MO_28 cl_MO rfl d_MO_init_137 rfl rfl (by simp [h0]) rfl rfl (Nat.le_of_ble_eq_true rfl) ?_
  refine wn_aload_n d_MO_init_140 rfl ?_
  refine wn_bipush (v := 120) d_MO_init_141 rfl ?_
  refine wn_newa (t := 0) (k := 59) (N' := 120) (a0 := (120, .inl (fun _ => 0))) (ty := .int) d_MO_init_143 ac_int rfl rfl (fun _ _ h => h) (fun _ => rfl) (by decide) rfl (by decide) (by simp [n59]) (Nat.le_of_ble_eq_true rfl) (Nat.le_of_ble_eq_true rfl) (fun q59 => ?_)
  refine wn_putF (k := 41) (fs := [.ref q42, .ref q43, .ref q44, .int 0, .int 0, .int 0, .ref q45, .ref q46, .ref q47, .int 0, .int 0, .int 0, .int 0, .int 0, .ref q48, .int 0, .int 0, .int 0, .ref q49, .ref q50, .ref q51, .ref q52, .ref q53, .ref q54, .ref q55, .ref q56, .ref q57, .long 0, .ref q58, .null, .null]) f_MO_63 fk_MO_29 cl_MO rfl d_MO_init_145 rfl rfl (by simp [h0]) rfl rfl (Nat.le_of_ble_eq_true rfl) ?_
  refine wn_aload_n d_MO_init_148 rfl ?_
  refine wn_iconst (v := 4) d_MO_init_149 rfl ?_
  refine wn_newa (t := 0) (k := 60) (N' := 4) (a0 := (4, .inl (fun _ => 0))) (ty := .int) d_MO_init_150 ac_int rfl rfl (fun _ _ h => h) (fun _ => rfl) (by decide) rfl (by decide) (by simp [n60]) (Nat.le_of_ble_eq_true rfl) (Nat.le_of_ble_eq_true rfl) (fun q60 => ?_)
  refine wn_putF (k := 41) (fs := [.ref q42, .ref q43, .ref q44, .int 0, .int 0, .int 0, .ref q45, .ref q46, .ref q47, .int 0, .int 0, .int 0, .int 0, .int 0, .ref q48, .int 0, .int 0, .int 0, .ref q49, .ref q50, .ref q51, .ref q52, .ref q53, .ref q54, .ref q55, .ref q56, .ref q57, .long 0, .ref q58, .ref q59, .null]) f_MO_66 fk_MO_30 cl_MO rfl d_MO_init_152 rfl rfl (by simp [h0]) rfl rfl (Nat.le_of_ble_eq_true rfl) ?_
  refine wn_aload_n d_MO_init_155 rfl ?_
  refine wn_iconst (v := 1) d_MO_init_156 rfl ?_
  refine wn_put (k := 41) (fs := [.ref q42, .ref q43, .ref q44, .int 0, .int 0, .int 0, .ref q45, .ref q46, .ref q47, .int 0, .int 0, .int 0, .int 0, .int 0, .ref q48, .int 0, .int 0, .int 0, .ref q49, .ref q50, .ref q51, .ref q52, .ref q53, .ref q54, .ref q55, .ref q56, .ref q57, .long 0, .ref q58, .ref q59, .ref q60]) f_MO_69 pk_MO_9 cl_MO d_MO_init_157 rfl rfl (by simp [h0]) rfl rfl (Nat.le_of_ble_eq_true rfl) ?_
  refine wn_aload_n d_MO_init_160 rfl ?_
  refine wn_get (k := 41) f_MO_19 cl_MO d_MO_init_161 rfl rfl (by simp [h0]) rfl ?_
  refine wn_iconst (v := 0) d_MO_init_164 rfl ?_
  refine wn_iconst (v := 1) d_MO_init_165 rfl ?_
  refine wn_iast (k := 45) d_MO_init_166 rfl rfl (by simp) (by unfold vp_in; decide) ?_
  exact wn_ret d_MO_init_167 rfl rfl ⟨q42, q43, q44, q45, q46, q47, q48, q49, q50, q51, q52, q53, q54, q55, q56, q57, q58, q59, q60, rfl, rfl, rfl⟩
/-- the contents at first: one pipe that drinks 1 -/
def hi0 : HI := setI (setI (setI (setI (fun _ _ => 0) 3 0 1) 4 0 1) 41 9 1) 45 0 1
def hl0 : HL := fun _ _ => 0
def ordB : List Nat := [0, 1, 2, 3, 4, 5, 6, 7, 8, 9, 10, 11, 24, 25, 26, 27, 28, 29, 30, 31, 32, 33, 34, 35, 36, 37, 38, 39, 40, 12, 13, 14, 15, 16, 17, 18, 19, 20, 21, 22, 23]
def made (Δ : Dl) (α : Nat → Nat) (E : Nat → va_E) (k : Nat) : Prop := E k = ent (α, Δ.1, Δ.2.1) (shp k) (hi0 k) (hl0 k)
theorem slot_fun {a b : Nat} {α : Nat → Nat} (h1 : α 12 = a) (h2 : α 18 = b) : va_up (va_up (fun _ => none) (Int32.toNatClampNeg 0) (some a)) (Int32.toNatClampNeg 1) (some b) = fun i => (slotRef i).map α := by
  subst h1
  subst h2
  funext i
  match i with
  | 0 => rfl
  | 1 => rfl
  | n + 2 => rfl
theorem made_39 {Δ : Dl} {α : Nat → Nat} {E : Nat → va_E} {f : Nat → Option Nat} (h : E 39 = .inl (Δ.2.1 4, 2, .inr (.inr (.inr (.inr f))))) (hf : f = fun i => (slotRef i).map α) : made Δ α E 39 := by
  subst hf
  exact h
set_option maxHeartbeats 4000000 in
theorem cn_BB {Δ : Dl} {α : Nat → Nat} {E : Nat → va_E} (hE : E 0 = .inr (8, [.null, .null, .null, .null, .null, .null, .null, .null, .null, .null])) : CtN Δ M_BB_init 4 40 957 [.ref (α 0)] α E [0] (fun α' E' ks' => α' 0 = α 0 ∧ ks' = ordB ∧ made Δ α' E' 0 ∧ made Δ α' E' 1 ∧ made Δ α' E' 2 ∧ made Δ α' E' 3 ∧ made Δ α' E' 4 ∧ made Δ α' E' 5 ∧ made Δ α' E' 6 ∧ made Δ α' E' 7 ∧ made Δ α' E' 8 ∧ made Δ α' E' 9 ∧ made Δ α' E' 10 ∧ made Δ α' E' 11 ∧ made Δ α' E' 12 ∧ made Δ α' E' 13 ∧ made Δ α' E' 14 ∧ made Δ α' E' 15 ∧ made Δ α' E' 16 ∧ made Δ α' E' 17 ∧ made Δ α' E' 18 ∧ made Δ α' E' 19 ∧ made Δ α' E' 20 ∧ made Δ α' E' 21 ∧ made Δ α' E' 22 ∧ made Δ α' E' 23 ∧ made Δ α' E' 24 ∧ made Δ α' E' 25 ∧ made Δ α' E' 26 ∧ made Δ α' E' 27 ∧ made Δ α' E' 28 ∧ made Δ α' E' 29 ∧ made Δ α' E' 30 ∧ made Δ α' E' 31 ∧ made Δ α' E' 32 ∧ made Δ α' E' 33 ∧ made Δ α' E' 34 ∧ made Δ α' E' 35 ∧ made Δ α' E' 36 ∧ made Δ α' E' 37 ∧ made Δ α' E' 38 ∧ made Δ α' E' 39 ∧ made Δ α' E' 40) := by
  refine ctn_intro (lv := [_, _]) (by decide +kernel) rfl (Nat.le_of_ble_eq_true rfl) rfl ?_
  refine wn_aload_n d_BB_init_0 rfl ?_
  refine wn_objInit d_BB_init_1 oi_BB oi_inst oi_code (by decide) (Nat.le_of_ble_eq_true rfl) ?_
  refine wn_aload_n d_BB_init_4 rfl ?_
  refine wn_new (k := 1) nw_BB_7 bl_SC d_BB_init_5 (by decide) (Nat.le_of_ble_eq_true rfl) (Nat.le_of_ble_eq_true rfl) (fun q1 => ?_)
  refine wn_dup d_BB_init_8 rfl ?_
  refine wn_callI (cn_SC_1 (by decide) (by decide) rfl) d_BB_init_9 ki_BB_9 rfl rfl (Nat.le_of_ble_eq_true rfl) (by decide) (Nat.le_of_ble_eq_true rfl) (Nat.le_of_ble_eq_true rfl) ?_
  rintro _ _ _ ⟨q2, rfl, rfl, rfl⟩
  refine wn_putF (k := 0) (fs := [.null, .null, .null, .null, .null, .null, .null, .null, .null, .null]) f_BB_10 fk_BB_0 cl_BB rfl d_BB_init_12 (by first | exact hE | rfl) rfl (by decide) rfl rfl (Nat.le_of_ble_eq_true rfl) ?_
  refine wn_aload_n d_BB_init_15 rfl ?_
  refine wn_new (k := 3) nw_BB_16 bl_PI d_BB_init_16 (by decide) (Nat.le_of_ble_eq_true rfl) (Nat.le_of_ble_eq_true rfl) (fun q3 => ?_)
  refine wn_dup d_BB_init_19 rfl ?_
  refine wn_callI (cn_PI_3 (by decide) (by decide) (by decide) rfl) d_BB_init_20 ki_BB_18 rfl rfl (Nat.le_of_ble_eq_true rfl) (by decide) (Nat.le_of_ble_eq_true rfl) (Nat.le_of_ble_eq_true rfl) ?_
  rintro _ _ _ ⟨q4, q5, rfl, rfl, rfl⟩
  refine wn_putF (k := 0) (fs := [.ref q1, .null, .null, .null, .null, .null, .null, .null, .null, .null]) f_BB_19 fk_BB_1 cl_BB rfl d_BB_init_23 rfl rfl (by decide) rfl rfl (Nat.le_of_ble_eq_true rfl) ?_
  refine wn_aload_n d_BB_init_26 rfl ?_
  refine wn_new (k := 6) nw_BB_23 bl_PE d_BB_init_27 (by decide) (Nat.le_of_ble_eq_true rfl) (Nat.le_of_ble_eq_true rfl) (fun q6 => ?_)
  refine wn_dup d_BB_init_30 rfl ?_
  refine wn_callI (cn_PE_6 (by decide) (by decide) (by decide) (by decide) (by decide) (by decide) rfl) d_BB_init_31 ki_BB_25 rfl rfl (Nat.le_of_ble_eq_true rfl) (by decide) (Nat.le_of_ble_eq_true rfl) (Nat.le_of_ble_eq_true rfl) ?_
  rintro _ _ _ ⟨q7, q8, q9, q10, q11, rfl, rfl, rfl⟩
  refine wn_putF (k := 0) (fs := [.ref q1, .ref q3, .null, .null, .null, .null, .null, .null, .null, .null]) f_BB_26 fk_BB_2 cl_BB rfl d_BB_init_34 rfl rfl (by decide) rfl rfl (Nat.le_of_ble_eq_true rfl) ?_
  refine wn_aload_n d_BB_init_37 rfl ?_
  refine wn_new (k := 24) nw_BB_30 bl_MA d_BB_init_38 (by decide) (Nat.le_of_ble_eq_true rfl) (Nat.le_of_ble_eq_true rfl) (fun q24 => ?_)
  refine wn_dup d_BB_init_41 rfl ?_
  refine wn_aload_n d_BB_init_42 rfl ?_
  refine wn_get (k := 0) f_BB_19 cl_BB d_BB_init_43 rfl rfl (by decide) rfl ?_
  refine wn_aload_n d_BB_init_46 rfl ?_
  refine wn_get (k := 0) f_BB_26 cl_BB d_BB_init_47 rfl rfl (by decide) rfl ?_
  refine wn_callI (cn_MA_24 (by decide) (by decide) (by decide) (by decide) rfl) d_BB_init_50 ki_BB_32 rfl rfl (Nat.le_of_ble_eq_true rfl) (by decide) (Nat.le_of_ble_eq_true rfl) (Nat.le_of_ble_eq_true rfl) ?_
  rintro _ _ _ ⟨q25, q26, q27, rfl, rfl, rfl⟩
  refine wn_putF (k := 0) (fs := [.ref q1, .ref q3, .ref q6, .null, .null, .null, .null, .null, .null, .null]) f_BB_35 fk_BB_3 cl_BB rfl d_BB_init_53 rfl rfl (by decide) rfl rfl (Nat.le_of_ble_eq_true rfl) ?_
  refine wn_aload_n d_BB_init_56 rfl ?_
  refine wn_new (k := 28) nw_BB_39 bl_PH d_BB_init_57 (by decide) (Nat.le_of_ble_eq_true rfl) (Nat.le_of_ble_eq_true rfl) (fun q28 => ?_)
  refine wn_dup d_BB_init_60 rfl ?_
  refine wn_aload_n d_BB_init_61 rfl ?_
  refine wn_get (k := 0) f_BB_26 cl_BB d_BB_init_62 rfl rfl (by decide) rfl ?_
  refine wn_aload_n d_BB_init_65 rfl ?_
  refine wn_get (k := 0) f_BB_35 cl_BB d_BB_init_66 rfl rfl (by decide) rfl ?_
  refine wn_callI (cn_PH_28 (by decide) (by decide) (by decide) (by decide) (by decide) rfl) d_BB_init_69 ki_BB_41 rfl rfl (Nat.le_of_ble_eq_true rfl) (by decide) (Nat.le_of_ble_eq_true rfl) (Nat.le_of_ble_eq_true rfl) ?_
  rintro _ _ _ ⟨q29, q30, q31, q32, rfl, rfl, rfl⟩
  refine wn_putF (k := 0) (fs := [.ref q1, .ref q3, .ref q6, .ref q24, .null, .null, .null, .null, .null, .null]) f_BB_44 fk_BB_4 cl_BB rfl d_BB_init_72 rfl rfl (by decide) rfl rfl (Nat.le_of_ble_eq_true rfl) ?_
  refine wn_aload_n d_BB_init_75 rfl ?_
  refine wn_new (k := 33) nw_BB_48 bl_SE d_BB_init_76 (by decide) (Nat.le_of_ble_eq_true rfl) (Nat.le_of_ble_eq_true rfl) (fun q33 => ?_)
  refine wn_dup d_BB_init_79 rfl ?_
  refine wn_aload_n d_BB_init_80 rfl ?_
  refine wn_get (k := 0) f_BB_19 cl_BB d_BB_init_81 rfl rfl (by decide) rfl ?_
  refine wn_aload_n d_BB_init_84 rfl ?_
  refine wn_get (k := 0) f_BB_26 cl_BB d_BB_init_85 rfl rfl (by decide) rfl ?_
  refine wn_aload_n d_BB_init_88 rfl ?_
  refine wn_get (k := 0) f_BB_35 cl_BB d_BB_init_89 rfl rfl (by decide) rfl ?_
  refine wn_callI (cn_SE_33 (by decide) (by decide) (by decide) rfl) d_BB_init_92 ki_BB_50 rfl rfl (Nat.le_of_ble_eq_true rfl) (by decide) (Nat.le_of_ble_eq_true rfl) (Nat.le_of_ble_eq_true rfl) ?_
  rintro _ _ _ ⟨q34, q35, rfl, rfl, rfl⟩
  refine wn_putF (k := 0) (fs := [.ref q1, .ref q3, .ref q6, .ref q24, .ref q28, .null, .null, .null, .null, .null]) f_BB_53 fk_BB_5 cl_BB rfl d_BB_init_95 rfl rfl (by decide) rfl rfl (Nat.le_of_ble_eq_true rfl) ?_
  refine wn_aload_n d_BB_init_98 rfl ?_
  refine wn_new (k := 36) nw_BB_57 bl_BP d_BB_init_99 (by decide) (Nat.le_of_ble_eq_true rfl) (Nat.le_of_ble_eq_true rfl) (fun q36 => ?_)
  refine wn_dup d_BB_init_102 rfl ?_
  refine wn_aload_n d_BB_init_103 rfl ?_
  refine wn_get (k := 0) f_BB_19 cl_BB d_BB_init_104 rfl rfl (by decide) rfl ?_
  refine wn_aload_n d_BB_init_107 rfl ?_
  refine wn_get (k := 0) f_BB_26 cl_BB d_BB_init_108 rfl rfl (by decide) rfl ?_
  refine wn_aload_n d_BB_init_111 rfl ?_
  refine wn_get (k := 0) f_BB_35 cl_BB d_BB_init_112 rfl rfl (by decide) rfl ?_
  refine wn_callI (cn_BP_36 (by decide) rfl) d_BB_init_115 ki_BB_59 rfl rfl (Nat.le_of_ble_eq_true rfl) (by decide) (Nat.le_of_ble_eq_true rfl) (Nat.le_of_ble_eq_true rfl) ?_
  rintro _ _ _ ⟨rfl, rfl, rfl⟩
  refine wn_putF (k := 0) (fs := [.ref q1, .ref q3, .ref q6, .ref q24, .ref q28, .ref q33, .null, .null, .null, .null]) f_BB_60 fk_BB_6 cl_BB rfl d_BB_init_118 rfl rfl (by decide) rfl rfl (Nat.le_of_ble_eq_true rfl) ?_
  refine wn_aload_n d_BB_init_121 rfl ?_
  refine wn_new (k := 37) nw_BB_64 bl_SN d_BB_init_122 (by decide) (Nat.le_of_ble_eq_true rfl) (Nat.le_of_ble_eq_true rfl) (fun q37 => ?_)
  refine wn_dup d_BB_init_125 rfl ?_
  refine wn_aload_n d_BB_init_126 rfl ?_
  refine wn_get (k := 0) f_BB_19 cl_BB d_BB_init_127 rfl rfl (by decide) rfl ?_
  refine wn_aload_n d_BB_init_130 rfl ?_
  refine wn_get (k := 0) f_BB_26 cl_BB d_BB_init_131 rfl rfl (by decide) rfl ?_
  refine wn_callI (cn_SN_37 (by decide) (by decide) rfl) d_BB_init_134 ki_BB_66 rfl rfl (Nat.le_of_ble_eq_true rfl) (by decide) (Nat.le_of_ble_eq_true rfl) (Nat.le_of_ble_eq_true rfl) ?_
  rintro _ _ _ ⟨q38, rfl, rfl, rfl⟩
  refine wn_putF (k := 0) (fs := [.ref q1, .ref q3, .ref q6, .ref q24, .ref q28, .ref q33, .ref q36, .null, .null, .null]) f_BB_67 fk_BB_7 cl_BB rfl d_BB_init_137 rfl rfl (by decide) rfl rfl (Nat.le_of_ble_eq_true rfl) ?_
  refine wn_aload_n d_BB_init_140 rfl ?_
  refine wn_iconst (v := 2) d_BB_init_141 rfl ?_
  refine wn_newq (k := 39) (N' := 2) d_BB_init_142 cl_BB_23 (by decide) rfl (by decide) (by decide) (Nat.le_of_ble_eq_true rfl) (Nat.le_of_ble_eq_true rfl) (fun q39 => ?_)
  refine wn_putF (k := 0) (fs := [.ref q1, .ref q3, .ref q6, .ref q24, .ref q28, .ref q33, .ref q36, .ref q37, .null, .null]) f_BB_71 fk_BB_8 cl_BB rfl d_BB_init_145 rfl rfl (by decide) rfl rfl (Nat.le_of_ble_eq_true rfl) ?_
  refine wn_aload_n d_BB_init_148 rfl ?_
  refine wn_iconst (v := 2) d_BB_init_149 rfl ?_
  refine wn_newa (t := 2) (k := 40) (N' := 2) (a0 := (2, .inl (fun _ => 0))) (ty := .boolean) d_BB_init_150 ac_boolean rfl rfl (fun _ _ h => h) (fun _ => rfl) (by decide) rfl (by decide) (by decide) (Nat.le_of_ble_eq_true rfl) (Nat.le_of_ble_eq_true rfl) (fun q40 => ?_)
  refine wn_putF (k := 0) (fs := [.ref q1, .ref q3, .ref q6, .ref q24, .ref q28, .ref q33, .ref q36, .ref q37, .ref q39, .null]) f_BB_75 fk_BB_9 cl_BB rfl d_BB_init_152 rfl rfl (by decide) rfl rfl (Nat.le_of_ble_eq_true rfl) ?_
  refine wn_iconst (v := 0) d_BB_init_155 rfl ?_
  refine wn_istore_n (lv' := [_, _]) d_BB_init_156 (by decide) rfl ?_
  refine wn_iload_n d_BB_init_157 rfl ?_
  refine wn_iconst (v := 2) d_BB_init_158 rfl ?_
  refine wn_icmp_ge (tgt := 181) d_BB_init_159 (by decide) (fun h => absurd h (by decide)) (fun _ => ?_)
  refine wn_aload_n d_BB_init_162 rfl ?_
  refine wn_get (k := 0) f_BB_71 cl_BB d_BB_init_163 rfl rfl (by decide) rfl ?_
  refine wn_iload_n d_BB_init_166 rfl ?_
  refine wn_new (k := 12) nw_BB_23 bl_PE d_BB_init_167 (by decide) (Nat.le_of_ble_eq_true rfl) (Nat.le_of_ble_eq_true rfl) (fun q12 => ?_)
  refine wn_dup d_BB_init_170 rfl ?_
  refine wn_callI (cn_PE_12 (by decide) (by decide) (by decide) (by decide) (by decide) (by decide) rfl) d_BB_init_171 ki_BB_25 rfl rfl (Nat.le_of_ble_eq_true rfl) (by decide) (Nat.le_of_ble_eq_true rfl) (Nat.le_of_ble_eq_true rfl) ?_
  rintro _ _ _ ⟨q13, q14, q15, q16, q17, rfl, rfl, rfl⟩
  refine wn_astq (k := 39) (k2 := 12) (T := F_PE) (N := 8) d_BB_init_174 rfl rfl (by decide) rfl rfl (by decide) rfl (by unfold vp_in; decide) ?_
  refine wn_iinc (v := 1) (lv' := [_, _]) d_BB_init_175 rfl rfl (by decide) rfl ?_
  refine wn_goto (tgt := 157) d_BB_init_178 (by decide) ?_
  refine wn_iload_n d_BB_init_157 rfl ?_
  refine wn_iconst (v := 2) d_BB_init_158 rfl ?_
  refine wn_icmp_ge (tgt := 181) d_BB_init_159 (by decide) (fun h => absurd h (by decide)) (fun _ => ?_)
  refine wn_aload_n d_BB_init_162 rfl ?_
  refine wn_get (k := 0) f_BB_71 cl_BB d_BB_init_163 rfl rfl (by decide) rfl ?_
  refine wn_iload_n d_BB_init_166 rfl ?_
  refine wn_new (k := 18) nw_BB_23 bl_PE d_BB_init_167 (by decide) (Nat.le_of_ble_eq_true rfl) (Nat.le_of_ble_eq_true rfl) (fun q18 => ?_)
  refine wn_dup d_BB_init_170 rfl ?_
  refine wn_callI (cn_PE_18 (by decide) (by decide) (by decide) (by decide) (by decide) (by decide) rfl) d_BB_init_171 ki_BB_25 rfl rfl (Nat.le_of_ble_eq_true rfl) (by decide) (Nat.le_of_ble_eq_true rfl) (Nat.le_of_ble_eq_true rfl) ?_
  rintro _ _ _ ⟨q19, q20, q21, q22, q23, rfl, rfl, rfl⟩
  refine wn_astq (k := 39) (k2 := 18) (T := F_PE) (N := 8) d_BB_init_174 rfl rfl (by decide) rfl rfl (by decide) rfl (by unfold vp_in; decide) ?_
  refine wn_iinc (v := 2) (lv' := [_, _]) d_BB_init_175 rfl rfl (by decide) rfl ?_
  refine wn_goto (tgt := 157) d_BB_init_178 (by decide) ?_
  refine wn_iload_n d_BB_init_157 rfl ?_
  refine wn_iconst (v := 2) d_BB_init_158 rfl ?_
  refine wn_icmp_ge (tgt := 181) d_BB_init_159 (by decide) (fun _ => ?_) (fun h => absurd (by decide) h)
  exact wn_ret d_BB_init_181 rfl rfl ⟨rfl, rfl, rfl, rfl, rfl, rfl, rfl, rfl, rfl, rfl, rfl, rfl, rfl, rfl, rfl, rfl, rfl, rfl, rfl, rfl, rfl, rfl, rfl, rfl, rfl, rfl, rfl, rfl, rfl, rfl, rfl, rfl, rfl, rfl, rfl, rfl, rfl, rfl, rfl, rfl, rfl, made_39 rfl (slot_fun rfl rfl), rfl⟩
