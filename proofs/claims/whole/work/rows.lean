section
-- ===== PART A: goes FIRST, ahead of the names: the tables' words, and 'selects' of the private methods out of them =====
/-- a private method of a class that the tables say can be made, by its rows of tables_1 -/
def lw_okq (q : MethodName × Nat) : Prop := (q.1.cls ≠ "java/lang/invoke/MethodHandle" ∧ q.1.cls ≠ "java/lang/invoke/VarHandle") ∧ Cond.instantiable q.1.cls q.2 ∈ tables_1 ∧ Cond.privateMethod q.1 ∈ tables_1 ∧ Cond.instanceMethod q.1 ∈ tables_1
theorem lw_p0 : lw_okq (⟨"BlownByAll$Script", "takeSign", "(C)Z"⟩, 6) := ⟨⟨by decide +kernel, by decide +kernel⟩, List.mem_of_getElem? (i := 22) (by decide +kernel), List.mem_of_getElem? (i := 333) (by decide +kernel), List.mem_of_getElem? (i := 334) (by decide +kernel)⟩
theorem lw_p1 : lw_okq (⟨"BlownByAll$Script", "signAt", "(I)I"⟩, 6) := ⟨⟨by decide +kernel, by decide +kernel⟩, List.mem_of_getElem? (i := 22) (by decide +kernel), List.mem_of_getElem? (i := 337) (by decide +kernel), List.mem_of_getElem? (i := 338) (by decide +kernel)⟩
theorem lw_p2 : lw_okq (⟨"BlownByAll$Script", "takePipes", "()Z"⟩, 6) := ⟨⟨by decide +kernel, by decide +kernel⟩, List.mem_of_getElem? (i := 22) (by decide +kernel), List.mem_of_getElem? (i := 341) (by decide +kernel), List.mem_of_getElem? (i := 342) (by decide +kernel)⟩
theorem lw_p3 : lw_okq (⟨"BlownByAll$Script", "takeFigure", "(II)Z"⟩, 6) := ⟨⟨by decide +kernel, by decide +kernel⟩, List.mem_of_getElem? (i := 22) (by decide +kernel), List.mem_of_getElem? (i := 345) (by decide +kernel), List.mem_of_getElem? (i := 346) (by decide +kernel)⟩
theorem lw_p4 : lw_okq (⟨"BlownByAll$Script", "figureAt", "(I)I"⟩, 6) := ⟨⟨by decide +kernel, by decide +kernel⟩, List.mem_of_getElem? (i := 22) (by decide +kernel), List.mem_of_getElem? (i := 349) (by decide +kernel), List.mem_of_getElem? (i := 350) (by decide +kernel)⟩
theorem lw_p5 : lw_okq (⟨"BlownByAll$Script", "takePeople", "()Z"⟩, 6) := ⟨⟨by decide +kernel, by decide +kernel⟩, List.mem_of_getElem? (i := 22) (by decide +kernel), List.mem_of_getElem? (i := 353) (by decide +kernel), List.mem_of_getElem? (i := 354) (by decide +kernel)⟩
theorem lw_p6 : lw_okq (⟨"BlownByAll$Script", "takeHymn", "()Z"⟩, 6) := ⟨⟨by decide +kernel, by decide +kernel⟩, List.mem_of_getElem? (i := 22) (by decide +kernel), List.mem_of_getElem? (i := 357) (by decide +kernel), List.mem_of_getElem? (i := 358) (by decide +kernel)⟩
theorem lw_p7 : lw_okq (⟨"BlownByAll$PhasePlan", "list", "(I)V"⟩, 9) := ⟨⟨by decide +kernel, by decide +kernel⟩, List.mem_of_getElem? (i := 163) (by decide +kernel), List.mem_of_getElem? (i := 535) (by decide +kernel), List.mem_of_getElem? (i := 536) (by decide +kernel)⟩
theorem lw_p8 : lw_okq (⟨"BlownByAll$PhasePlan", "foresee", "()V"⟩, 9) := ⟨⟨by decide +kernel, by decide +kernel⟩, List.mem_of_getElem? (i := 163) (by decide +kernel), List.mem_of_getElem? (i := 544) (by decide +kernel), List.mem_of_getElem? (i := 545) (by decide +kernel)⟩
theorem lw_p9 : lw_okq (⟨"BlownByAll$PhasePlan", "leastAlone", "(I)I"⟩, 9) := ⟨⟨by decide +kernel, by decide +kernel⟩, List.mem_of_getElem? (i := 163) (by decide +kernel), List.mem_of_getElem? (i := 549) (by decide +kernel), List.mem_of_getElem? (i := 550) (by decide +kernel)⟩
theorem lw_p10 : lw_okq (⟨"BlownByAll$PhasePlan", "lastPhase", "(I)I"⟩, 9) := ⟨⟨by decide +kernel, by decide +kernel⟩, List.mem_of_getElem? (i := 163) (by decide +kernel), List.mem_of_getElem? (i := 554) (by decide +kernel), List.mem_of_getElem? (i := 555) (by decide +kernel)⟩
theorem lw_p11 : lw_okq (⟨"BlownByAll$PhasePlan", "breath", "(I)I"⟩, 9) := ⟨⟨by decide +kernel, by decide +kernel⟩, List.mem_of_getElem? (i := 163) (by decide +kernel), List.mem_of_getElem? (i := 558) (by decide +kernel), List.mem_of_getElem? (i := 559) (by decide +kernel)⟩
theorem lw_p12 : lw_okq (⟨"BlownByAll$PhasePlan", "settle", "(I)V"⟩, 9) := ⟨⟨by decide +kernel, by decide +kernel⟩, List.mem_of_getElem? (i := 163) (by decide +kernel), List.mem_of_getElem? (i := 573) (by decide +kernel), List.mem_of_getElem? (i := 574) (by decide +kernel)⟩
theorem lw_p13 : lw_okq (⟨"BlownByAll$SeatPlan", "setPrices", "(I)V"⟩, 5) := ⟨⟨by decide +kernel, by decide +kernel⟩, List.mem_of_getElem? (i := 198) (by decide +kernel), List.mem_of_getElem? (i := 593) (by decide +kernel), List.mem_of_getElem? (i := 594) (by decide +kernel)⟩
theorem lw_p14 : lw_okq (⟨"BlownByAll$SeatPlan", "bestWith", "(II)I"⟩, 5) := ⟨⟨by decide +kernel, by decide +kernel⟩, List.mem_of_getElem? (i := 198) (by decide +kernel), List.mem_of_getElem? (i := 605) (by decide +kernel), List.mem_of_getElem? (i := 606) (by decide +kernel)⟩
theorem lw_p15 : lw_okq (⟨"BlownByAll$SeatPlan", "plan", "()I"⟩, 5) := ⟨⟨by decide +kernel, by decide +kernel⟩, List.mem_of_getElem? (i := 198) (by decide +kernel), List.mem_of_getElem? (i := 615) (by decide +kernel), List.mem_of_getElem? (i := 616) (by decide +kernel)⟩
def lw_privs_1 : List (MethodName × Nat) := [(⟨"BlownByAll$Script", "takeSign", "(C)Z"⟩, 6), (⟨"BlownByAll$Script", "signAt", "(I)I"⟩, 6), (⟨"BlownByAll$Script", "takePipes", "()Z"⟩, 6), (⟨"BlownByAll$Script", "takeFigure", "(II)Z"⟩, 6), (⟨"BlownByAll$Script", "figureAt", "(I)I"⟩, 6), (⟨"BlownByAll$Script", "takePeople", "()Z"⟩, 6), (⟨"BlownByAll$Script", "takeHymn", "()Z"⟩, 6), (⟨"BlownByAll$PhasePlan", "list", "(I)V"⟩, 9), (⟨"BlownByAll$PhasePlan", "foresee", "()V"⟩, 9), (⟨"BlownByAll$PhasePlan", "leastAlone", "(I)I"⟩, 9), (⟨"BlownByAll$PhasePlan", "lastPhase", "(I)I"⟩, 9), (⟨"BlownByAll$PhasePlan", "breath", "(I)I"⟩, 9), (⟨"BlownByAll$PhasePlan", "settle", "(I)V"⟩, 9), (⟨"BlownByAll$SeatPlan", "setPrices", "(I)V"⟩, 5), (⟨"BlownByAll$SeatPlan", "bestWith", "(II)I"⟩, 5), (⟨"BlownByAll$SeatPlan", "plan", "()I"⟩, 5)]
theorem lw_r1 : ∀ q ∈ lw_privs_1, lw_okq q := List.forall_mem_cons.mpr ⟨lw_p0, List.forall_mem_cons.mpr ⟨lw_p1, List.forall_mem_cons.mpr ⟨lw_p2, List.forall_mem_cons.mpr ⟨lw_p3, List.forall_mem_cons.mpr ⟨lw_p4, List.forall_mem_cons.mpr ⟨lw_p5, List.forall_mem_cons.mpr ⟨lw_p6, List.forall_mem_cons.mpr ⟨lw_p7, List.forall_mem_cons.mpr ⟨lw_p8, List.forall_mem_cons.mpr ⟨lw_p9, List.forall_mem_cons.mpr ⟨lw_p10, List.forall_mem_cons.mpr ⟨lw_p11, List.forall_mem_cons.mpr ⟨lw_p12, List.forall_mem_cons.mpr ⟨lw_p13, List.forall_mem_cons.mpr ⟨lw_p14, List.forall_mem_cons.mpr ⟨lw_p15, fun _ h => absurd h List.not_mem_nil⟩⟩⟩⟩⟩⟩⟩⟩⟩⟩⟩⟩⟩⟩⟩⟩
theorem lw_p16 : lw_okq (⟨"BlownByAll$BribePlan", "nextToDecide", "(I)I"⟩, 6) := ⟨⟨by decide +kernel, by decide +kernel⟩, List.mem_of_getElem? (i := 220) (by decide +kernel), List.mem_of_getElem? (i := 644) (by decide +kernel), List.mem_of_getElem? (i := 645) (by decide +kernel)⟩
theorem lw_p17 : lw_okq (⟨"BlownByAll$Sneezes", "spread", "(III)V"⟩, 6) := ⟨⟨by decide +kernel, by decide +kernel⟩, List.mem_of_getElem? (i := 245) (by decide +kernel), List.mem_of_getElem? (i := 671) (by decide +kernel), List.mem_of_getElem? (i := 672) (by decide +kernel)⟩
theorem lw_p18 : lw_okq (⟨"BlownByAll$Sneezes", "admit", "(II)V"⟩, 6) := ⟨⟨by decide +kernel, by decide +kernel⟩, List.mem_of_getElem? (i := 245) (by decide +kernel), List.mem_of_getElem? (i := 676) (by decide +kernel), List.mem_of_getElem? (i := 677) (by decide +kernel)⟩
theorem lw_p19 : lw_okq (⟨"BlownByAll$Sneezes", "casesUnder", "(I)J"⟩, 6) := ⟨⟨by decide +kernel, by decide +kernel⟩, List.mem_of_getElem? (i := 245) (by decide +kernel), List.mem_of_getElem? (i := 681) (by decide +kernel), List.mem_of_getElem? (i := 682) (by decide +kernel)⟩
theorem lw_p20 : lw_okq (⟨"BlownByAll$Sneezes", "reduce", "(JJ)V"⟩, 6) := ⟨⟨by decide +kernel, by decide +kernel⟩, List.mem_of_getElem? (i := 245) (by decide +kernel), List.mem_of_getElem? (i := 685) (by decide +kernel), List.mem_of_getElem? (i := 686) (by decide +kernel)⟩
theorem lw_p21 : lw_okq (⟨"BlownByAllModel", "readText", "()I"⟩, 31) := ⟨⟨by decide +kernel, by decide +kernel⟩, List.mem_of_getElem? (i := 718) (by decide +kernel), List.mem_of_getElem? (i := 835) (by decide +kernel), List.mem_of_getElem? (i := 836) (by decide +kernel)⟩
theorem lw_p22 : lw_okq (⟨"BlownByAllModel", "here", "()I"⟩, 31) := ⟨⟨by decide +kernel, by decide +kernel⟩, List.mem_of_getElem? (i := 718) (by decide +kernel), List.mem_of_getElem? (i := 839) (by decide +kernel), List.mem_of_getElem? (i := 840) (by decide +kernel)⟩
theorem lw_p23 : lw_okq (⟨"BlownByAllModel", "figure", "(II)I"⟩, 31) := ⟨⟨by decide +kernel, by decide +kernel⟩, List.mem_of_getElem? (i := 718) (by decide +kernel), List.mem_of_getElem? (i := 845) (by decide +kernel), List.mem_of_getElem? (i := 846) (by decide +kernel)⟩
theorem lw_p24 : lw_okq (⟨"BlownByAllModel", "fail", "()V"⟩, 31) := ⟨⟨by decide +kernel, by decide +kernel⟩, List.mem_of_getElem? (i := 718) (by decide +kernel), List.mem_of_getElem? (i := 849) (by decide +kernel), List.mem_of_getElem? (i := 850) (by decide +kernel)⟩
theorem lw_p25 : lw_okq (⟨"BlownByAllModel", "bits", "(I)I"⟩, 31) := ⟨⟨by decide +kernel, by decide +kernel⟩, List.mem_of_getElem? (i := 718) (by decide +kernel), List.mem_of_getElem? (i := 853) (by decide +kernel), List.mem_of_getElem? (i := 854) (by decide +kernel)⟩
theorem lw_p26 : lw_okq (⟨"BlownByAllModel", "isPipe", "(I)Z"⟩, 31) := ⟨⟨by decide +kernel, by decide +kernel⟩, List.mem_of_getElem? (i := 718) (by decide +kernel), List.mem_of_getElem? (i := 866) (by decide +kernel), List.mem_of_getElem? (i := 867) (by decide +kernel)⟩
theorem lw_p27 : lw_okq (⟨"BlownByAllModel", "isBeat", "(I)Z"⟩, 31) := ⟨⟨by decide +kernel, by decide +kernel⟩, List.mem_of_getElem? (i := 718) (by decide +kernel), List.mem_of_getElem? (i := 874) (by decide +kernel), List.mem_of_getElem? (i := 875) (by decide +kernel)⟩
theorem lw_p28 : lw_okq (⟨"BlownByAllModel", "isPerson", "(I)Z"⟩, 31) := ⟨⟨by decide +kernel, by decide +kernel⟩, List.mem_of_getElem? (i := 718) (by decide +kernel), List.mem_of_getElem? (i := 882) (by decide +kernel), List.mem_of_getElem? (i := 883) (by decide +kernel)⟩
theorem lw_p29 : lw_okq (⟨"BlownByAllModel", "tell", "(II)I"⟩, 31) := ⟨⟨by decide +kernel, by decide +kernel⟩, List.mem_of_getElem? (i := 718) (by decide +kernel), List.mem_of_getElem? (i := 891) (by decide +kernel), List.mem_of_getElem? (i := 892) (by decide +kernel)⟩
theorem lw_p30 : lw_okq (⟨"BlownByAllModel", "givesOf", "(II)I"⟩, 31) := ⟨⟨by decide +kernel, by decide +kernel⟩, List.mem_of_getElem? (i := 718) (by decide +kernel), List.mem_of_getElem? (i := 921) (by decide +kernel), List.mem_of_getElem? (i := 922) (by decide +kernel)⟩
theorem lw_p31 : lw_okq (⟨"BlownByAllModel", "sitters", "(I)I"⟩, 31) := ⟨⟨by decide +kernel, by decide +kernel⟩, List.mem_of_getElem? (i := 718) (by decide +kernel), List.mem_of_getElem? (i := 929) (by decide +kernel), List.mem_of_getElem? (i := 930) (by decide +kernel)⟩
def lw_privs_2 : List (MethodName × Nat) := [(⟨"BlownByAll$BribePlan", "nextToDecide", "(I)I"⟩, 6), (⟨"BlownByAll$Sneezes", "spread", "(III)V"⟩, 6), (⟨"BlownByAll$Sneezes", "admit", "(II)V"⟩, 6), (⟨"BlownByAll$Sneezes", "casesUnder", "(I)J"⟩, 6), (⟨"BlownByAll$Sneezes", "reduce", "(JJ)V"⟩, 6), (⟨"BlownByAllModel", "readText", "()I"⟩, 31), (⟨"BlownByAllModel", "here", "()I"⟩, 31), (⟨"BlownByAllModel", "figure", "(II)I"⟩, 31), (⟨"BlownByAllModel", "fail", "()V"⟩, 31), (⟨"BlownByAllModel", "bits", "(I)I"⟩, 31), (⟨"BlownByAllModel", "isPipe", "(I)Z"⟩, 31), (⟨"BlownByAllModel", "isBeat", "(I)Z"⟩, 31), (⟨"BlownByAllModel", "isPerson", "(I)Z"⟩, 31), (⟨"BlownByAllModel", "tell", "(II)I"⟩, 31), (⟨"BlownByAllModel", "givesOf", "(II)I"⟩, 31), (⟨"BlownByAllModel", "sitters", "(I)I"⟩, 31)]
theorem lw_r2 : ∀ q ∈ lw_privs_2, lw_okq q := List.forall_mem_cons.mpr ⟨lw_p16, List.forall_mem_cons.mpr ⟨lw_p17, List.forall_mem_cons.mpr ⟨lw_p18, List.forall_mem_cons.mpr ⟨lw_p19, List.forall_mem_cons.mpr ⟨lw_p20, List.forall_mem_cons.mpr ⟨lw_p21, List.forall_mem_cons.mpr ⟨lw_p22, List.forall_mem_cons.mpr ⟨lw_p23, List.forall_mem_cons.mpr ⟨lw_p24, List.forall_mem_cons.mpr ⟨lw_p25, List.forall_mem_cons.mpr ⟨lw_p26, List.forall_mem_cons.mpr ⟨lw_p27, List.forall_mem_cons.mpr ⟨lw_p28, List.forall_mem_cons.mpr ⟨lw_p29, List.forall_mem_cons.mpr ⟨lw_p30, List.forall_mem_cons.mpr ⟨lw_p31, fun _ h => absurd h List.not_mem_nil⟩⟩⟩⟩⟩⟩⟩⟩⟩⟩⟩⟩⟩⟩⟩⟩
theorem lw_p32 : lw_okq (⟨"BlownByAllModel", "airOf", "(II)I"⟩, 31) := ⟨⟨by decide +kernel, by decide +kernel⟩, List.mem_of_getElem? (i := 718) (by decide +kernel), List.mem_of_getElem? (i := 933) (by decide +kernel), List.mem_of_getElem? (i := 934) (by decide +kernel)⟩
theorem lw_p33 : lw_okq (⟨"BlownByAllModel", "blow", "(II)I"⟩, 31) := ⟨⟨by decide +kernel, by decide +kernel⟩, List.mem_of_getElem? (i := 718) (by decide +kernel), List.mem_of_getElem? (i := 941) (by decide +kernel), List.mem_of_getElem? (i := 942) (by decide +kernel)⟩
theorem lw_p34 : lw_okq (⟨"BlownByAllModel", "totalOf", "()I"⟩, 31) := ⟨⟨by decide +kernel, by decide +kernel⟩, List.mem_of_getElem? (i := 718) (by decide +kernel), List.mem_of_getElem? (i := 953) (by decide +kernel), List.mem_of_getElem? (i := 954) (by decide +kernel)⟩
theorem lw_p35 : lw_okq (⟨"BlownByAllModel", "layPhases", "(I)I"⟩, 31) := ⟨⟨by decide +kernel, by decide +kernel⟩, List.mem_of_getElem? (i := 718) (by decide +kernel), List.mem_of_getElem? (i := 976) (by decide +kernel), List.mem_of_getElem? (i := 977) (by decide +kernel)⟩
theorem lw_p36 : lw_okq (⟨"BlownByAllModel", "laySeats", "()I"⟩, 31) := ⟨⟨by decide +kernel, by decide +kernel⟩, List.mem_of_getElem? (i := 718) (by decide +kernel), List.mem_of_getElem? (i := 991) (by decide +kernel), List.mem_of_getElem? (i := 992) (by decide +kernel)⟩
theorem lw_p37 : lw_okq (⟨"BlownByAllModel", "isSteady", "(I)Z"⟩, 31) := ⟨⟨by decide +kernel, by decide +kernel⟩, List.mem_of_getElem? (i := 718) (by decide +kernel), List.mem_of_getElem? (i := 1003) (by decide +kernel), List.mem_of_getElem? (i := 1004) (by decide +kernel)⟩
theorem lw_p38 : lw_okq (⟨"BlownByAllModel", "layWays", "(III)V"⟩, 31) := ⟨⟨by decide +kernel, by decide +kernel⟩, List.mem_of_getElem? (i := 718) (by decide +kernel), List.mem_of_getElem? (i := 1022) (by decide +kernel), List.mem_of_getElem? (i := 1023) (by decide +kernel)⟩
theorem lw_p39 : lw_okq (⟨"BlownByAllModel", "less", "(I)J"⟩, 31) := ⟨⟨by decide +kernel, by decide +kernel⟩, List.mem_of_getElem? (i := 718) (by decide +kernel), List.mem_of_getElem? (i := 1026) (by decide +kernel), List.mem_of_getElem? (i := 1027) (by decide +kernel)⟩
def lw_privs_3 : List (MethodName × Nat) := [(⟨"BlownByAllModel", "airOf", "(II)I"⟩, 31), (⟨"BlownByAllModel", "blow", "(II)I"⟩, 31), (⟨"BlownByAllModel", "totalOf", "()I"⟩, 31), (⟨"BlownByAllModel", "layPhases", "(I)I"⟩, 31), (⟨"BlownByAllModel", "laySeats", "()I"⟩, 31), (⟨"BlownByAllModel", "isSteady", "(I)Z"⟩, 31), (⟨"BlownByAllModel", "layWays", "(III)V"⟩, 31), (⟨"BlownByAllModel", "less", "(I)J"⟩, 31)]
theorem lw_r3 : ∀ q ∈ lw_privs_3, lw_okq q := List.forall_mem_cons.mpr ⟨lw_p32, List.forall_mem_cons.mpr ⟨lw_p33, List.forall_mem_cons.mpr ⟨lw_p34, List.forall_mem_cons.mpr ⟨lw_p35, List.forall_mem_cons.mpr ⟨lw_p36, List.forall_mem_cons.mpr ⟨lw_p37, List.forall_mem_cons.mpr ⟨lw_p38, List.forall_mem_cons.mpr ⟨lw_p39, fun _ h => absurd h List.not_mem_nil⟩⟩⟩⟩⟩⟩⟩⟩
def lw_privs : List (MethodName × Nat) := lw_privs_1 ++ (lw_privs_2 ++ (lw_privs_3))
def lw_tbl : List Cond := k2_sels lw_privs ++ tables_1
theorem lw_privs_ok : ∀ q ∈ lw_privs, lw_okq q := by
  show ∀ q ∈ lw_privs_1 ++ (lw_privs_2 ++ (lw_privs_3)), lw_okq q
  exact List.forall_mem_append.mpr ⟨lw_r1, List.forall_mem_append.mpr ⟨lw_r2, lw_r3⟩⟩
end
section
/-! names of the classes, their fields by slots, the methods, the cells of the world -/
def R_BP : String := "BlownByAll$BribePlan"
def F_BP : u_T := fun k => match k with
  | 0 => ("BlownByAll$BribePlan", "pipes", "LBlownByAll$Pipes;", true)
  | 1 => ("BlownByAll$BribePlan", "people", "LBlownByAll$People;", true)
  | 2 => ("BlownByAll$BribePlan", "mass", "LBlownByAll$Mass;", true)
  | 3 => ("BlownByAll$BribePlan", "pipe", "I", false)
  | 4 => ("BlownByAll$BribePlan", "fewest", "I", false)
  | _ => ("BlownByAll$BribePlan", "bits", "I", false)
def t_BP : Nat → FieldType := fun k => match k with
  | 0 => .object "BlownByAll$Pipes"
  | 1 => .object "BlownByAll$People"
  | 2 => .object "BlownByAll$Mass"
  | 3 => .int
  | 4 => .int
  | _ => .int
theorem n_BP : ∀ a, a < 6 → ∀ b, b < 6 → a ≠ b → (F_BP a).2.1 ≠ (F_BP b).2.1 := by decide +kernel
theorem t_BP_ok : ∀ k, k < 6 → parseFieldDescriptor (F_BP k).2.2.1 = some (t_BP k) := by decide +kernel
theorem i_BP : ∀ w ∈ u_ws R_BP F_BP 6, w ∈ lw_tbl := by decide +kernel
def R_MA : String := "BlownByAll$Mass"
def F_MA : u_T := fun k => match k with
  | 0 => ("BlownByAll$Mass", "pipes", "LBlownByAll$Pipes;", true)
  | 1 => ("BlownByAll$Mass", "people", "LBlownByAll$People;", true)
  | 2 => ("BlownByAll$Mass", "wind", "[I", true)
  | 3 => ("BlownByAll$Mass", "held", "[I", true)
  | _ => ("BlownByAll$Mass", "missing", "[I", true)
def t_MA : Nat → FieldType := fun k => match k with
  | 0 => .object "BlownByAll$Pipes"
  | 1 => .object "BlownByAll$People"
  | 2 => .array .int
  | 3 => .array .int
  | _ => .array .int
theorem n_MA : ∀ a, a < 5 → ∀ b, b < 5 → a ≠ b → (F_MA a).2.1 ≠ (F_MA b).2.1 := by decide +kernel
theorem t_MA_ok : ∀ k, k < 5 → parseFieldDescriptor (F_MA k).2.2.1 = some (t_MA k) := by decide +kernel
theorem i_MA : ∀ w ∈ u_ws R_MA F_MA 5, w ∈ lw_tbl := by decide +kernel
def R_PE : String := "BlownByAll$People"
def F_PE : u_T := fun k => match k with
  | 0 => ("BlownByAll$People", "count", "I", false)
  | 1 => ("BlownByAll$People", "late", "I", false)
  | 2 => ("BlownByAll$People", "room", "I", false)
  | 3 => ("BlownByAll$People", "lungs", "[I", true)
  | 4 => ("BlownByAll$People", "force", "[I", true)
  | 5 => ("BlownByAll$People", "place", "[I", true)
  | 6 => ("BlownByAll$People", "phase", "[I", true)
  | _ => ("BlownByAll$People", "bribed", "[Z", true)
def t_PE : Nat → FieldType := fun k => match k with
  | 0 => .int
  | 1 => .int
  | 2 => .int
  | 3 => .array .int
  | 4 => .array .int
  | 5 => .array .int
  | 6 => .array .int
  | _ => .array .boolean
theorem n_PE : ∀ a, a < 8 → ∀ b, b < 8 → a ≠ b → (F_PE a).2.1 ≠ (F_PE b).2.1 := by decide +kernel
theorem t_PE_ok : ∀ k, k < 8 → parseFieldDescriptor (F_PE k).2.2.1 = some (t_PE k) := by decide +kernel
theorem i_PE : ∀ w ∈ u_ws R_PE F_PE 8, w ∈ lw_tbl := by decide +kernel
def R_PH : String := "BlownByAll$PhasePlan"
def F_PH : u_T := fun k => match k with
  | 0 => ("BlownByAll$PhasePlan", "people", "LBlownByAll$People;", true)
  | 1 => ("BlownByAll$PhasePlan", "mass", "LBlownByAll$Mass;", true)
  | 2 => ("BlownByAll$PhasePlan", "sitters", "[I", true)
  | 3 => ("BlownByAll$PhasePlan", "tried", "[I", true)
  | 4 => ("BlownByAll$PhasePlan", "best", "[I", true)
  | 5 => ("BlownByAll$PhasePlan", "toCome", "[I", true)
  | 6 => ("BlownByAll$PhasePlan", "pipe", "I", false)
  | 7 => ("BlownByAll$PhasePlan", "sitting", "I", false)
  | _ => ("BlownByAll$PhasePlan", "least", "I", false)
def t_PH : Nat → FieldType := fun k => match k with
  | 0 => .object "BlownByAll$People"
  | 1 => .object "BlownByAll$Mass"
  | 2 => .array .int
  | 3 => .array .int
  | 4 => .array .int
  | 5 => .array .int
  | 6 => .int
  | 7 => .int
  | _ => .int
theorem n_PH : ∀ a, a < 9 → ∀ b, b < 9 → a ≠ b → (F_PH a).2.1 ≠ (F_PH b).2.1 := by decide +kernel
theorem t_PH_ok : ∀ k, k < 9 → parseFieldDescriptor (F_PH k).2.2.1 = some (t_PH k) := by decide +kernel
theorem i_PH : ∀ w ∈ u_ws R_PH F_PH 9, w ∈ lw_tbl := by decide +kernel
def R_PI : String := "BlownByAll$Pipes"
def F_PI : u_T := fun k => match k with
  | 0 => ("BlownByAll$Pipes", "count", "I", false)
  | 1 => ("BlownByAll$Pipes", "beats", "I", false)
  | 2 => ("BlownByAll$Pipes", "thirst", "[I", true)
  | _ => ("BlownByAll$Pipes", "sounding", "[I", true)
def t_PI : Nat → FieldType := fun k => match k with
  | 0 => .int
  | 1 => .int
  | 2 => .array .int
  | _ => .array .int
theorem n_PI : ∀ a, a < 4 → ∀ b, b < 4 → a ≠ b → (F_PI a).2.1 ≠ (F_PI b).2.1 := by decide +kernel
theorem t_PI_ok : ∀ k, k < 4 → parseFieldDescriptor (F_PI k).2.2.1 = some (t_PI k) := by decide +kernel
theorem i_PI : ∀ w ∈ u_ws R_PI F_PI 4, w ∈ lw_tbl := by decide +kernel
def R_SC : String := "BlownByAll$Script"
def F_SC : u_T := fun k => match k with
  | 0 => ("BlownByAll$Script", "signs", "[B", true)
  | 1 => ("BlownByAll$Script", "length", "I", false)
  | 2 => ("BlownByAll$Script", "at", "I", false)
  | 3 => ("BlownByAll$Script", "pipesRead", "I", false)
  | 4 => ("BlownByAll$Script", "peopleRead", "I", false)
  | _ => ("BlownByAll$Script", "beatsRead", "I", false)
def t_SC : Nat → FieldType := fun k => match k with
  | 0 => .array .byte
  | 1 => .int
  | 2 => .int
  | 3 => .int
  | 4 => .int
  | _ => .int
theorem n_SC : ∀ a, a < 6 → ∀ b, b < 6 → a ≠ b → (F_SC a).2.1 ≠ (F_SC b).2.1 := by decide +kernel
theorem t_SC_ok : ∀ k, k < 6 → parseFieldDescriptor (F_SC k).2.2.1 = some (t_SC k) := by decide +kernel
theorem i_SC : ∀ w ∈ u_ws R_SC F_SC 6, w ∈ lw_tbl := by decide +kernel
def R_SE : String := "BlownByAll$SeatPlan"
def F_SE : u_T := fun k => match k with
  | 0 => ("BlownByAll$SeatPlan", "pipes", "LBlownByAll$Pipes;", true)
  | 1 => ("BlownByAll$SeatPlan", "people", "LBlownByAll$People;", true)
  | 2 => ("BlownByAll$SeatPlan", "mass", "LBlownByAll$Mass;", true)
  | 3 => ("BlownByAll$SeatPlan", "price", "[I", true)
  | _ => ("BlownByAll$SeatPlan", "best", "[I", true)
def t_SE : Nat → FieldType := fun k => match k with
  | 0 => .object "BlownByAll$Pipes"
  | 1 => .object "BlownByAll$People"
  | 2 => .object "BlownByAll$Mass"
  | 3 => .array .int
  | _ => .array .int
theorem n_SE : ∀ a, a < 5 → ∀ b, b < 5 → a ≠ b → (F_SE a).2.1 ≠ (F_SE b).2.1 := by decide +kernel
theorem t_SE_ok : ∀ k, k < 5 → parseFieldDescriptor (F_SE k).2.2.1 = some (t_SE k) := by decide +kernel
theorem i_SE : ∀ w ∈ u_ws R_SE F_SE 5, w ∈ lw_tbl := by decide +kernel
def R_SN : String := "BlownByAll$Sneezes"
def F_SN : u_T := fun k => match k with
  | 0 => ("BlownByAll$Sneezes", "pipes", "LBlownByAll$Pipes;", true)
  | 1 => ("BlownByAll$Sneezes", "people", "LBlownByAll$People;", true)
  | 2 => ("BlownByAll$Sneezes", "cases", "[J", true)
  | 3 => ("BlownByAll$Sneezes", "all", "J", false)
  | 4 => ("BlownByAll$Sneezes", "above", "J", false)
  | _ => ("BlownByAll$Sneezes", "below", "J", false)
def t_SN : Nat → FieldType := fun k => match k with
  | 0 => .object "BlownByAll$Pipes"
  | 1 => .object "BlownByAll$People"
  | 2 => .array .long
  | 3 => .long
  | 4 => .long
  | _ => .long
theorem n_SN : ∀ a, a < 6 → ∀ b, b < 6 → a ≠ b → (F_SN a).2.1 ≠ (F_SN b).2.1 := by decide +kernel
theorem t_SN_ok : ∀ k, k < 6 → parseFieldDescriptor (F_SN k).2.2.1 = some (t_SN k) := by decide +kernel
theorem i_SN : ∀ w ∈ u_ws R_SN F_SN 6, w ∈ lw_tbl := by decide +kernel
def R_BB : String := "BlownByAll"
def F_BB : u_T := fun k => match k with
  | 0 => ("BlownByAll", "script", "LBlownByAll$Script;", true)
  | 1 => ("BlownByAll", "pipes", "LBlownByAll$Pipes;", true)
  | 2 => ("BlownByAll", "people", "LBlownByAll$People;", true)
  | 3 => ("BlownByAll", "mass", "LBlownByAll$Mass;", true)
  | 4 => ("BlownByAll", "phasePlan", "LBlownByAll$PhasePlan;", true)
  | 5 => ("BlownByAll", "seatPlan", "LBlownByAll$SeatPlan;", true)
  | 6 => ("BlownByAll", "bribePlan", "LBlownByAll$BribePlan;", true)
  | 7 => ("BlownByAll", "sneezes", "LBlownByAll$Sneezes;", true)
  | 8 => ("BlownByAll", "slots", "[LBlownByAll$People;", true)
  | _ => ("BlownByAll", "kept", "[Z", true)
def t_BB : Nat → FieldType := fun k => match k with
  | 0 => .object "BlownByAll$Script"
  | 1 => .object "BlownByAll$Pipes"
  | 2 => .object "BlownByAll$People"
  | 3 => .object "BlownByAll$Mass"
  | 4 => .object "BlownByAll$PhasePlan"
  | 5 => .object "BlownByAll$SeatPlan"
  | 6 => .object "BlownByAll$BribePlan"
  | 7 => .object "BlownByAll$Sneezes"
  | 8 => .array (.object "BlownByAll$People")
  | _ => .array .boolean
theorem n_BB : ∀ a, a < 10 → ∀ b, b < 10 → a ≠ b → (F_BB a).2.1 ≠ (F_BB b).2.1 := by decide +kernel
theorem t_BB_ok : ∀ k, k < 10 → parseFieldDescriptor (F_BB k).2.2.1 = some (t_BB k) := by decide +kernel
theorem i_BB : ∀ w ∈ u_ws R_BB F_BB 10, w ∈ lw_tbl := by decide +kernel
def R_MO : String := "BlownByAllModel"
def F_MO : u_T := fun k => match k with
  | 0 => ("BlownByAllModel", "readDrinks", "[I", true)
  | 1 => ("BlownByAllModel", "readPeople", "[I", true)
  | 2 => ("BlownByAllModel", "readBeats", "[I", true)
  | 3 => ("BlownByAllModel", "readPipes", "I", false)
  | 4 => ("BlownByAllModel", "readMany", "I", false)
  | 5 => ("BlownByAllModel", "readLong", "I", false)
  | 6 => ("BlownByAllModel", "drinks", "[I", true)
  | 7 => ("BlownByAllModel", "people", "[I", true)
  | 8 => ("BlownByAllModel", "beats", "[I", true)
  | 9 => ("BlownByAllModel", "pipes", "I", false)
  | 10 => ("BlownByAllModel", "many", "I", false)
  | 11 => ("BlownByAllModel", "beatMany", "I", false)
  | 12 => ("BlownByAllModel", "late", "I", false)
  | 13 => ("BlownByAllModel", "most", "I", false)
  | 14 => ("BlownByAllModel", "text", "[I", true)
  | 15 => ("BlownByAllModel", "length", "I", false)
  | 16 => ("BlownByAllModel", "at", "I", false)
  | 17 => ("BlownByAllModel", "faultAt", "I", false)
  | 18 => ("BlownByAllModel", "lacks", "[I", true)
  | 19 => ("BlownByAllModel", "stores", "[I", true)
  | 20 => ("BlownByAllModel", "wasPhase", "[I", true)
  | 21 => ("BlownByAllModel", "bestPhase", "[I", true)
  | 22 => ("BlownByAllModel", "lacking", "[I", true)
  | 23 => ("BlownByAllModel", "bestSeat", "[I", true)
  | 24 => ("BlownByAllModel", "sets", "[I", true)
  | 25 => ("BlownByAllModel", "wasBribed", "[I", true)
  | 26 => ("BlownByAllModel", "ways", "[J", true)
  | 27 => ("BlownByAllModel", "whole", "J", false)
  | 28 => ("BlownByAllModel", "isKept", "[Z", true)
  | 29 => ("BlownByAllModel", "keptPeople", "[I", true)
  | _ => ("BlownByAllModel", "keptRest", "[I", true)
def t_MO : Nat → FieldType := fun k => match k with
  | 0 => .array .int
  | 1 => .array .int
  | 2 => .array .int
  | 3 => .int
  | 4 => .int
  | 5 => .int
  | 6 => .array .int
  | 7 => .array .int
  | 8 => .array .int
  | 9 => .int
  | 10 => .int
  | 11 => .int
  | 12 => .int
  | 13 => .int
  | 14 => .array .int
  | 15 => .int
  | 16 => .int
  | 17 => .int
  | 18 => .array .int
  | 19 => .array .int
  | 20 => .array .int
  | 21 => .array .int
  | 22 => .array .int
  | 23 => .array .int
  | 24 => .array .int
  | 25 => .array .int
  | 26 => .array .long
  | 27 => .long
  | 28 => .array .boolean
  | 29 => .array .int
  | _ => .array .int
theorem n_MO : ∀ a, a < 31 → ∀ b, b < 31 → a ≠ b → (F_MO a).2.1 ≠ (F_MO b).2.1 := by decide +kernel
theorem t_MO_ok : ∀ k, k < 31 → parseFieldDescriptor (F_MO k).2.2.1 = some (t_MO k) := by decide +kernel
theorem i_MO : ∀ w ∈ u_ws R_MO F_MO 31, w ∈ lw_tbl := by decide +kernel
abbrev classes : List vw_C := [(R_BP, F_BP, 6), (R_MA, F_MA, 5), (R_PE, F_PE, 8), (R_PH, F_PH, 9), (R_PI, F_PI, 4), (R_SC, F_SC, 6), (R_SE, F_SE, 5), (R_SN, F_SN, 6), (R_BB, F_BB, 10), (R_MO, F_MO, 31)]
abbrev MD : Type := MethodName × ByteArray × Nat × Option FieldType
abbrev M_BP_init : MD := (⟨"BlownByAll$BribePlan", "<init>", "(LBlownByAll$Pipes;LBlownByAll$People;LBlownByAll$Mass;)V"⟩, prog_2_method_1_code, 4, none)
abbrev M_BP_find : MD := (⟨"BlownByAll$BribePlan", "find", "(I)I"⟩, prog_2_method_2_code, 2, some .int)
abbrev M_BP_decideFrom : MD := (⟨"BlownByAll$BribePlan", "decideFrom", "(LBlownByAll$BribePlan;II)V"⟩, prog_2_method_3_code, 7, none)
abbrev M_BP_nextToDecide : MD := (⟨"BlownByAll$BribePlan", "nextToDecide", "(I)I"⟩, prog_2_method_4_code, 3, some .int)
abbrev M_MA_init : MD := (⟨"BlownByAll$Mass", "<init>", "(LBlownByAll$Pipes;LBlownByAll$People;)V"⟩, prog_3_method_1_code, 3, none)
abbrev M_MA_gather : MD := (⟨"BlownByAll$Mass", "gather", "(II)V"⟩, prog_3_method_2_code, 5, none)
abbrev M_MA_fill : MD := (⟨"BlownByAll$Mass", "fill", "(I)V"⟩, prog_3_method_3_code, 3, none)
abbrev M_MA_addAtBreaths : MD := (⟨"BlownByAll$Mass", "addAtBreaths", "(III)V"⟩, prog_3_method_4_code, 7, none)
abbrev M_MA_blow : MD := (⟨"BlownByAll$Mass", "blow", "(I)I"⟩, prog_3_method_5_code, 6, some .int)
abbrev M_MA_play : MD := (⟨"BlownByAll$Mass", "play", "(II)I"⟩, prog_3_method_6_code, 3, some .int)
abbrev M_MA_playAll : MD := (⟨"BlownByAll$Mass", "playAll", "(I)I"⟩, prog_3_method_7_code, 4, some .int)
abbrev M_MA_firstMissing : MD := (⟨"BlownByAll$Mass", "firstMissing", "()I"⟩, prog_3_method_8_code, 2, some .int)
abbrev M_PE_init : MD := (⟨"BlownByAll$People", "<init>", "()V"⟩, prog_4_method_1_code, 1, none)
abbrev M_PE_takeFrom : MD := (⟨"BlownByAll$People", "takeFrom", "(LBlownByAll$Script;)V"⟩, prog_4_method_2_code, 3, none)
abbrev M_PE_copyFrom : MD := (⟨"BlownByAll$People", "copyFrom", "(LBlownByAll$People;)V"⟩, prog_4_method_3_code, 3, none)
abbrev M_PE_has : MD := (⟨"BlownByAll$People", "has", "(I)Z"⟩, prog_4_method_4_code, 2, some .boolean)
abbrev M_PE_givenAt : MD := (⟨"BlownByAll$People", "givenAt", "(II)I"⟩, prog_4_method_5_code, 4, some .int)
abbrev M_PE_sittingAt : MD := (⟨"BlownByAll$People", "sittingAt", "(I)I"⟩, prog_4_method_6_code, 4, some .int)
abbrev M_PE_forceOf : MD := (⟨"BlownByAll$People", "forceOf", "(I)I"⟩, prog_4_method_7_code, 4, some .int)
abbrev M_PE_bribedOnes : MD := (⟨"BlownByAll$People", "bribedOnes", "()I"⟩, prog_4_method_8_code, 3, some .int)
abbrev M_PH_init : MD := (⟨"BlownByAll$PhasePlan", "<init>", "(LBlownByAll$People;LBlownByAll$Mass;)V"⟩, prog_5_method_1_code, 3, none)
abbrev M_PH_find : MD := (⟨"BlownByAll$PhasePlan", "find", "(I)Z"⟩, prog_5_method_2_code, 3, some .boolean)
abbrev M_PH_list : MD := (⟨"BlownByAll$PhasePlan", "list", "(I)V"⟩, prog_5_method_3_code, 3, none)
abbrev M_PH_foresee : MD := (⟨"BlownByAll$PhasePlan", "foresee", "()V"⟩, prog_5_method_4_code, 3, none)
abbrev M_PH_leastAlone : MD := (⟨"BlownByAll$PhasePlan", "leastAlone", "(I)I"⟩, prog_5_method_5_code, 4, some .int)
abbrev M_PH_lastPhase : MD := (⟨"BlownByAll$PhasePlan", "lastPhase", "(I)I"⟩, prog_5_method_6_code, 2, some .int)
abbrev M_PH_breath : MD := (⟨"BlownByAll$PhasePlan", "breath", "(I)I"⟩, prog_5_method_7_code, 2, some .int)
abbrev M_PH_tryFrom : MD := (⟨"BlownByAll$PhasePlan", "tryFrom", "(LBlownByAll$PhasePlan;I)V"⟩, prog_5_method_8_code, 5, none)
abbrev M_PH_settle : MD := (⟨"BlownByAll$PhasePlan", "settle", "(I)V"⟩, prog_5_method_9_code, 3, none)
abbrev M_PH_phaseOf : MD := (⟨"BlownByAll$PhasePlan", "phaseOf", "(I)I"⟩, prog_5_method_10_code, 2, some .int)
abbrev M_PI_init : MD := (⟨"BlownByAll$Pipes", "<init>", "()V"⟩, prog_6_method_1_code, 1, none)
abbrev M_PI_takeFrom : MD := (⟨"BlownByAll$Pipes", "takeFrom", "(LBlownByAll$Script;)V"⟩, prog_6_method_2_code, 3, none)
abbrev M_PI_has : MD := (⟨"BlownByAll$Pipes", "has", "(I)Z"⟩, prog_6_method_3_code, 2, some .boolean)
abbrev M_PI_hasBeat : MD := (⟨"BlownByAll$Pipes", "hasBeat", "(I)Z"⟩, prog_6_method_4_code, 2, some .boolean)
abbrev M_PI_hasBoth : MD := (⟨"BlownByAll$Pipes", "hasBoth", "(II)Z"⟩, prog_6_method_5_code, 3, some .boolean)
abbrev M_PI_isSounding : MD := (⟨"BlownByAll$Pipes", "isSounding", "(II)Z"⟩, prog_6_method_6_code, 3, some .boolean)
abbrev M_SC_init : MD := (⟨"BlownByAll$Script", "<init>", "()V"⟩, prog_7_method_1_code, 1, none)
abbrev M_SC_hasRoom : MD := (⟨"BlownByAll$Script", "hasRoom", "(I)Z"⟩, prog_7_method_2_code, 2, some .boolean)
abbrev M_SC_append : MD := (⟨"BlownByAll$Script", "append", "(IJ)I"⟩, prog_7_method_3_code, 5, some .int)
abbrev M_SC_clear : MD := (⟨"BlownByAll$Script", "clear", "()I"⟩, prog_7_method_4_code, 2, some .int)
abbrev M_SC_read : MD := (⟨"BlownByAll$Script", "read", "()I"⟩, prog_7_method_5_code, 2, some .int)
abbrev M_SC_signAt : MD := (⟨"BlownByAll$Script", "signAt", "(I)I"⟩, prog_7_method_6_code, 2, some .int)
abbrev M_SC_figureAt : MD := (⟨"BlownByAll$Script", "figureAt", "(I)I"⟩, prog_7_method_7_code, 2, some .int)
abbrev M_SC_takeSign : MD := (⟨"BlownByAll$Script", "takeSign", "(C)Z"⟩, prog_7_method_8_code, 2, some .boolean)
abbrev M_SC_takeFigure : MD := (⟨"BlownByAll$Script", "takeFigure", "(II)Z"⟩, prog_7_method_9_code, 4, some .boolean)
abbrev M_SC_takePipes : MD := (⟨"BlownByAll$Script", "takePipes", "()Z"⟩, prog_7_method_10_code, 2, some .boolean)
abbrev M_SC_takePeople : MD := (⟨"BlownByAll$Script", "takePeople", "()Z"⟩, prog_7_method_11_code, 2, some .boolean)
abbrev M_SC_takeHymn : MD := (⟨"BlownByAll$Script", "takeHymn", "()Z"⟩, prog_7_method_12_code, 4, some .boolean)
abbrev M_SC_thirstRead : MD := (⟨"BlownByAll$Script", "thirstRead", "(I)I"⟩, prog_7_method_13_code, 2, some .int)
abbrev M_SC_personRead : MD := (⟨"BlownByAll$Script", "personRead", "(II)I"⟩, prog_7_method_14_code, 3, some .int)
abbrev M_SC_beatRead : MD := (⟨"BlownByAll$Script", "beatRead", "(I)I"⟩, prog_7_method_15_code, 3, some .int)
abbrev M_SE_init : MD := (⟨"BlownByAll$SeatPlan", "<init>", "(LBlownByAll$Pipes;LBlownByAll$People;LBlownByAll$Mass;)V"⟩, prog_8_method_1_code, 4, none)
abbrev M_SE_find : MD := (⟨"BlownByAll$SeatPlan", "find", "()Z"⟩, prog_8_method_2_code, 4, some .boolean)
abbrev M_SE_setPrices : MD := (⟨"BlownByAll$SeatPlan", "setPrices", "(I)V"⟩, prog_8_method_3_code, 4, none)
abbrev M_SE_seatsOf : MD := (⟨"BlownByAll$SeatPlan", "seatsOf", "(I)I"⟩, prog_8_method_4_code, 3, some .int)
abbrev M_SE_bestWith : MD := (⟨"BlownByAll$SeatPlan", "bestWith", "(II)I"⟩, prog_8_method_5_code, 5, some .int)
abbrev M_SE_plan : MD := (⟨"BlownByAll$SeatPlan", "plan", "()I"⟩, prog_8_method_6_code, 1, some .int)
abbrev M_SE_least : MD := (⟨"BlownByAll$SeatPlan", "least", "()I"⟩, prog_8_method_7_code, 1, some .int)
abbrev M_SE_placeOf : MD := (⟨"BlownByAll$SeatPlan", "placeOf", "(I)I"⟩, prog_8_method_8_code, 2, some .int)
abbrev M_SN_init : MD := (⟨"BlownByAll$Sneezes", "<init>", "(LBlownByAll$Pipes;LBlownByAll$People;)V"⟩, prog_9_method_1_code, 3, none)
abbrev M_SN_weighEnough : MD := (⟨"BlownByAll$Sneezes", "weighEnough", "(III)V"⟩, prog_9_method_2_code, 4, none)
abbrev M_SN_weighGuilt : MD := (⟨"BlownByAll$Sneezes", "weighGuilt", "(III)Z"⟩, prog_9_method_3_code, 11, some .boolean)
abbrev M_SN_spread : MD := (⟨"BlownByAll$Sneezes", "spread", "(III)V"⟩, prog_9_method_4_code, 6, none)
abbrev M_SN_admit : MD := (⟨"BlownByAll$Sneezes", "admit", "(II)V"⟩, prog_9_method_5_code, 6, none)
abbrev M_SN_casesUnder : MD := (⟨"BlownByAll$Sneezes", "casesUnder", "(I)J"⟩, prog_9_method_6_code, 5, some .long)
abbrev M_SN_reduce : MD := (⟨"BlownByAll$Sneezes", "reduce", "(JJ)V"⟩, prog_9_method_7_code, 12, none)
abbrev M_BB_init : MD := (⟨"BlownByAll", "<init>", "()V"⟩, prog_1_method_1_code, 2, none)
abbrev M_BB_write : MD := (⟨"BlownByAll", "write", "(IJ)I"⟩, prog_1_method_2_code, 4, some .int)
abbrev M_BB_wipe : MD := (⟨"BlownByAll", "wipe", "()I"⟩, prog_1_method_3_code, 1, some .int)
abbrev M_BB_fault : MD := (⟨"BlownByAll", "fault", "()I"⟩, prog_1_method_4_code, 1, some .int)
abbrev M_BB_organ : MD := (⟨"BlownByAll", "organ", "()I"⟩, prog_1_method_5_code, 2, some .int)
abbrev M_BB_drinks : MD := (⟨"BlownByAll", "drinks", "(I)I"⟩, prog_1_method_6_code, 2, some .int)
abbrev M_BB_sounds : MD := (⟨"BlownByAll", "sounds", "(II)I"⟩, prog_1_method_7_code, 3, some .int)
abbrev M_BB_person : MD := (⟨"BlownByAll", "person", "(II)I"⟩, prog_1_method_8_code, 3, some .int)
abbrev M_BB_seat : MD := (⟨"BlownByAll", "seat", "(II)I"⟩, prog_1_method_9_code, 4, some .int)
abbrev M_BB_phase : MD := (⟨"BlownByAll", "phase", "(II)I"⟩, prog_1_method_10_code, 4, some .int)
abbrev M_BB_bribe : MD := (⟨"BlownByAll", "bribe", "(IZ)I"⟩, prog_1_method_11_code, 4, some .int)
abbrev M_BB_grow : MD := (⟨"BlownByAll", "grow", "(I)I"⟩, prog_1_method_12_code, 2, some .int)
abbrev M_BB_store : MD := (⟨"BlownByAll", "store", "(I)I"⟩, prog_1_method_13_code, 3, some .int)
abbrev M_BB_late : MD := (⟨"BlownByAll", "late", "(I)I"⟩, prog_1_method_14_code, 3, some .int)
abbrev M_BB_gives : MD := (⟨"BlownByAll", "gives", "(II)I"⟩, prog_1_method_15_code, 3, some .int)
abbrev M_BB_air : MD := (⟨"BlownByAll", "air", "(II)I"⟩, prog_1_method_16_code, 3, some .int)
abbrev M_BB_stored : MD := (⟨"BlownByAll", "stored", "(II)I"⟩, prog_1_method_17_code, 3, some .int)
abbrev M_BB_sags : MD := (⟨"BlownByAll", "sags", "(II)I"⟩, prog_1_method_18_code, 3, some .int)
abbrev M_BB_total : MD := (⟨"BlownByAll", "total", "()I"⟩, prog_1_method_19_code, 1, some .int)
abbrev M_BB_first : MD := (⟨"BlownByAll", "first", "()I"⟩, prog_1_method_20_code, 4, some .int)
abbrev M_BB_worst : MD := (⟨"BlownByAll", "worst", "()I"⟩, prog_1_method_21_code, 5, some .int)
abbrev M_BB_bestLate : MD := (⟨"BlownByAll", "bestLate", "()I"⟩, prog_1_method_22_code, 5, some .int)
abbrev M_BB_phases : MD := (⟨"BlownByAll", "phases", "(I)I"⟩, prog_1_method_23_code, 2, some .int)
abbrev M_BB_phaseAt : MD := (⟨"BlownByAll", "phaseAt", "(II)I"⟩, prog_1_method_24_code, 3, some .int)
abbrev M_BB_seats : MD := (⟨"BlownByAll", "seats", "()I"⟩, prog_1_method_25_code, 1, some .int)
abbrev M_BB_seatAt : MD := (⟨"BlownByAll", "seatAt", "(I)I"⟩, prog_1_method_26_code, 2, some .int)
abbrev M_BB_bribes : MD := (⟨"BlownByAll", "bribes", "()I"⟩, prog_1_method_27_code, 4, some .int)
abbrev M_BB_needed : MD := (⟨"BlownByAll", "needed", "(I)I"⟩, prog_1_method_28_code, 4, some .int)
abbrev M_BB_never : MD := (⟨"BlownByAll", "never", "()I"⟩, prog_1_method_29_code, 4, some .int)
abbrev M_BB_steady : MD := (⟨"BlownByAll", "steady", "(IIIZ)J"⟩, prog_1_method_30_code, 5, some .long)
abbrev M_BB_blame : MD := (⟨"BlownByAll", "blame", "(IIIZ)J"⟩, prog_1_method_31_code, 5, some .long)
abbrev M_BB_keep : MD := (⟨"BlownByAll", "keep", "(I)I"⟩, prog_1_method_32_code, 2, some .int)
abbrev M_BB_again : MD := (⟨"BlownByAll", "again", "(I)I"⟩, prog_1_method_33_code, 2, some .int)
abbrev M_BB_count : MD := (⟨"BlownByAll", "count", "(I)I"⟩, prog_1_method_34_code, 2, some .int)
abbrev M_MO_init : MD := (⟨"BlownByAllModel", "<init>", "()V"⟩, prog_11_method_1_code, 1, none)
abbrev M_MO_in : MD := (⟨"BlownByAllModel", "in", "(JJJ)Z"⟩, prog_11_method_3_code, 6, some .boolean)
abbrev M_MO_write : MD := (⟨"BlownByAllModel", "write", "(IJ)I"⟩, prog_11_method_4_code, 5, some .int)
abbrev M_MO_wipe : MD := (⟨"BlownByAllModel", "wipe", "()I"⟩, prog_11_method_5_code, 2, some .int)
abbrev M_MO_here : MD := (⟨"BlownByAllModel", "here", "()I"⟩, prog_11_method_6_code, 1, some .int)
abbrev M_MO_fail : MD := (⟨"BlownByAllModel", "fail", "()V"⟩, prog_11_method_7_code, 1, none)
abbrev M_MO_figure : MD := (⟨"BlownByAllModel", "figure", "(II)I"⟩, prog_11_method_8_code, 4, some .int)
abbrev M_MO_bits : MD := (⟨"BlownByAllModel", "bits", "(I)I"⟩, prog_11_method_9_code, 3, some .int)
abbrev M_MO_readText : MD := (⟨"BlownByAllModel", "readText", "()I"⟩, prog_11_method_10_code, 3, some .int)
abbrev M_MO_fault : MD := (⟨"BlownByAllModel", "fault", "()I"⟩, prog_11_method_11_code, 1, some .int)
abbrev M_MO_organ : MD := (⟨"BlownByAllModel", "organ", "()I"⟩, prog_11_method_12_code, 2, some .int)
abbrev M_MO_isPipe : MD := (⟨"BlownByAllModel", "isPipe", "(I)Z"⟩, prog_11_method_13_code, 2, some .boolean)
abbrev M_MO_isPerson : MD := (⟨"BlownByAllModel", "isPerson", "(I)Z"⟩, prog_11_method_14_code, 2, some .boolean)
abbrev M_MO_isBeat : MD := (⟨"BlownByAllModel", "isBeat", "(I)Z"⟩, prog_11_method_15_code, 2, some .boolean)
abbrev M_MO_drinks : MD := (⟨"BlownByAllModel", "drinks", "(I)I"⟩, prog_11_method_16_code, 2, some .int)
abbrev M_MO_sounds : MD := (⟨"BlownByAllModel", "sounds", "(II)I"⟩, prog_11_method_17_code, 3, some .int)
abbrev M_MO_person : MD := (⟨"BlownByAllModel", "person", "(II)I"⟩, prog_11_method_18_code, 3, some .int)
abbrev M_MO_tell : MD := (⟨"BlownByAllModel", "tell", "(II)I"⟩, prog_11_method_19_code, 4, some .int)
abbrev M_MO_seat : MD := (⟨"BlownByAllModel", "seat", "(II)I"⟩, prog_11_method_20_code, 3, some .int)
abbrev M_MO_phase : MD := (⟨"BlownByAllModel", "phase", "(II)I"⟩, prog_11_method_21_code, 3, some .int)
abbrev M_MO_bribe : MD := (⟨"BlownByAllModel", "bribe", "(IZ)I"⟩, prog_11_method_22_code, 3, some .int)
abbrev M_MO_grow : MD := (⟨"BlownByAllModel", "grow", "(I)I"⟩, prog_11_method_23_code, 2, some .int)
abbrev M_MO_store : MD := (⟨"BlownByAllModel", "store", "(I)I"⟩, prog_11_method_24_code, 3, some .int)
abbrev M_MO_late : MD := (⟨"BlownByAllModel", "late", "(I)I"⟩, prog_11_method_25_code, 3, some .int)
abbrev M_MO_givesOf : MD := (⟨"BlownByAllModel", "givesOf", "(II)I"⟩, prog_11_method_26_code, 6, some .int)
abbrev M_MO_gives : MD := (⟨"BlownByAllModel", "gives", "(II)I"⟩, prog_11_method_27_code, 3, some .int)
abbrev M_MO_airOf : MD := (⟨"BlownByAllModel", "airOf", "(II)I"⟩, prog_11_method_28_code, 5, some .int)
abbrev M_MO_sitters : MD := (⟨"BlownByAllModel", "sitters", "(I)I"⟩, prog_11_method_29_code, 4, some .int)
abbrev M_MO_blow : MD := (⟨"BlownByAllModel", "blow", "(II)I"⟩, prog_11_method_30_code, 9, some .int)
abbrev M_MO_air : MD := (⟨"BlownByAllModel", "air", "(II)I"⟩, prog_11_method_31_code, 3, some .int)
abbrev M_MO_stored : MD := (⟨"BlownByAllModel", "stored", "(II)I"⟩, prog_11_method_32_code, 3, some .int)
abbrev M_MO_sags : MD := (⟨"BlownByAllModel", "sags", "(II)I"⟩, prog_11_method_33_code, 3, some .int)
abbrev M_MO_totalOf : MD := (⟨"BlownByAllModel", "totalOf", "()I"⟩, prog_11_method_34_code, 3, some .int)
abbrev M_MO_total : MD := (⟨"BlownByAllModel", "total", "()I"⟩, prog_11_method_35_code, 1, some .int)
abbrev M_MO_first : MD := (⟨"BlownByAllModel", "first", "()I"⟩, prog_11_method_36_code, 4, some .int)
abbrev M_MO_worst : MD := (⟨"BlownByAllModel", "worst", "()I"⟩, prog_11_method_37_code, 5, some .int)
abbrev M_MO_bestLate : MD := (⟨"BlownByAllModel", "bestLate", "()I"⟩, prog_11_method_38_code, 6, some .int)
abbrev M_MO_ones : MD := (⟨"BlownByAllModel", "ones", "(I)I"⟩, prog_11_method_39_code, 3, some .int)
abbrev M_MO_member : MD := (⟨"BlownByAllModel", "member", "(II)I"⟩, prog_11_method_40_code, 4, some .int)
abbrev M_MO_layPhases : MD := (⟨"BlownByAllModel", "layPhases", "(I)I"⟩, prog_11_method_41_code, 10, some .int)
abbrev M_MO_phases : MD := (⟨"BlownByAllModel", "phases", "(I)I"⟩, prog_11_method_42_code, 2, some .int)
abbrev M_MO_phaseAt : MD := (⟨"BlownByAllModel", "phaseAt", "(II)I"⟩, prog_11_method_43_code, 4, some .int)
abbrev M_MO_laySeats : MD := (⟨"BlownByAllModel", "laySeats", "()I"⟩, prog_11_method_44_code, 8, some .int)
abbrev M_MO_seats : MD := (⟨"BlownByAllModel", "seats", "()I"⟩, prog_11_method_45_code, 1, some .int)
abbrev M_MO_seatAt : MD := (⟨"BlownByAllModel", "seatAt", "(I)I"⟩, prog_11_method_46_code, 2, some .int)
abbrev M_MO_isSteady : MD := (⟨"BlownByAllModel", "isSteady", "(I)Z"⟩, prog_11_method_47_code, 3, some .boolean)
abbrev M_MO_bribes : MD := (⟨"BlownByAllModel", "bribes", "()I"⟩, prog_11_method_48_code, 5, some .int)
abbrev M_MO_needed : MD := (⟨"BlownByAllModel", "needed", "(I)I"⟩, prog_11_method_49_code, 4, some .int)
abbrev M_MO_never : MD := (⟨"BlownByAllModel", "never", "()I"⟩, prog_11_method_50_code, 5, some .int)
abbrev M_MO_layWays : MD := (⟨"BlownByAllModel", "layWays", "(III)V"⟩, prog_11_method_51_code, 7, none)
abbrev M_MO_less : MD := (⟨"BlownByAllModel", "less", "(I)J"⟩, prog_11_method_52_code, 5, some .long)
abbrev M_MO_part : MD := (⟨"BlownByAllModel", "part", "(JJZ)J"⟩, prog_11_method_53_code, 11, some .long)
abbrev M_MO_steady : MD := (⟨"BlownByAllModel", "steady", "(IIIZ)J"⟩, prog_11_method_54_code, 5, some .long)
abbrev M_MO_blame : MD := (⟨"BlownByAllModel", "blame", "(IIIZ)J"⟩, prog_11_method_55_code, 8, some .long)
abbrev M_MO_keep : MD := (⟨"BlownByAllModel", "keep", "(I)I"⟩, prog_11_method_56_code, 3, some .int)
abbrev M_MO_again : MD := (⟨"BlownByAllModel", "again", "(I)I"⟩, prog_11_method_57_code, 3, some .int)
abbrev M_MO_count : MD := (⟨"BlownByAllModel", "count", "(I)I"⟩, prog_11_method_58_code, 4, some .int)
abbrev M_IG_bitCount : MD := (⟨"java/lang/Integer", "bitCount", "(I)I"⟩, prog_12_method_49_code, 1, some .int)
abbrev M_MT_floorMod : MD := (⟨"java/lang/Math", "floorMod", "(II)I"⟩, prog_13_method_50_code, 3, some .int)
abbrev M_MT_max : MD := (⟨"java/lang/Math", "max", "(II)I"⟩, prog_13_method_65_code, 2, some .int)
abbrev M_MT_min : MD := (⟨"java/lang/Math", "min", "(II)I"⟩, prog_13_method_69_code, 2, some .int)
abbrev M_LW_law : MD := (⟨"BlownByAllLaw", "law", "([I)Z"⟩, code, 4, some .boolean)
/-- what a cell is: an array (type, length), or an object (class, its fields: an int, a long, a cell) -/
abbrev Sh : Type := (Nat × Nat) ⊕ (Nat × List (Option (Option Nat)))
def shapes : List Sh := [
  .inr (8, [some (some 1), some (some 3), some (some 6), some (some 24), some (some 28), some (some 33), some (some 36), some (some 37), some (some 39), some (some 40)]),
  .inr (5, [some (some 2), none, none, none, none, none]),
  .inl (1, 104),
  .inr (4, [none, none, some (some 4), some (some 5)]),
  .inl (0, 6),
  .inl (0, 24),
  .inr (2, [none, none, none, some (some 7), some (some 8), some (some 9), some (some 10), some (some 11)]),
  .inl (0, 12),
  .inl (0, 12),
  .inl (0, 12),
  .inl (0, 12),
  .inl (2, 12),
  .inr (2, [none, none, none, some (some 13), some (some 14), some (some 15), some (some 16), some (some 17)]),
  .inl (0, 12),
  .inl (0, 12),
  .inl (0, 12),
  .inl (0, 12),
  .inl (2, 12),
  .inr (2, [none, none, none, some (some 19), some (some 20), some (some 21), some (some 22), some (some 23)]),
  .inl (0, 12),
  .inl (0, 12),
  .inl (0, 12),
  .inl (0, 12),
  .inl (2, 12),
  .inr (1, [some (some 3), some (some 6), some (some 25), some (some 26), some (some 27)]),
  .inl (0, 24),
  .inl (0, 24),
  .inl (0, 24),
  .inr (3, [some (some 6), some (some 24), some (some 29), some (some 30), some (some 31), some (some 32), none, none, none]),
  .inl (0, 4),
  .inl (0, 4),
  .inl (0, 4),
  .inl (0, 5),
  .inr (6, [some (some 3), some (some 6), some (some 24), some (some 34), some (some 35)]),
  .inl (0, 384),
  .inl (0, 64),
  .inr (0, [some (some 3), some (some 6), some (some 24), none, none, none]),
  .inr (7, [some (some 3), some (some 6), some (some 38), some none, some none, some none]),
  .inl (3, 37),
  .inl (4, 2),
  .inl (2, 2),
  .inr (9, [some (some 42), some (some 43), some (some 44), none, none, none, some (some 45), some (some 46), some (some 47), none, none, none, none, none, some (some 48), none, none, none, some (some 49), some (some 50), some (some 51), some (some 52), some (some 53), some (some 54), some (some 55), some (some 56), some (some 57), some none, some (some 58), some (some 59), some (some 60)]),
  .inl (0, 6),
  .inl (0, 60),
  .inl (0, 24),
  .inl (0, 6),
  .inl (0, 60),
  .inl (0, 24),
  .inl (0, 104),
  .inl (0, 24),
  .inl (0, 24),
  .inl (0, 12),
  .inl (0, 12),
  .inl (0, 384),
  .inl (0, 6),
  .inl (0, 6),
  .inl (0, 12),
  .inl (3, 40),
  .inl (2, 2),
  .inl (0, 120),
  .inl (0, 4)]
abbrev c_BB : Nat := 0
abbrev c_SC : Nat := 1
abbrev c_signs : Nat := 2
abbrev c_PI : Nat := 3
abbrev c_thirst : Nat := 4
abbrev c_sounding : Nat := 5
abbrev c_PE : Nat := 6
abbrev c_lungs : Nat := 7
abbrev c_force : Nat := 8
abbrev c_place : Nat := 9
abbrev c_phase : Nat := 10
abbrev c_bribed : Nat := 11
abbrev c_P0 : Nat := 12
abbrev c_lungs0 : Nat := 13
abbrev c_force0 : Nat := 14
abbrev c_place0 : Nat := 15
abbrev c_phase0 : Nat := 16
abbrev c_bribed0 : Nat := 17
abbrev c_P1 : Nat := 18
abbrev c_lungs1 : Nat := 19
abbrev c_force1 : Nat := 20
abbrev c_place1 : Nat := 21
abbrev c_phase1 : Nat := 22
abbrev c_bribed1 : Nat := 23
abbrev c_MA : Nat := 24
abbrev c_wind : Nat := 25
abbrev c_held : Nat := 26
abbrev c_missing : Nat := 27
abbrev c_PH : Nat := 28
abbrev c_sitters : Nat := 29
abbrev c_tried : Nat := 30
abbrev c_phBest : Nat := 31
abbrev c_toCome : Nat := 32
abbrev c_SE : Nat := 33
abbrev c_price : Nat := 34
abbrev c_seBest : Nat := 35
abbrev c_BP : Nat := 36
abbrev c_SN : Nat := 37
abbrev c_cases : Nat := 38
abbrev c_slots : Nat := 39
abbrev c_kept : Nat := 40
abbrev c_MO : Nat := 41
abbrev c_m_readDrinks : Nat := 42
abbrev c_m_readPeople : Nat := 43
abbrev c_m_readBeats : Nat := 44
abbrev c_m_drinks : Nat := 45
abbrev c_m_people : Nat := 46
abbrev c_m_beats : Nat := 47
abbrev c_m_text : Nat := 48
abbrev c_m_lacks : Nat := 49
abbrev c_m_stores : Nat := 50
abbrev c_m_wasPhase : Nat := 51
abbrev c_m_bestPhase : Nat := 52
abbrev c_m_lacking : Nat := 53
abbrev c_m_bestSeat : Nat := 54
abbrev c_m_sets : Nat := 55
abbrev c_m_wasBribed : Nat := 56
abbrev c_m_ways : Nat := 57
abbrev c_m_isKept : Nat := 58
abbrev c_m_keptPeople : Nat := 59
abbrev c_m_keptRest : Nat := 60
end
section
/-! THE WORLD AS FUNCTIONS, AND A JUDGEMENT OVER IT: all cells are made by the two constructors and stay; so the heap is two functions (cell, place ↦ int; cell, place ↦ long), and the machine's steps are told over them -/
abbrev HI : Type := Nat → Nat → Int32
/-- the tables' words that every callee inherits, and the nest's links, which go by the state -/
def gtbl : List Cond := lw_tbl.filter goodWord
def isNestW : Cond → Bool
  | .fieldLinkNest .. => true
  | _ => false
def nests : List Cond := lw_tbl.filter isNestW
theorem gt_in (i : Nat) {w : Cond} (h : lw_tbl[i]? = some w) (hg : goodWord w = true) : w ∈ gtbl := List.mem_filter.mpr ⟨List.mem_of_getElem? h, hg⟩
theorem ne_in (i : Nat) {w : Cond} (h : lw_tbl[i]? = some w) (hg : isNestW w = true) : w ∈ nests := List.mem_filter.mpr ⟨List.mem_of_getElem? h, hg⟩
theorem gt_sub {ws : List Cond} (h : ∀ w ∈ ws, w ∈ lw_tbl) (hg : ws.all goodWord = true) : ∀ w ∈ ws, w ∈ gtbl := fun w hw => List.mem_filter.mpr ⟨h w hw, List.all_eq_true.mp hg w hw⟩
abbrev HL : Type := Nat → Nat → Int64
/-- a world's layout: the cells' addresses (100: the static table's, 101: the script's), the classes' numbers, the arrays' classes -/
abbrev Om : Type := (Nat → Nat) × va_G × (Nat → ClassId)
def shp (k : Nat) : Sh := shapes.getD k (.inl (0, 0))
def slotRef (i : Nat) : Option Nat := match i with
  | 0 => some 12
  | 1 => some 18
  | _ => none
def fval (α : Nat → Nat) (fi : Nat → Int32) (fl : Nat → Int64) (t : Option (Option Nat)) (i : Nat) : Value := match t with
  | none => .int (fi i)
  | some none => .long (fl i)
  | some (some r) => .ref (α r)
def fvals (α : Nat → Nat) (fi : Nat → Int32) (fl : Nat → Int64) : Nat → List (Option (Option Nat)) → List Value
  | _, [] => []
  | i, t :: ts => fval α fi fl t i :: fvals α fi fl (i + 1) ts
def ent (Ω : Om) (s : Sh) (fi : Nat → Int32) (fl : Nat → Int64) : va_E := match s with
  | .inl (3, n) => .inl (Ω.2.2 3, n, .inr (.inl fl))
  | .inl (4, n) => .inl (Ω.2.2 4, n, .inr (.inr (.inr (.inr (fun i => (slotRef i).map Ω.1)))))
  | .inl (t, n) => .inl (Ω.2.2 t, n, .inl fi)
  | .inr (ci, fs) => .inr (ci, fvals Ω.1 fi fl 0 fs)
def wcells (Ω : Om) (hi : HI) (hl : HL) : va_W := (List.range 61).map (fun k => (Ω.1 k, ent Ω (shp k) (hi k) (hl k)))
theorem wcells_at (Ω : Om) (hi : HI) (hl : HL) {k : Nat} (hk : k < 61) : (wcells Ω hi hl)[k]? = some (Ω.1 k, ent Ω (shp k) (hi k) (hl k)) := by
  simp [wcells, hk]
theorem wcells_set (Ω : Om) {hi hi' : HI} {hl hl' : HL} {k : Nat} {e : va_E} (hk : k < 61) (he : e = ent Ω (shp k) (hi' k) (hl' k)) (ho : ∀ j, j ≠ k → hi' j = hi j ∧ hl' j = hl j) : (wcells Ω hi hl).set k (Ω.1 k, e) = wcells Ω hi' hl' := by
  apply List.ext_getElem?
  intro j
  by_cases hj : j = k
  · subst hj
    rw [wcells_at Ω hi' hl' hk, List.getElem?_set_self (by simp [wcells]; exact hk), he]
  · rw [List.getElem?_set_ne (fun q => hj q.symm)]
    by_cases h : j < 61
    · rw [wcells_at Ω hi hl h, wcells_at Ω hi' hl' h, (ho j hj).1, (ho j hj).2]
    · rw [List.getElem?_eq_none (by simp [wcells]; omega), List.getElem?_eq_none (by simp [wcells]; omega)]
def inA (Ω : Om) : Nat → Prop := fun q => ∃ k, k < 61 ∧ q = Ω.1 k
def apartO (Ω : Om) : Prop := ∀ i j, i < 61 → j < 61 → Ω.1 i = Ω.1 j → i = j
theorem wD {Ω : Om} (h : apartO Ω) (hi : HI) (hl : HL) : va_D (inA Ω) (wcells Ω hi hl) := by
  have at' : ∀ (i : Nat) (q : Nat × va_E), (wcells Ω hi hl)[i]? = some q → i < 61 ∧ q.1 = Ω.1 i := by
    intro i q hq
    by_cases hk : i < 61
    · rw [wcells_at Ω hi hl hk] at hq
      cases hq
      exact ⟨hk, rfl⟩
    · rw [List.getElem?_eq_none (by simp [wcells]; omega)] at hq
      cases hq
  refine ⟨fun i j p q hp hq e => ?_, fun k q hq => ?_⟩
  · obtain ⟨a1, a2⟩ := at' i p hp
    obtain ⟨b1, b2⟩ := at' j q hq
    exact h i j a1 b1 (by rw [← a2, ← b2]; exact e)
  · obtain ⟨a1, a2⟩ := at' k q hq
    exact ⟨k, a1, a2⟩
abbrev tysO (Ω : Om) : List (ClassId × FieldType) := [(Ω.2.2 0, .int), (Ω.2.2 1, .byte), (Ω.2.2 2, .boolean), (Ω.2.2 3, .long), (Ω.2.2 4, .object "BlownByAll$People")]
def figs (j : Nat) : Value := match j with
  | 0 => .int 7776
  | 1 => .int 1296
  | 2 => .int 216
  | 3 => .int 36
  | 4 => .int 6
  | _ => .int 1
/-- what stands of a state beside the cells -/
def bK (Ω : Om) (U : State) : Prop := va_K Ω.2.1 classes (tysO Ω) U ∧ apartO Ω ∧ va_Z "BlownByAll$SeatPlan" "FIGURE_OF" "[I" (.ref (Ω.1 100)) (inA Ω) U U.heap ∧ va_T .int (Ω.1 100) 6 figs (inA Ω) U U.heap ∧ ∀ w ∈ nests, va_Nw w U
def trv (Ω : Om) (v : Value) : Value := match v with
  | .ref k => .ref (Ω.1 k)
  | v => v
abbrev trs (Ω : Om) (st : List Value) : List Value := st.map (trv Ω)
theorem trv_cat (Ω : Om) (v : Value) : (trv Ω v).category = v.category := by cases v <;> rfl
/-- the locals, place by place -/
abbrev LV : Type := List (Option Value)
def hasL (Ω : Om) (ls : Array Slot) (nL : Nat) (lv : LV) : Prop := ls.size = nL ∧ lv_wf ls ∧ ∀ (i : Nat) (v : Value), lv[i]? = some (some v) → ls[i]? = some (.val (trv Ω v))
def lvg : LV → Nat → Option Value
  | [], _ => none
  | o :: _, 0 => o
  | _ :: r, i + 1 => lvg r i
theorem lvg_at : ∀ {lv : LV} {i : Nat} {v : Value}, lvg lv i = some v → lv[i]? = some (some v)
  | [], _, _, h => by cases h
  | o :: _, 0, _, h => by simp only [lvg] at h; simp [h]
  | _ :: r, i + 1, _, h => by simp only [lvg] at h; simpa using lvg_at h
def keepO (o : Option Value) : Option Value := match o with
  | some (.long _) => none
  | some (.double _) => none
  | o => o
/-- a store into one place: a long that stood a place ahead is gone -/
def lset : LV → Nat → Value → LV
  | [], _, _ => []
  | _ :: r, 0, v => some v :: r
  | o :: r, 1, v => keepO o :: lset r 0 v
  | o :: r, i + 2, v => o :: lset r (i + 1) v
/-- a store of a long -/
def lset2 : LV → Nat → Value → LV
  | [], _, _ => []
  | [_], 0, v => [some v]
  | _ :: _ :: r, 0, v => some v :: none :: r
  | o :: r, 1, v => keepO o :: lset2 r 0 v
  | o :: r, i + 2, v => o :: lset2 r (i + 1) v
def asc (Ω : Om) : Nat → LV → List (Nat × Value)
  | _, [] => []
  | i, none :: r => asc Ω (i + 1) r
  | i, some v :: r => (i, trv Ω v) :: asc Ω (i + 1) r
theorem asc_mem (Ω : Om) : ∀ (lv : LV) (b : Nat) (q : Nat × Value), q ∈ asc Ω b lv ↔ ∃ (i : Nat) (v : Value), lv[i]? = some (some v) ∧ q = (b + i, trv Ω v)
  | [], b, q => by simp [asc]
  | none :: r, b, q => by
    rw [asc, asc_mem Ω r (b + 1) q]
    constructor
    · rintro ⟨i, v, h, rfl⟩
      exact ⟨i + 1, v, by simpa using h, by rw [Nat.add_assoc, Nat.add_comm 1 i]⟩
    · rintro ⟨i, v, h, rfl⟩
      cases i with
      | zero => simp at h
      | succ i => exact ⟨i, v, by simpa using h, by rw [Nat.add_assoc, Nat.add_comm 1 i]⟩
  | some w :: r, b, q => by
    rw [asc, List.mem_cons, asc_mem Ω r (b + 1) q]
    constructor
    · rintro (rfl | ⟨i, v, h, rfl⟩)
      · exact ⟨0, w, rfl, rfl⟩
      · exact ⟨i + 1, v, by simpa using h, by rw [Nat.add_assoc, Nat.add_comm 1 i]⟩
    · rintro ⟨i, v, h, rfl⟩
      cases i with
      | zero =>
        left
        simp at h
        rw [h]; rfl
      | succ i => exact Or.inr ⟨i, v, by simpa using h, by rw [Nat.add_assoc, Nat.add_comm 1 i]⟩
theorem hasL_asc {Ω : Om} {ls : Array Slot} {nL : Nat} {lv : LV} : hasL Ω ls nL lv ↔ lv_has ls nL (asc Ω 0 lv) := by
  constructor
  · rintro ⟨h1, h2, h3⟩
    refine ⟨h1, h2, fun q hq => ?_⟩
    obtain ⟨i, v, h, rfl⟩ := (asc_mem Ω lv 0 q).mp hq
    rw [Nat.zero_add]
    exact h3 i v h
  · rintro ⟨h1, h2, h3⟩
    refine ⟨h1, h2, fun i v h => ?_⟩
    have := h3 (0 + i, trv Ω v) ((asc_mem Ω lv 0 _).mpr ⟨i, v, h, rfl⟩)
    rwa [Nat.zero_add] at this
theorem keepO_some {o : Option Value} {v : Value} (h : keepO o = some v) : o = some v ∧ ¬ v.category = 2 := by
  cases o with
  | none => cases h
  | some w => cases w <;> simp [keepO] at h <;> subst h <;> exact ⟨rfl, by simp [Value.category]⟩
theorem lset_at : ∀ {lv : LV} {i : Nat} {x : Value} {j : Nat} {v : Value}, (lset lv i x)[j]? = some (some v) → (j = i ∧ v = x) ∨ (j ≠ i ∧ lv[j]? = some (some v) ∧ ¬ (j + 1 = i ∧ v.category = 2))
  | [], i, x, j, v, h => by simp [lset] at h
  | o :: r, 0, x, j, v, h => by
    simp only [lset] at h
    cases j with
    | zero => left; simp at h; exact ⟨rfl, h.symm⟩
    | succ j => right; exact ⟨by omega, by simpa using h, by omega⟩
  | o :: r, 1, x, j, v, h => by
    simp only [lset] at h
    cases j with
    | zero =>
      simp at h
      obtain ⟨h1, h2⟩ := keepO_some h
      right
      exact ⟨by omega, by simp [h1], fun q => h2 q.2⟩
    | succ j =>
      rw [List.getElem?_cons_succ] at h
      rcases lset_at h with ⟨h1, h2⟩ | ⟨h1, h2, h3⟩
      · left; exact ⟨by omega, h2⟩
      · right; exact ⟨by omega, by simpa using h2, by omega⟩
  | o :: r, i + 2, x, j, v, h => by
    simp only [lset] at h
    cases j with
    | zero => right; exact ⟨by omega, by simpa using h, by omega⟩
    | succ j =>
      rw [List.getElem?_cons_succ] at h
      rcases lset_at h with ⟨h1, h2⟩ | ⟨h1, h2, h3⟩
      · left; exact ⟨by omega, h2⟩
      · right; exact ⟨by omega, by simpa using h2, fun q => h3 ⟨by omega, q.2⟩⟩
theorem lset2_at : ∀ {lv : LV} {i : Nat} {x : Value} {j : Nat} {v : Value}, (lset2 lv i x)[j]? = some (some v) → (j = i ∧ v = x) ∨ (j ≠ i ∧ j ≠ i + 1 ∧ lv[j]? = some (some v) ∧ ¬ (j + 1 = i ∧ v.category = 2))
  | [], i, x, j, v, h => by simp [lset2] at h
  | [o], 0, x, j, v, h => by
    simp only [lset2] at h
    cases j with
    | zero => left; simp at h; exact ⟨rfl, h.symm⟩
    | succ j => simp at h
  | o :: o2 :: r, 0, x, j, v, h => by
    simp only [lset2] at h
    cases j with
    | zero => left; simp at h; exact ⟨rfl, h.symm⟩
    | succ j =>
      cases j with
      | zero => simp at h
      | succ j => right; exact ⟨by omega, by omega, by simpa using h, by omega⟩
  | o :: r, 1, x, j, v, h => by
    cases r with
    | nil =>
      simp only [lset2] at h
      cases j with
      | zero =>
        simp at h
        obtain ⟨h1, h2⟩ := keepO_some h
        right
        exact ⟨by omega, by omega, by simp [h1], fun q => h2 q.2⟩
      | succ j => simp at h
    | cons o2 r =>
      have e : lset2 (o :: o2 :: r) 1 x = keepO o :: lset2 (o2 :: r) 0 x := by simp [lset2]
      rw [e] at h
      cases j with
      | zero =>
        simp at h
        obtain ⟨h1, h2⟩ := keepO_some h
        right
        exact ⟨by omega, by omega, by simp [h1], fun q => h2 q.2⟩
      | succ j =>
        rw [List.getElem?_cons_succ] at h
        rcases lset2_at h with ⟨h1, h2⟩ | ⟨h1, h2, h3, h4⟩
        · left; exact ⟨by omega, h2⟩
        · right; exact ⟨by omega, by omega, by simpa using h3, by omega⟩
  | o :: r, i + 2, x, j, v, h => by
    have e : lset2 (o :: r) (i + 2) x = o :: lset2 r (i + 1) x := by cases r <;> simp [lset2]
    rw [e] at h
    cases j with
    | zero => right; exact ⟨by omega, by omega, by simpa using h, by omega⟩
    | succ j =>
      rw [List.getElem?_cons_succ] at h
      rcases lset2_at h with ⟨h1, h2⟩ | ⟨h1, h2, h3, h4⟩
      · left; exact ⟨by omega, h2⟩
      · right; exact ⟨by omega, by omega, by simpa using h3, fun q => h4 ⟨by omega, q.2⟩⟩
theorem hasL_store {Ω : Om} {ls' : Array Slot} {nL i : Nat} {lv : LV} {x : Value} (h : lv_has ls' nL ((i, trv Ω x) :: (asc Ω 0 lv).filter (fun q => !(q.1 == i) && !(q.1 + 1 == i && q.2.category == 2)))) : hasL Ω ls' nL (lset lv i x) := by
  refine ⟨h.1, h.2.1, fun j v hj => ?_⟩
  rcases lset_at hj with ⟨rfl, rfl⟩ | ⟨h1, h2, h3⟩
  · exact h.2.2 (j, trv Ω v) List.mem_cons_self
  · refine h.2.2 (j, trv Ω v) (List.mem_cons_of_mem _ (List.mem_filter.mpr ⟨(asc_mem Ω lv 0 _).mpr ⟨j, v, h2, by rw [Nat.zero_add]⟩, ?_⟩))
    simp only [trv_cat]
    by_cases hc : j + 1 = i
    · have : ¬ v.category = 2 := fun q => h3 ⟨hc, q⟩
      simp [h1, this]
    · simp [h1, hc]
theorem hasL_store2 {Ω : Om} {ls' : Array Slot} {nL i : Nat} {lv : LV} {x : Value} (h : lv_has ls' nL ((i, trv Ω x) :: (asc Ω 0 lv).filter (fun q => !(q.1 == i) && (!(q.1 == i + 1) && !(q.1 + 1 == i && q.2.category == 2))))) : hasL Ω ls' nL (lset2 lv i x) := by
  refine ⟨h.1, h.2.1, fun j v hj => ?_⟩
  rcases lset2_at hj with ⟨rfl, rfl⟩ | ⟨h1, h2, h3, h4⟩
  · exact h.2.2 (j, trv Ω v) List.mem_cons_self
  · refine h.2.2 (j, trv Ω v) (List.mem_cons_of_mem _ (List.mem_filter.mpr ⟨(asc_mem Ω lv 0 _).mpr ⟨j, v, h3, by rw [Nat.zero_add]⟩, ?_⟩))
    simp only [trv_cat]
    by_cases hc : j + 1 = i
    · have : ¬ v.category = 2 := fun q => h4 ⟨hc, q⟩
      simp [h1, h2, this]
    · simp [h1, h2, hc]
/-- fewer locals -/
def lle : LV → LV → Prop
  | [], _ => True
  | none :: r, [] => lle r []
  | some _ :: _, [] => False
  | none :: r, _ :: r' => lle r r'
  | some v :: r, o :: r' => o = some v ∧ lle r r'
theorem lle_at : ∀ {a b : LV}, lle a b → ∀ {i : Nat} {v : Value}, a[i]? = some (some v) → b[i]? = some (some v)
  | [], _, _, i, v, h => by simp at h
  | none :: r, [], hl, i, v, h => by
    cases i with
    | zero => simp at h
    | succ i => have := lle_at (b := []) (by simpa [lle] using hl) (by simpa using h : r[i]? = some (some v)); simp at this
  | some w :: r, [], hl, i, v, h => by simp [lle] at hl
  | none :: r, o :: r', hl, i, v, h => by
    cases i with
    | zero => simp at h
    | succ i => have := lle_at (by simpa [lle] using hl : lle r r') (by simpa using h : r[i]? = some (some v)); simpa using this
  | some w :: r, o :: r', hl, i, v, h => by
    simp only [lle] at hl
    cases i with
    | zero => simp at h ⊢; rw [hl.1, h]
    | succ i => have := lle_at hl.2 (by simpa using h : r[i]? = some (some v)); simpa using this
theorem hasL_le {Ω : Om} {ls : Array Slot} {nL : Nat} {a b : LV} (hl : lle a b) (h : hasL Ω ls nL b) : hasL Ω ls nL a := ⟨h.1, h.2.1, fun i v hi => h.2.2 i v (lle_at hl hi)⟩
/-- what may be answered by ireturn -/
def bOkI (r : Option FieldType) (v : Int32) : Prop := r = some .int ∨ (r = some .boolean ∧ (v = 0 ∨ v = 1))
def bRet (M : MD) (Post : Option Value → HI → HL → Prop) (Ω : Om) (p : Program) (l : Launch) (e : Env) (R : Room) (s : State) (m : MethodId) (args : Array Value) (below : List Frame) (meth : Method) (c : Code) (cells slots : Nat) (Q : State → Prop) : Prop :=
  ∀ (pc : Nat) (ls : Array Slot) (hi : HI) (hl : HL) (H : Heap) (locs : List Loc), va_P Ω.2.1 classes (wcells Ω hi hl) H → va_S (inA Ω) s.heap H locs →
    (∀ v : Int32, decode M.2.1 pc = .ok (.ireturn, 1) → bOkI M.2.2.2 v → Post (some (.int v)) hi hl → W p l e R s m args below meth c H locs cells slots Q (F0 m pc ls [.int v])) ∧
    (∀ v : Int64, decode M.2.1 pc = .ok (.lreturn, 1) → M.2.2.2 = some .long → Post (some (.long v)) hi hl → W p l e R s m args below meth c H locs cells slots Q (F0 m pc ls [.long v])) ∧
    (decode M.2.1 pc = .ok (.return_, 1) → M.2.2.2 = none → Post none hi hl → W p l e R s m args below meth c H locs cells slots Q (F0 m pc ls []))
def bCx (M : MD) (d : Nat) (Post : Option Value → HI → HL → Prop) (Ω : Om) (p : Program) (l : Launch) (e : Env) (R : Room) (s : State) (m : MethodId) (args : Array Value) (below : List Frame) (meth : Method) (c : Code) (cells slots : Nat) (Q : State → Prop) : Prop :=
  p.tables.exec = Jvm.exec ∧ c.code = M.2.1 ∧ c.maxLocals = M.2.2.1 ∧ s.vm.findClass M.1.cls = some m.cls ∧ (∀ w ∈ gtbl, w.before args s = true) ∧
  (d ≤ R.frames ∧ 64 * d ≤ R.locals ∧ cells ≤ R.cells ∧ slots ≤ R.slots) ∧ bK Ω s ∧ bRet M Post Ω p l e R s m args below meth c cells slots Q
/-- THE JUDGEMENT: the method M, with room for d calls one in another, at pc with these locals, operands and contents, comes to its end with Post -/
def Wp (M : MD) (d : Nat) (Post : Option Value → HI → HL → Prop) (pc : Nat) (lv : LV) (st : List Value) (hi : HI) (hl : HL) : Prop :=
  ∀ (Ω : Om) (p : Program) (l : Launch) (e : Env) (R : Room) (s : State) (m : MethodId) (args : Array Value) (below : List Frame) (meth : Method) (c : Code) (cells slots : Nat) (Q : State → Prop),
    bCx M d Post Ω p l e R s m args below meth c cells slots Q → ∀ (H : Heap) (locs : List Loc) (ls : Array Slot), va_P Ω.2.1 classes (wcells Ω hi hl) H → va_S (inA Ω) s.heap H locs → hasL Ω ls M.2.2.1 lv →
      W p l e R s m args below meth c H locs cells slots Q (F0 m pc ls (trs Ω st))
section WP
variable {M : MD} {d : Nat} {Post : Option Value → HI → HL → Prop} {pc : Nat} {lv : LV} {st : List Value} {hi : HI} {hl : HL}
theorem wp_conseq {Post' : Option Value → HI → HL → Prop} (h : ∀ v hi hl, Post' v hi hl → Post v hi hl) (k : Wp M d Post' pc lv st hi hl) : Wp M d Post pc lv st hi hl := by
  intro Ω p l e R s m args below meth c cells slots Q C
  obtain ⟨c1, c2, c3, c4, c5, c6, c7, c8⟩ := C
  refine k Ω p l e R s m args below meth c cells slots Q ⟨c1, c2, c3, c4, c5, c6, c7, fun pc ls hi hl H locs hP hS => ?_⟩
  obtain ⟨r1, r2, r3⟩ := c8 pc ls hi hl H locs hP hS
  exact ⟨fun v hd ho hp => r1 v hd ho (h _ _ _ hp), fun v hd ho hp => r2 v hd ho (h _ _ _ hp), fun hd ho hp => r3 hd ho (h _ _ _ hp)⟩
theorem wp_drop {lv' : LV} (h : lle lv' lv) (k : Wp M d Post pc lv' st hi hl) : Wp M d Post pc lv st hi hl := fun Ω p l e R s m args below meth c cells slots Q C H locs ls hP hS hL => k Ω p l e R s m args below meth c cells slots Q C H locs ls hP hS (hasL_le h hL)
/-- a step that touches the operands alone -/
theorem wp_go {pc' : Nat} {st' : List Value} (h : ∀ (Ω : Om) (p : Program) (l : Launch) (e : Env) (R : Room) (s : State) (m : MethodId) (args : Array Value) (below : List Frame) (meth : Method) (c : Code) (cells slots : Nat) (Q : State → Prop) (H : Heap) (locs : List Loc) (ls : Array Slot), p.tables.exec = Jvm.exec → c.code = M.2.1 → s.vm.findClass M.1.cls = some m.cls → (∀ w ∈ gtbl, w.before args s = true) → hasL Ω ls M.2.2.1 lv → W p l e R s m args below meth c H locs cells slots Q (F0 m pc' ls (trs Ω st')) → W p l e R s m args below meth c H locs cells slots Q (F0 m pc ls (trs Ω st)))
    (k : Wp M d Post pc' lv st' hi hl) : Wp M d Post pc lv st hi hl := fun Ω p l e R s m args below meth c cells slots Q C H locs ls hP hS hL =>
  h Ω p l e R s m args below meth c cells slots Q H locs ls C.1 C.2.1 C.2.2.2.1 C.2.2.2.2.1 hL (k Ω p l e R s m args below meth c cells slots Q C H locs ls hP hS hL)
theorem wp_iconst {n : Int} {v : Int32} (hd : decode M.2.1 pc = .ok (.iconst n, 1)) (hv : Int32.ofInt n = v) (k : Wp M d Post (pc + 1) lv (.int v :: st) hi hl) : Wp M d Post pc lv st hi hl := wp_go (fun _ _ _ _ _ _ _ _ _ _ _ _ _ _ _ _ _ hx hb _ _ _ k => lv_iconst hx hb hd hv k) k
theorem wp_bipush {n : Int} {v : Int32} (hd : decode M.2.1 pc = .ok (.bipush n, 2)) (hv : (Int8.ofInt n).toInt32 = v) (k : Wp M d Post (pc + 2) lv (.int v :: st) hi hl) : Wp M d Post pc lv st hi hl := wp_go (fun _ _ _ _ _ _ _ _ _ _ _ _ _ _ _ _ _ hx hb _ _ _ k => lv_bipush hx hb hd hv k) k
theorem wp_sipush {n : Int} {v : Int32} (hd : decode M.2.1 pc = .ok (.sipush n, 3)) (hv : (Int16.ofInt n).toInt32 = v) (k : Wp M d Post (pc + 3) lv (.int v :: st) hi hl) : Wp M d Post pc lv st hi hl := wp_go (fun _ _ _ _ _ _ _ _ _ _ _ _ _ _ _ _ _ hx hb _ _ _ k => lv_sipush hx hb hd hv k) k
theorem wp_lconst {n : Fin 2} {v : Int64} (hd : decode M.2.1 pc = .ok (.lconst n, 1)) (hv : Int64.ofNat (n : Nat) = v) (k : Wp M d Post (pc + 1) lv (.long v :: st) hi hl) : Wp M d Post pc lv st hi hl := wp_go (fun _ _ _ _ _ _ _ _ _ _ _ _ _ _ _ _ _ hx hb _ _ _ k => lv_lconst hx hb hd hv k) k
theorem wp_ldc {index : Nat} {v : Int32} (hd : decode M.2.1 pc = .ok (.ldc index, 2)) (hw : Cond.constant M.1.cls index v ∈ gtbl) (k : Wp M d Post (pc + 2) lv (.int v :: st) hi hl) : Wp M d Post pc lv st hi hl := wp_go (fun _ _ _ _ _ _ _ _ _ _ _ _ _ _ _ _ _ hx hb ho ht _ k => lv_ldc hx hb ho (ht _ hw) hd k) k
theorem wp_ldcw {index : Nat} {v : Int32} (hd : decode M.2.1 pc = .ok (.ldc_w index, 3)) (hw : Cond.constant M.1.cls index v ∈ gtbl) (k : Wp M d Post (pc + 3) lv (.int v :: st) hi hl) : Wp M d Post pc lv st hi hl := wp_go (fun _ _ _ _ _ _ _ _ _ _ _ _ _ _ _ _ _ hx hb ho ht _ k => lv_ldcw hx hb ho (ht _ hw) hd k) k
theorem wp_ldc2 {index : Nat} {v : Int64} (hd : decode M.2.1 pc = .ok (.ldc2_w index, 3)) (hw : Cond.constantLong M.1.cls index v ∈ gtbl) (k : Wp M d Post (pc + 3) lv (.long v :: st) hi hl) : Wp M d Post pc lv st hi hl := wp_go (fun _ _ _ _ _ _ _ _ _ _ _ _ _ _ _ _ _ hx hb ho ht _ k => lv_ldc2 hx hb ho (ht _ hw) hd k) k
theorem wp_iload_n {n : Fin 4} {x : Int32} (hd : decode M.2.1 pc = .ok (.iload_n n, 1)) (hg : lvg lv n = some (.int x)) (k : Wp M d Post (pc + 1) lv (.int x :: st) hi hl) : Wp M d Post pc lv st hi hl := wp_go (fun _ _ _ _ _ _ _ _ _ _ _ _ _ _ _ _ _ hx hb _ _ hL k => lv_iload_n hx hb hd rfl (hL.2.2 _ _ (lvg_at hg)) k) k
theorem wp_iload {n : Nat} {x : Int32} (hd : decode M.2.1 pc = .ok (.iload n, 2)) (hg : lvg lv n = some (.int x)) (k : Wp M d Post (pc + 2) lv (.int x :: st) hi hl) : Wp M d Post pc lv st hi hl := wp_go (fun _ _ _ _ _ _ _ _ _ _ _ _ _ _ _ _ _ hx hb _ _ hL k => lv_iload hx hb hd (hL.2.2 _ _ (lvg_at hg)) k) k
theorem wp_lload_n {n : Fin 4} {x : Int64} (hd : decode M.2.1 pc = .ok (.lload_n n, 1)) (hg : lvg lv n = some (.long x)) (k : Wp M d Post (pc + 1) lv (.long x :: st) hi hl) : Wp M d Post pc lv st hi hl := wp_go (fun _ _ _ _ _ _ _ _ _ _ _ _ _ _ _ _ _ hx hb _ _ hL k => lv_lload_n hx hb hd rfl (hL.2.2 _ _ (lvg_at hg)) k) k
theorem wp_lload {n : Nat} {x : Int64} (hd : decode M.2.1 pc = .ok (.lload n, 2)) (hg : lvg lv n = some (.long x)) (k : Wp M d Post (pc + 2) lv (.long x :: st) hi hl) : Wp M d Post pc lv st hi hl := wp_go (fun _ _ _ _ _ _ _ _ _ _ _ _ _ _ _ _ _ hx hb _ _ hL k => lv_lload hx hb hd (hL.2.2 _ _ (lvg_at hg)) k) k
theorem wp_aload_n {n : Fin 4} {x : Nat} (hd : decode M.2.1 pc = .ok (.aload_n n, 1)) (hg : lvg lv n = some (.ref x)) (k : Wp M d Post (pc + 1) lv (.ref x :: st) hi hl) : Wp M d Post pc lv st hi hl := wp_go (fun _ _ _ _ _ _ _ _ _ _ _ _ _ _ _ _ _ hx hb _ _ hL k => lv_aload_n hx hb hd rfl (hL.2.2 _ _ (lvg_at hg)) k) k
theorem wp_iadd {x y : Int32} (hd : decode M.2.1 pc = .ok (.iadd, 1)) (k : Wp M d Post (pc + 1) lv (.int (x + y) :: st) hi hl) : Wp M d Post pc lv (.int y :: .int x :: st) hi hl := wp_go (fun _ _ _ _ _ _ _ _ _ _ _ _ _ _ _ _ _ hx hb _ _ _ k => lv_iadd hx hb hd k) k
theorem wp_isub {x y : Int32} (hd : decode M.2.1 pc = .ok (.isub, 1)) (k : Wp M d Post (pc + 1) lv (.int (x - y) :: st) hi hl) : Wp M d Post pc lv (.int y :: .int x :: st) hi hl := wp_go (fun _ _ _ _ _ _ _ _ _ _ _ _ _ _ _ _ _ hx hb _ _ _ k => lv_isub hx hb hd k) k
theorem wp_imul {x y : Int32} (hd : decode M.2.1 pc = .ok (.imul, 1)) (k : Wp M d Post (pc + 1) lv (.int (x * y) :: st) hi hl) : Wp M d Post pc lv (.int y :: .int x :: st) hi hl := wp_go (fun _ _ _ _ _ _ _ _ _ _ _ _ _ _ _ _ _ hx hb _ _ _ k => lv_imul hx hb hd k) k
theorem wp_iand {x y : Int32} (hd : decode M.2.1 pc = .ok (.iand, 1)) (k : Wp M d Post (pc + 1) lv (.int (x &&& y) :: st) hi hl) : Wp M d Post pc lv (.int y :: .int x :: st) hi hl := wp_go (fun _ _ _ _ _ _ _ _ _ _ _ _ _ _ _ _ _ hx hb _ _ _ k => lv_iand hx hb hd k) k
theorem wp_ior {x y : Int32} (hd : decode M.2.1 pc = .ok (.ior, 1)) (k : Wp M d Post (pc + 1) lv (.int (x ||| y) :: st) hi hl) : Wp M d Post pc lv (.int y :: .int x :: st) hi hl := wp_go (fun _ _ _ _ _ _ _ _ _ _ _ _ _ _ _ _ _ hx hb _ _ _ k => lv_ior hx hb hd k) k
theorem wp_ixor {x y : Int32} (hd : decode M.2.1 pc = .ok (.ixor, 1)) (k : Wp M d Post (pc + 1) lv (.int (x ^^^ y) :: st) hi hl) : Wp M d Post pc lv (.int y :: .int x :: st) hi hl := wp_go (fun _ _ _ _ _ _ _ _ _ _ _ _ _ _ _ _ _ hx hb _ _ _ k => lv_ixor hx hb hd k) k
theorem wp_idiv {x y : Int32} (hd : decode M.2.1 pc = .ok (.idiv, 1)) (hne : ¬ y = 0) (k : Wp M d Post (pc + 1) lv (.int (x / y) :: st) hi hl) : Wp M d Post pc lv (.int y :: .int x :: st) hi hl := wp_go (fun _ _ _ _ _ _ _ _ _ _ _ _ _ _ _ _ _ hx hb _ _ _ k => lv_idiv hx hb hd hne k) k
theorem wp_irem {x y : Int32} (hd : decode M.2.1 pc = .ok (.irem, 1)) (hne : ¬ y = 0) (k : Wp M d Post (pc + 1) lv (.int (x - x / y * y) :: st) hi hl) : Wp M d Post pc lv (.int y :: .int x :: st) hi hl := wp_go (fun _ _ _ _ _ _ _ _ _ _ _ _ _ _ _ _ _ hx hb _ _ _ k => lv_irem hx hb hd hne k) k
theorem wp_ineg {x : Int32} (hd : decode M.2.1 pc = .ok (.ineg, 1)) (k : Wp M d Post (pc + 1) lv (.int (-x) :: st) hi hl) : Wp M d Post pc lv (.int x :: st) hi hl := wp_go (fun _ _ _ _ _ _ _ _ _ _ _ _ _ _ _ _ _ hx hb _ _ _ k => lv_ineg hx hb hd k) k
theorem wp_ishl {x y : Int32} (hd : decode M.2.1 pc = .ok (.ishl, 1)) (k : Wp M d Post (pc + 1) lv (.int (x <<< (y &&& 31)) :: st) hi hl) : Wp M d Post pc lv (.int y :: .int x :: st) hi hl := wp_go (fun _ _ _ _ _ _ _ _ _ _ _ _ _ _ _ _ _ hx hb _ _ _ k => lv_ishl hx hb hd k) k
theorem wp_ishr {x y : Int32} (hd : decode M.2.1 pc = .ok (.ishr, 1)) (k : Wp M d Post (pc + 1) lv (.int (x >>> (y &&& 31)) :: st) hi hl) : Wp M d Post pc lv (.int y :: .int x :: st) hi hl := wp_go (fun _ _ _ _ _ _ _ _ _ _ _ _ _ _ _ _ _ hx hb _ _ _ k => lv_ishr hx hb hd k) k
theorem wp_iushr {x y : Int32} (hd : decode M.2.1 pc = .ok (.iushr, 1)) (k : Wp M d Post (pc + 1) lv (.int (x.toUInt32 >>> (y.toUInt32 &&& Int32.toUInt32 31)).toInt32 :: st) hi hl) : Wp M d Post pc lv (.int y :: .int x :: st) hi hl := wp_go (fun _ _ _ _ _ _ _ _ _ _ _ _ _ _ _ _ _ hx hb _ _ _ k => lv_iushr hx hb hd rfl k) k
theorem wp_ladd {x y : Int64} (hd : decode M.2.1 pc = .ok (.ladd, 1)) (k : Wp M d Post (pc + 1) lv (.long (x + y) :: st) hi hl) : Wp M d Post pc lv (.long y :: .long x :: st) hi hl := wp_go (fun _ _ _ _ _ _ _ _ _ _ _ _ _ _ _ _ _ hx hb _ _ _ k => lv_ladd hx hb hd k) k
theorem wp_lsub {x y : Int64} (hd : decode M.2.1 pc = .ok (.lsub, 1)) (k : Wp M d Post (pc + 1) lv (.long (x - y) :: st) hi hl) : Wp M d Post pc lv (.long y :: .long x :: st) hi hl := wp_go (fun _ _ _ _ _ _ _ _ _ _ _ _ _ _ _ _ _ hx hb _ _ _ k => lv_lsub hx hb hd k) k
theorem wp_lmul {x y : Int64} (hd : decode M.2.1 pc = .ok (.lmul, 1)) (k : Wp M d Post (pc + 1) lv (.long (x * y) :: st) hi hl) : Wp M d Post pc lv (.long y :: .long x :: st) hi hl := wp_go (fun _ _ _ _ _ _ _ _ _ _ _ _ _ _ _ _ _ hx hb _ _ _ k => lv_lmul hx hb hd k) k
theorem wp_land {x y : Int64} (hd : decode M.2.1 pc = .ok (.land, 1)) (k : Wp M d Post (pc + 1) lv (.long (x &&& y) :: st) hi hl) : Wp M d Post pc lv (.long y :: .long x :: st) hi hl := wp_go (fun _ _ _ _ _ _ _ _ _ _ _ _ _ _ _ _ _ hx hb _ _ _ k => lv_land hx hb hd k) k
theorem wp_lor {x y : Int64} (hd : decode M.2.1 pc = .ok (.lor, 1)) (k : Wp M d Post (pc + 1) lv (.long (x ||| y) :: st) hi hl) : Wp M d Post pc lv (.long y :: .long x :: st) hi hl := wp_go (fun _ _ _ _ _ _ _ _ _ _ _ _ _ _ _ _ _ hx hb _ _ _ k => lv_lor hx hb hd k) k
theorem wp_ldiv {x y : Int64} (hd : decode M.2.1 pc = .ok (.ldiv, 1)) (hne : ¬ y = 0) (k : Wp M d Post (pc + 1) lv (.long (x / y) :: st) hi hl) : Wp M d Post pc lv (.long y :: .long x :: st) hi hl := wp_go (fun _ _ _ _ _ _ _ _ _ _ _ _ _ _ _ _ _ hx hb _ _ _ k => lv_ldiv hx hb hd hne k) k
theorem wp_lrem {x y : Int64} (hd : decode M.2.1 pc = .ok (.lrem, 1)) (hne : ¬ y = 0) (k : Wp M d Post (pc + 1) lv (.long (x - x / y * y) :: st) hi hl) : Wp M d Post pc lv (.long y :: .long x :: st) hi hl := wp_go (fun _ _ _ _ _ _ _ _ _ _ _ _ _ _ _ _ _ hx hb _ _ _ k => lv_lrem hx hb hd hne k) k
theorem wp_lshl {x : Int64} {y : Int32} (hd : decode M.2.1 pc = .ok (.lshl, 1)) (k : Wp M d Post (pc + 1) lv (.long (x <<< (y.toInt64 &&& 63)) :: st) hi hl) : Wp M d Post pc lv (.int y :: .long x :: st) hi hl := wp_go (fun _ _ _ _ _ _ _ _ _ _ _ _ _ _ _ _ _ hx hb _ _ _ k => lv_lshl hx hb hd rfl k) k
theorem wp_lshr {x : Int64} {y : Int32} (hd : decode M.2.1 pc = .ok (.lshr, 1)) (k : Wp M d Post (pc + 1) lv (.long (x >>> (y.toInt64 &&& 63)) :: st) hi hl) : Wp M d Post pc lv (.int y :: .long x :: st) hi hl := wp_go (fun _ _ _ _ _ _ _ _ _ _ _ _ _ _ _ _ _ hx hb _ _ _ k => lv_lshr hx hb hd rfl k) k
theorem wp_i2l {x : Int32} (hd : decode M.2.1 pc = .ok (.i2l, 1)) (k : Wp M d Post (pc + 1) lv (.long x.toInt64 :: st) hi hl) : Wp M d Post pc lv (.int x :: st) hi hl := wp_go (fun _ _ _ _ _ _ _ _ _ _ _ _ _ _ _ _ _ hx hb _ _ _ k => lv_i2l hx hb hd rfl k) k
theorem wp_l2i {x : Int64} (hd : decode M.2.1 pc = .ok (.l2i, 1)) (k : Wp M d Post (pc + 1) lv (.int x.toInt32 :: st) hi hl) : Wp M d Post pc lv (.long x :: st) hi hl := wp_go (fun _ _ _ _ _ _ _ _ _ _ _ _ _ _ _ _ _ hx hb _ _ _ k => lv_l2i hx hb hd rfl k) k
theorem wp_i2b {x : Int32} (hd : decode M.2.1 pc = .ok (.i2b, 1)) (k : Wp M d Post (pc + 1) lv (.int x.toInt8.toInt32 :: st) hi hl) : Wp M d Post pc lv (.int x :: st) hi hl := wp_go (fun _ _ _ _ _ _ _ _ _ _ _ _ _ _ _ _ _ hx hb _ _ _ k => lv_i2b hx hb hd rfl k) k
theorem wp_lcmp {x y : Int64} (hd : decode M.2.1 pc = .ok (.lcmp, 1)) (k : Wp M d Post (pc + 1) lv (.int (lg_cmp x y) :: st) hi hl) : Wp M d Post pc lv (.long y :: .long x :: st) hi hl := wp_go (fun _ _ _ _ _ _ _ _ _ _ _ _ _ _ _ _ _ hx hb _ _ _ k => W.lcmp hx hb hd k) k
theorem wp_dup {va : Value} (hd : decode M.2.1 pc = .ok (.dup, 1)) (hc : va.category = 1) (k : Wp M d Post (pc + 1) lv (va :: va :: st) hi hl) : Wp M d Post pc lv (va :: st) hi hl := wp_go (fun Ω _ _ _ _ _ _ _ _ _ _ _ _ _ _ _ _ hx hb _ _ _ k => lv_dup hx hb hd (by rw [trv_cat]; exact hc) k) k
theorem wp_pop {va : Value} (hd : decode M.2.1 pc = .ok (.pop, 1)) (hc : va.category = 1) (k : Wp M d Post (pc + 1) lv st hi hl) : Wp M d Post pc lv (va :: st) hi hl := wp_go (fun Ω _ _ _ _ _ _ _ _ _ _ _ _ _ _ _ _ hx hb _ _ _ k => lv_pop hx hb hd (by rw [trv_cat]; exact hc) k) k
theorem wp_dup2 {va vb : Value} (hd : decode M.2.1 pc = .ok (.dup2, 1)) (hc : va.category = 1) (hc2 : vb.category = 1) (k : Wp M d Post (pc + 1) lv (va :: vb :: va :: vb :: st) hi hl) : Wp M d Post pc lv (va :: vb :: st) hi hl := wp_go (fun Ω _ _ _ _ _ _ _ _ _ _ _ _ _ _ _ _ hx hb _ _ _ k => lv_dup2_11 hx hb hd (by rw [trv_cat]; exact hc) (by rw [trv_cat]; exact hc2) k) k
theorem wp_goto {off : Int} {tgt : Nat} (hd : decode M.2.1 pc = .ok (.goto off, 3)) (ht : (pc : Int) + off = (tgt : Int)) (k : Wp M d Post tgt lv st hi hl) : Wp M d Post pc lv st hi hl := wp_go (fun _ _ _ _ _ _ _ _ _ _ _ _ _ _ _ _ _ hx hb _ _ _ k => lv_goto hx hb hd ht k) k
end WP
end
section
/-! branches, stores, fields, arrays, calls, returns over the judgement -/
section WP2
variable {M : MD} {d : Nat} {Post : Option Value → HI → HL → Prop} {pc : Nat} {lv : LV} {st : List Value} {hi : HI} {hl : HL}
theorem wp_if_eq {x : Int32} {off : Int} {tgt : Nat} (hd : decode M.2.1 pc = .ok (.ifCond .eq off, 3)) (ht : (pc : Int) + off = (tgt : Int)) (kt : x = 0 → Wp M d Post tgt lv st hi hl) (kf : ¬ x = 0 → Wp M d Post (pc + 3) lv st hi hl) : Wp M d Post pc lv (.int x :: st) hi hl := fun Ω p l e R s m args below meth c cells slots Q C H locs ls hP hS hL => lv_if_eq C.1 C.2.1 hd ht (fun h => kt h Ω p l e R s m args below meth c cells slots Q C H locs ls hP hS hL) (fun h => kf h Ω p l e R s m args below meth c cells slots Q C H locs ls hP hS hL)
theorem wp_icmp_eq {x y : Int32} {off : Int} {tgt : Nat} (hd : decode M.2.1 pc = .ok (.if_icmp .eq off, 3)) (ht : (pc : Int) + off = (tgt : Int)) (kt : x = y → Wp M d Post tgt lv st hi hl) (kf : ¬ x = y → Wp M d Post (pc + 3) lv st hi hl) : Wp M d Post pc lv (.int y :: .int x :: st) hi hl := fun Ω p l e R s m args below meth c cells slots Q C H locs ls hP hS hL => lv_icmp_eq C.1 C.2.1 hd ht (fun h => kt h Ω p l e R s m args below meth c cells slots Q C H locs ls hP hS hL) (fun h => kf h Ω p l e R s m args below meth c cells slots Q C H locs ls hP hS hL)
theorem wp_if_ne {x : Int32} {off : Int} {tgt : Nat} (hd : decode M.2.1 pc = .ok (.ifCond .ne off, 3)) (ht : (pc : Int) + off = (tgt : Int)) (kt : ¬ x = 0 → Wp M d Post tgt lv st hi hl) (kf : x = 0 → Wp M d Post (pc + 3) lv st hi hl) : Wp M d Post pc lv (.int x :: st) hi hl := fun Ω p l e R s m args below meth c cells slots Q C H locs ls hP hS hL => lv_if_ne C.1 C.2.1 hd ht (fun h => kt h Ω p l e R s m args below meth c cells slots Q C H locs ls hP hS hL) (fun h => kf h Ω p l e R s m args below meth c cells slots Q C H locs ls hP hS hL)
theorem wp_icmp_ne {x y : Int32} {off : Int} {tgt : Nat} (hd : decode M.2.1 pc = .ok (.if_icmp .ne off, 3)) (ht : (pc : Int) + off = (tgt : Int)) (kt : ¬ x = y → Wp M d Post tgt lv st hi hl) (kf : x = y → Wp M d Post (pc + 3) lv st hi hl) : Wp M d Post pc lv (.int y :: .int x :: st) hi hl := fun Ω p l e R s m args below meth c cells slots Q C H locs ls hP hS hL => lv_icmp_ne C.1 C.2.1 hd ht (fun h => kt h Ω p l e R s m args below meth c cells slots Q C H locs ls hP hS hL) (fun h => kf h Ω p l e R s m args below meth c cells slots Q C H locs ls hP hS hL)
theorem wp_if_lt {x : Int32} {off : Int} {tgt : Nat} (hd : decode M.2.1 pc = .ok (.ifCond .lt off, 3)) (ht : (pc : Int) + off = (tgt : Int)) (kt : x < 0 → Wp M d Post tgt lv st hi hl) (kf : ¬ x < 0 → Wp M d Post (pc + 3) lv st hi hl) : Wp M d Post pc lv (.int x :: st) hi hl := fun Ω p l e R s m args below meth c cells slots Q C H locs ls hP hS hL => lv_if_lt C.1 C.2.1 hd ht (fun h => kt h Ω p l e R s m args below meth c cells slots Q C H locs ls hP hS hL) (fun h => kf h Ω p l e R s m args below meth c cells slots Q C H locs ls hP hS hL)
theorem wp_icmp_lt {x y : Int32} {off : Int} {tgt : Nat} (hd : decode M.2.1 pc = .ok (.if_icmp .lt off, 3)) (ht : (pc : Int) + off = (tgt : Int)) (kt : x < y → Wp M d Post tgt lv st hi hl) (kf : ¬ x < y → Wp M d Post (pc + 3) lv st hi hl) : Wp M d Post pc lv (.int y :: .int x :: st) hi hl := fun Ω p l e R s m args below meth c cells slots Q C H locs ls hP hS hL => lv_icmp_lt C.1 C.2.1 hd ht (fun h => kt h Ω p l e R s m args below meth c cells slots Q C H locs ls hP hS hL) (fun h => kf h Ω p l e R s m args below meth c cells slots Q C H locs ls hP hS hL)
theorem wp_if_ge {x : Int32} {off : Int} {tgt : Nat} (hd : decode M.2.1 pc = .ok (.ifCond .ge off, 3)) (ht : (pc : Int) + off = (tgt : Int)) (kt : 0 ≤ x → Wp M d Post tgt lv st hi hl) (kf : ¬ 0 ≤ x → Wp M d Post (pc + 3) lv st hi hl) : Wp M d Post pc lv (.int x :: st) hi hl := fun Ω p l e R s m args below meth c cells slots Q C H locs ls hP hS hL => lv_if_ge C.1 C.2.1 hd ht (fun h => kt h Ω p l e R s m args below meth c cells slots Q C H locs ls hP hS hL) (fun h => kf h Ω p l e R s m args below meth c cells slots Q C H locs ls hP hS hL)
theorem wp_icmp_ge {x y : Int32} {off : Int} {tgt : Nat} (hd : decode M.2.1 pc = .ok (.if_icmp .ge off, 3)) (ht : (pc : Int) + off = (tgt : Int)) (kt : y ≤ x → Wp M d Post tgt lv st hi hl) (kf : ¬ y ≤ x → Wp M d Post (pc + 3) lv st hi hl) : Wp M d Post pc lv (.int y :: .int x :: st) hi hl := fun Ω p l e R s m args below meth c cells slots Q C H locs ls hP hS hL => lv_icmp_ge C.1 C.2.1 hd ht (fun h => kt h Ω p l e R s m args below meth c cells slots Q C H locs ls hP hS hL) (fun h => kf h Ω p l e R s m args below meth c cells slots Q C H locs ls hP hS hL)
theorem wp_if_gt {x : Int32} {off : Int} {tgt : Nat} (hd : decode M.2.1 pc = .ok (.ifCond .gt off, 3)) (ht : (pc : Int) + off = (tgt : Int)) (kt : 0 < x → Wp M d Post tgt lv st hi hl) (kf : ¬ 0 < x → Wp M d Post (pc + 3) lv st hi hl) : Wp M d Post pc lv (.int x :: st) hi hl := fun Ω p l e R s m args below meth c cells slots Q C H locs ls hP hS hL => lv_if_gt C.1 C.2.1 hd ht (fun h => kt h Ω p l e R s m args below meth c cells slots Q C H locs ls hP hS hL) (fun h => kf h Ω p l e R s m args below meth c cells slots Q C H locs ls hP hS hL)
theorem wp_icmp_gt {x y : Int32} {off : Int} {tgt : Nat} (hd : decode M.2.1 pc = .ok (.if_icmp .gt off, 3)) (ht : (pc : Int) + off = (tgt : Int)) (kt : y < x → Wp M d Post tgt lv st hi hl) (kf : ¬ y < x → Wp M d Post (pc + 3) lv st hi hl) : Wp M d Post pc lv (.int y :: .int x :: st) hi hl := fun Ω p l e R s m args below meth c cells slots Q C H locs ls hP hS hL => lv_icmp_gt C.1 C.2.1 hd ht (fun h => kt h Ω p l e R s m args below meth c cells slots Q C H locs ls hP hS hL) (fun h => kf h Ω p l e R s m args below meth c cells slots Q C H locs ls hP hS hL)
theorem wp_if_le {x : Int32} {off : Int} {tgt : Nat} (hd : decode M.2.1 pc = .ok (.ifCond .le off, 3)) (ht : (pc : Int) + off = (tgt : Int)) (kt : x ≤ 0 → Wp M d Post tgt lv st hi hl) (kf : ¬ x ≤ 0 → Wp M d Post (pc + 3) lv st hi hl) : Wp M d Post pc lv (.int x :: st) hi hl := fun Ω p l e R s m args below meth c cells slots Q C H locs ls hP hS hL => lv_if_le C.1 C.2.1 hd ht (fun h => kt h Ω p l e R s m args below meth c cells slots Q C H locs ls hP hS hL) (fun h => kf h Ω p l e R s m args below meth c cells slots Q C H locs ls hP hS hL)
theorem wp_icmp_le {x y : Int32} {off : Int} {tgt : Nat} (hd : decode M.2.1 pc = .ok (.if_icmp .le off, 3)) (ht : (pc : Int) + off = (tgt : Int)) (kt : x ≤ y → Wp M d Post tgt lv st hi hl) (kf : ¬ x ≤ y → Wp M d Post (pc + 3) lv st hi hl) : Wp M d Post pc lv (.int y :: .int x :: st) hi hl := fun Ω p l e R s m args below meth c cells slots Q C H locs ls hP hS hL => lv_icmp_le C.1 C.2.1 hd ht (fun h => kt h Ω p l e R s m args below meth c cells slots Q C H locs ls hP hS hL) (fun h => kf h Ω p l e R s m args below meth c cells slots Q C H locs ls hP hS hL)
theorem wp_switchOut {dflt lo hj : Int} {offs : Array Int} {len : Nat} {x : Int32} {tgt : Nat} (hd : decode M.2.1 pc = .ok (.tableswitch dflt lo hj offs, len)) (h : x.toInt < lo ∨ hj < x.toInt) (ht : (pc : Int) + dflt = (tgt : Int)) (k : Wp M d Post tgt lv st hi hl) : Wp M d Post pc lv (.int x :: st) hi hl := wp_go (fun _ _ _ _ _ _ _ _ _ _ _ _ _ _ _ _ _ hx hb _ _ _ k => lv_tableOut hx hb hd h ht k) k
theorem wp_switchIn {dflt lo hj : Int} {offs : Array Int} {len : Nat} {x : Int32} {off : Int} {tgt : Nat} (hd : decode M.2.1 pc = .ok (.tableswitch dflt lo hj offs, len)) (h1 : ¬ x.toInt < lo) (h2 : ¬ hj < x.toInt) (ho : offs[(x.toInt - lo).toNat]? = some off) (ht : (pc : Int) + off = (tgt : Int)) (k : Wp M d Post tgt lv st hi hl) : Wp M d Post pc lv (.int x :: st) hi hl := wp_go (fun _ _ _ _ _ _ _ _ _ _ _ _ _ _ _ _ _ hx hb _ _ _ k => lv_tableIn hx hb hd h1 h2 ho ht k) k
theorem wp_istore_n {n : Fin 4} {x : Int32} (hd : decode M.2.1 pc = .ok (.istore_n n, 1)) (hn : (n : Nat) < M.2.2.1) (k : Wp M d Post (pc + 1) (lset lv n (.int x)) st hi hl) : Wp M d Post pc lv (.int x :: st) hi hl := fun Ω p l e R s m args below meth c cells slots Q C H locs ls hP hS hL => lv_istore_n C.1 C.2.1 hd rfl (hasL_asc.mp hL) hn rfl (fun ls' hl' => k Ω p l e R s m args below meth c cells slots Q C H locs ls' hP hS (hasL_store hl'))
theorem wp_istore {n : Nat} {x : Int32} (hd : decode M.2.1 pc = .ok (.istore n, 2)) (hn : n < M.2.2.1) (k : Wp M d Post (pc + 2) (lset lv n (.int x)) st hi hl) : Wp M d Post pc lv (.int x :: st) hi hl := fun Ω p l e R s m args below meth c cells slots Q C H locs ls hP hS hL => lv_istore C.1 C.2.1 hd (hasL_asc.mp hL) hn rfl (fun ls' hl' => k Ω p l e R s m args below meth c cells slots Q C H locs ls' hP hS (hasL_store hl'))
theorem wp_lstore_n {n : Fin 4} {x : Int64} (hd : decode M.2.1 pc = .ok (.lstore_n n, 1)) (hn : (n : Nat) + 1 < M.2.2.1) (k : Wp M d Post (pc + 1) (lset2 lv n (.long x)) st hi hl) : Wp M d Post pc lv (.long x :: st) hi hl := fun Ω p l e R s m args below meth c cells slots Q C H locs ls hP hS hL => lv_lstore_n C.1 C.2.1 hd rfl (hasL_asc.mp hL) hn rfl (fun ls' hl' => k Ω p l e R s m args below meth c cells slots Q C H locs ls' hP hS (hasL_store2 hl'))
theorem wp_lstore {n : Nat} {x : Int64} (hd : decode M.2.1 pc = .ok (.lstore n, 2)) (hn : n + 1 < M.2.2.1) (k : Wp M d Post (pc + 2) (lset2 lv n (.long x)) st hi hl) : Wp M d Post pc lv (.long x :: st) hi hl := fun Ω p l e R s m args below meth c cells slots Q C H locs ls hP hS hL => lv_lstore C.1 C.2.1 hd (hasL_asc.mp hL) hn rfl (fun ls' hl' => k Ω p l e R s m args below meth c cells slots Q C H locs ls' hP hS (hasL_store2 hl'))
theorem wp_iinc {n : Nat} {b : Int} {x v : Int32} (hd : decode M.2.1 pc = .ok (.iinc n b, 3)) (hg : lvg lv n = some (.int x)) (hv : x + Int32.ofInt b = v) (hn : n < M.2.2.1) (k : Wp M d Post (pc + 3) (lset lv n (.int v)) st hi hl) : Wp M d Post pc lv st hi hl := by
  intro Ω p l e R s m args below meth c cells slots Q C H locs ls hP hS hL
  have hm : (n, Value.int x) ∈ asc Ω 0 lv := (asc_mem Ω lv 0 _).mpr ⟨n, .int x, lvg_at hg, by rw [Nat.zero_add]; rfl⟩
  obtain ⟨k0, hk0⟩ := List.getElem?_of_mem hm
  exact lv_iinc C.1 C.2.1 hd (hasL_asc.mp hL) hk0 hv hn rfl (fun ls' hl' => k Ω p l e R s m args below meth c cells slots Q C H locs ls' hP hS (hasL_store hl'))
/-! the contents: one place anew -/
def setI (hi : HI) (k i : Nat) (v : Int32) : HI := fun k' => if k' = k then upd (hi k) i v else hi k'
def setL (hl : HL) (k i : Nat) (v : Int64) : HL := fun k' => if k' = k then vp_updL (hl k) i v else hl k'
theorem setI_same (hi : HI) (k i : Nat) (v : Int32) : setI hi k i v k = upd (hi k) i v := by simp [setI]
theorem setI_ne (hi : HI) {k k' : Nat} (i : Nat) (v : Int32) (h : k' ≠ k) : setI hi k i v k' = hi k' := by simp [setI, h]
theorem setL_same (hl : HL) (k i : Nat) (v : Int64) : setL hl k i v k = vp_updL (hl k) i v := by simp [setL]
theorem setL_ne (hl : HL) {k k' : Nat} (i : Nat) (v : Int64) (h : k' ≠ k) : setL hl k i v k' = hl k' := by simp [setL, h]
theorem setI_at (hi : HI) (k i : Nat) (v : Int32) : setI hi k i v k i = v := by simp [setI, upd]
theorem setI_at_ne (hi : HI) (k : Nat) {i j : Nat} (v : Int32) (h : j ≠ i) : setI hi k i v k j = hi k j := by simp [setI, upd, h]
theorem setL_at (hl : HL) (k i : Nat) (v : Int64) : setL hl k i v k i = v := by simp [setL, vp_updL]
theorem setL_at_ne (hl : HL) (k : Nat) {i j : Nat} (v : Int64) (h : j ≠ i) : setL hl k i v k j = hl k j := by simp [setL, vp_updL, h]
theorem fvals_get (α : Nat → Nat) (fi : Nat → Int32) (fl : Nat → Int64) : ∀ (fs : List (Option (Option Nat))) (b k : Nat) (t : Option (Option Nat)), fs[k]? = some t → (fvals α fi fl b fs)[k]? = some (fval α fi fl t (b + k))
  | [], b, k, t, h => by simp at h
  | f :: fs, b, 0, t, h => by simp at h; simp [fvals, h]
  | f :: fs, b, k + 1, t, h => by
    have := fvals_get α fi fl fs (b + 1) k t (by simpa using h)
    simpa [fvals, Nat.add_assoc, Nat.add_comm 1 k] using this
theorem fvals_length (α : Nat → Nat) (fi : Nat → Int32) (fl : Nat → Int64) : ∀ (fs : List (Option (Option Nat))) (b : Nat), (fvals α fi fl b fs).length = fs.length
  | [], b => rfl
  | f :: fs, b => by simp [fvals, fvals_length α fi fl fs (b + 1)]
theorem fvals_ext (α : Nat → Nat) {fi fi' : Nat → Int32} {fl fl' : Nat → Int64} (fs : List (Option (Option Nat))) (b k : Nat) (v : Value) (hk : k < fs.length) (h1 : ∀ t, fs[k]? = some t → fval α fi' fl' t (b + k) = v) (h2 : ∀ j, j ≠ b + k → fi' j = fi j ∧ fl' j = fl j) : (fvals α fi fl b fs).set k v = fvals α fi' fl' b fs := by
  apply List.ext_getElem?
  intro j
  by_cases hj : j < fs.length
  · obtain ⟨t, ht⟩ : ∃ t, fs[j]? = some t := ⟨fs[j], List.getElem?_eq_getElem hj⟩
    rw [fvals_get α fi' fl' fs b j t ht]
    by_cases e : j = k
    · subst e
      rw [List.getElem?_set_self (by rw [fvals_length]; exact hj), h1 t ht]
    · rw [List.getElem?_set_ne (fun q => e q.symm), fvals_get α fi fl fs b j t ht]
      have := h2 (b + j) (by omega)
      cases t with
      | none => simp [fval, this.1]
      | some t => cases t <;> simp [fval, this.2]
  · rw [List.getElem?_eq_none (by rw [List.length_set, fvals_length]; omega), List.getElem?_eq_none (by rw [fvals_length]; omega)]
/-- a field's link: by its own class or by the nest -/
def Fld (own : String) (idx ci f : Nat) : Prop := ∃ (C : String) (T : u_T) (N : Nat) (ty0 : Nat → FieldType), classes[ci]? = some (C, T, N) ∧ f < N ∧ (∀ w ∈ u_ws C T N, w ∈ gtbl) ∧ (∀ k, k < N → parseFieldDescriptor (T k).2.2.1 = some (ty0 k)) ∧ (∀ a, a < N → ∀ b, b < N → a ≠ b → (T a).2.1 ≠ (T b).2.1) ∧
  (Cond.fieldLink own idx C (T f).2.1 (T f).2.2.1 ∈ gtbl ∨ ∃ host, Cond.fieldLinkNest own idx C (T f).2.1 (T f).2.2.1 host ∈ nests) ∧ (T f).1 = C
theorem wp_getV {q ci f idx : Nat} {fs : List (Option (Option Nat))} {t : Option (Option Nat)} {v : Value} (hd : decode M.2.1 pc = .ok (.getfield idx, 3)) (hf : Fld M.1.cls idx ci f) (hq : q < 61) (hs : shp q = .inr (ci, fs)) (ht : fs[f]? = some t) (hv : ∀ Ω : Om, fval Ω.1 (hi q) (hl q) t f = trv Ω v) (k : Wp M d Post (pc + 3) lv (v :: st) hi hl) : Wp M d Post pc lv (.ref q :: st) hi hl := by
  intro Ω p l e R s m args below meth c cells slots Q C H locs ls hP hS hL
  obtain ⟨Cn, T, N, ty0, hc, hk, hin, hty, hnm, hlk, hsm⟩ := hf
  have he : (wcells Ω hi hl)[q]? = some (Ω.1 q, .inr (ci, fvals Ω.1 (hi q) (hl q) 0 fs)) := by rw [wcells_at Ω hi hl hq, hs]; rfl
  have hg : (fvals Ω.1 (hi q) (hl q) 0 fs)[f]? = some (trv Ω v) := by rw [fvals_get Ω.1 (hi q) (hl q) fs 0 f t ht, Nat.zero_add, hv Ω]
  have kk := k Ω p l e R s m args below meth c cells slots Q C H locs ls hP hS hL
  rcases hlk with h1 | ⟨host, h1⟩
  · exact va_get (D := Ω.2.1) C.1 C.2.1 C.2.2.2.2.1 hin C.2.2.2.1 C.2.2.2.2.2.2.1.1 hP q he hc f hk (C.2.2.2.2.1 _ h1) (fun x h => by rw [← hsm]; exact h) hg hd kk
  · exact va_getN (D := Ω.2.1) C.1 C.2.1 C.2.2.2.2.1 hin C.2.2.2.1 C.2.2.2.2.2.2.1.1 hP q he hc f hk ((C.2.2.2.2.2.2.1.2.2.2.2 _ h1).use rfl) (fun x h => by rw [← hsm]; exact h) hg hd kk
theorem wp_getI {q ci f idx : Nat} {fs : List (Option (Option Nat))} (hd : decode M.2.1 pc = .ok (.getfield idx, 3)) (hf : Fld M.1.cls idx ci f) (hq : q < 61) (hs : shp q = .inr (ci, fs)) (ht : fs[f]? = some none) (k : Wp M d Post (pc + 3) lv (.int (hi q f) :: st) hi hl) : Wp M d Post pc lv (.ref q :: st) hi hl := wp_getV hd hf hq hs ht (fun _ => rfl) k
theorem wp_getJ {q ci f idx : Nat} {fs : List (Option (Option Nat))} (hd : decode M.2.1 pc = .ok (.getfield idx, 3)) (hf : Fld M.1.cls idx ci f) (hq : q < 61) (hs : shp q = .inr (ci, fs)) (ht : fs[f]? = some (some none)) (k : Wp M d Post (pc + 3) lv (.long (hl q f) :: st) hi hl) : Wp M d Post pc lv (.ref q :: st) hi hl := wp_getV hd hf hq hs ht (fun _ => rfl) k
theorem wp_getR {q ci f idx r : Nat} {fs : List (Option (Option Nat))} (hd : decode M.2.1 pc = .ok (.getfield idx, 3)) (hf : Fld M.1.cls idx ci f) (hq : q < 61) (hs : shp q = .inr (ci, fs)) (ht : fs[f]? = some (some (some r))) (k : Wp M d Post (pc + 3) lv (.ref r :: st) hi hl) : Wp M d Post pc lv (.ref q :: st) hi hl := wp_getV hd hf hq hs ht (fun _ => rfl) k
theorem wp_putV {q ci f idx : Nat} {fs : List (Option (Option Nat))} {v : Value} {ty : FieldType} {hi' : HI} {hl' : HL} (hd : decode M.2.1 pc = .ok (.putfield idx, 3)) (hf : Fld M.1.cls idx ci f) (hq : q < 61) (hs : shp q = .inr (ci, fs)) (hlen : f < fs.length) (hty : ∀ C T N, classes[ci]? = some (C, T, N) → (T f).2.2.2 = false ∧ parseFieldDescriptor (T f).2.2.1 = some ty) (hn : narrow ty v = v) (hfit : fits ty v = true) (htr : ∀ Ω : Om, trv Ω v = v)
    (h1 : ∀ (α : Nat → Nat) t, fs[f]? = some t → fval α (hi' q) (hl' q) t f = v) (h2 : ∀ j, j ≠ f → hi' q j = hi q j ∧ hl' q j = hl q j) (h3 : ∀ j, j ≠ q → hi' j = hi j ∧ hl' j = hl j)
    (k : Wp M d Post (pc + 3) lv st hi' hl') : Wp M d Post pc lv (v :: .ref q :: st) hi hl := by
  intro Ω p l e R s m args below meth c cells slots Q C H locs ls hP hS hL
  obtain ⟨Cn, T, N, ty0, hc, hk, hin, hty0, hnm, hlk, hsm⟩ := hf
  obtain ⟨hfin, hdsc⟩ := hty Cn T N hc
  have he : (wcells Ω hi hl)[q]? = some (Ω.1 q, .inr (ci, fvals Ω.1 (hi q) (hl q) 0 fs)) := by rw [wcells_at Ω hi hl hq, hs]; rfl
  have hlen' : f < (fvals Ω.1 (hi q) (hl q) 0 fs).length := by rw [fvals_length]; exact hlen
  have heq : (wcells Ω hi hl).set q (Ω.1 q, .inr (ci, (fvals Ω.1 (hi q) (hl q) 0 fs).set f v)) = wcells Ω hi' hl' := by
    refine wcells_set Ω hq ?_ h3
    rw [hs, fvals_ext Ω.1 fs 0 f v hlen (fun t ht => by rw [Nat.zero_add]; exact h1 Ω.1 t ht) (fun j hj => h2 j (by omega))]
    rfl
  show W p l e R s m args below meth c H locs cells slots Q (F0 m pc ls (trv Ω v :: .ref (Ω.1 q) :: trs Ω st))
  rw [htr Ω]
  have hD := wD C.2.2.2.2.2.2.1.2.1 hi hl
  rcases hlk with g1 | ⟨host, g1⟩
  · exact va_put (D := Ω.2.1) C.1 C.2.1 C.2.2.2.2.1 hin ty0 hty0 hnm C.2.2.2.1 C.2.2.2.2.2.2.1.1 hP hD hS q he hc f hk (C.2.2.2.2.1 _ g1) (fun x h => by rw [← hsm]; exact h) hfin hdsc hn hfit hlen' hd (fun H1 locs1 hP1 _ hS1 => k Ω p l e R s m args below meth c cells slots Q C H1 locs1 ls (by rw [← heq]; exact hP1) hS1 hL)
  · exact va_putN (D := Ω.2.1) C.1 C.2.1 C.2.2.2.2.1 hin ty0 hty0 hnm C.2.2.2.1 C.2.2.2.2.2.2.1.1 hP hD hS q he hc f hk ((C.2.2.2.2.2.2.1.2.2.2.2 _ g1).use rfl) (fun x h => by rw [← hsm]; exact h) hfin hdsc hn hfit hlen' hd (fun H1 locs1 hP1 _ hS1 => k Ω p l e R s m args below meth c cells slots Q C H1 locs1 ls (by rw [← heq]; exact hP1) hS1 hL)
/-- the field f of the class ci is an int (a long) that may be written -/
def putOk (ci f : Nat) (ty : FieldType) : Prop := ∀ C T N, classes[ci]? = some (C, T, N) → (T f).2.2.2 = false ∧ parseFieldDescriptor (T f).2.2.1 = some ty
theorem putOk_of {ci f : Nat} {ty : FieldType} {C : String} {T : u_T} {N : Nat} (hc : classes[ci]? = some (C, T, N)) (h1 : (T f).2.2.2 = false) (h2 : parseFieldDescriptor (T f).2.2.1 = some ty) : putOk ci f ty := by
  intro C' T' N' h
  rw [hc] at h
  cases h
  exact ⟨h1, h2⟩
theorem wp_putI {q ci f idx : Nat} {fs : List (Option (Option Nat))} {v : Int32} (hd : decode M.2.1 pc = .ok (.putfield idx, 3)) (hf : Fld M.1.cls idx ci f) (hw : putOk ci f .int) (hq : q < 61) (hs : shp q = .inr (ci, fs)) (ht : fs[f]? = some none) (k : Wp M d Post (pc + 3) lv st (setI hi q f v) hl) : Wp M d Post pc lv (.int v :: .ref q :: st) hi hl :=
  wp_putV hd hf hq hs (List.getElem?_eq_some_iff.mp ht).1 hw rfl rfl (fun _ => rfl) (fun α t h => by rw [ht] at h; cases h; simp [fval, setI_at]) (fun j hj => ⟨setI_at_ne hi q v hj, rfl⟩) (fun j hj => ⟨setI_ne hi f v hj, rfl⟩) k
theorem wp_putJ {q ci f idx : Nat} {fs : List (Option (Option Nat))} {v : Int64} (hd : decode M.2.1 pc = .ok (.putfield idx, 3)) (hf : Fld M.1.cls idx ci f) (hw : putOk ci f .long) (hq : q < 61) (hs : shp q = .inr (ci, fs)) (ht : fs[f]? = some (some none)) (k : Wp M d Post (pc + 3) lv st hi (setL hl q f v)) : Wp M d Post pc lv (.long v :: .ref q :: st) hi hl :=
  wp_putV hd hf hq hs (List.getElem?_eq_some_iff.mp ht).1 hw rfl rfl (fun _ => rfl) (fun α t h => by rw [ht] at h; cases h; simp [fval, setL_at]) (fun j hj => ⟨rfl, setL_at_ne hl q v hj⟩) (fun j hj => ⟨rfl, setL_ne hl f v hj⟩) k
/-! arrays -/
theorem in_n {j n : Nat} {ix : Int32} (hix : ix = nI j) (hj : j < n) (hn : n ≤ 384) : vp_in ix n ∧ ix.toNatClampNeg = j := by
  subst hix
  exact ⟨vp_in_nI hj (by omega), nI_clamp (by omega)⟩
theorem wp_iald {q n j : Nat} {ix : Int32} (hd : decode M.2.1 pc = .ok (.iaload, 1)) (hq : q < 61) (hs : shp q = .inl (0, n)) (hn : n ≤ 384) (hix : ix = nI j) (hj : j < n) (k : Wp M d Post (pc + 1) lv (.int (hi q j) :: st) hi hl) : Wp M d Post pc lv (.int ix :: .ref q :: st) hi hl := by
  intro Ω p l e R s m args below meth c cells slots Q C H locs ls hP hS hL
  obtain ⟨h1, h2⟩ := in_n hix hj hn
  have he : (wcells Ω hi hl)[q]? = some (Ω.1 q, .inl (Ω.2.2 0, n, .inl (hi q))) := by rw [wcells_at Ω hi hl hq, hs]; rfl
  refine va_iald C.1 C.2.1 C.2.2.2.2.2.2.1.1 hP q 0 he rfl h1 hd ?_
  rw [h2]
  exact k Ω p l e R s m args below meth c cells slots Q C H locs ls hP hS hL
theorem wp_bald {q n j : Nat} {ix : Int32} (hd : decode M.2.1 pc = .ok (.baload, 1)) (hq : q < 61) (hs : shp q = .inl (1, n)) (hn : n ≤ 384) (hix : ix = nI j) (hj : j < n) (k : Wp M d Post (pc + 1) lv (.int (hi q j) :: st) hi hl) : Wp M d Post pc lv (.int ix :: .ref q :: st) hi hl := by
  intro Ω p l e R s m args below meth c cells slots Q C H locs ls hP hS hL
  obtain ⟨h1, h2⟩ := in_n hix hj hn
  have he : (wcells Ω hi hl)[q]? = some (Ω.1 q, .inl (Ω.2.2 1, n, .inl (hi q))) := by rw [wcells_at Ω hi hl hq, hs]; rfl
  refine va_bald C.1 C.2.1 C.2.2.2.2.2.2.1.1 hP q 1 he rfl h1 hd ?_
  rw [h2]
  exact k Ω p l e R s m args below meth c cells slots Q C H locs ls hP hS hL
theorem wp_zald {q n j : Nat} {ix : Int32} (hd : decode M.2.1 pc = .ok (.baload, 1)) (hq : q < 61) (hs : shp q = .inl (2, n)) (hn : n ≤ 384) (hix : ix = nI j) (hj : j < n) (k : Wp M d Post (pc + 1) lv (.int (hi q j) :: st) hi hl) : Wp M d Post pc lv (.int ix :: .ref q :: st) hi hl := by
  intro Ω p l e R s m args below meth c cells slots Q C H locs ls hP hS hL
  obtain ⟨h1, h2⟩ := in_n hix hj hn
  have he : (wcells Ω hi hl)[q]? = some (Ω.1 q, .inl (Ω.2.2 2, n, .inl (hi q))) := by rw [wcells_at Ω hi hl hq, hs]; rfl
  refine va_zald C.1 C.2.1 C.2.2.2.2.2.2.1.1 hP q 2 he rfl h1 hd ?_
  rw [h2]
  exact k Ω p l e R s m args below meth c cells slots Q C H locs ls hP hS hL
theorem wp_iast {q n j : Nat} {ix x : Int32} (hd : decode M.2.1 pc = .ok (.iastore, 1)) (hq : q < 61) (hs : shp q = .inl (0, n)) (hn : n ≤ 384) (hix : ix = nI j) (hj : j < n) (k : Wp M d Post (pc + 1) lv st (setI hi q j x) hl) : Wp M d Post pc lv (.int x :: .int ix :: .ref q :: st) hi hl := by
  intro Ω p l e R s m args below meth c cells slots Q C H locs ls hP hS hL
  obtain ⟨h1, h2⟩ := in_n hix hj hn
  have he : (wcells Ω hi hl)[q]? = some (Ω.1 q, .inl (Ω.2.2 0, n, .inl (hi q))) := by rw [wcells_at Ω hi hl hq, hs]; rfl
  refine va_iast C.1 C.2.1 C.2.2.2.2.2.2.1.1 hP (wD C.2.2.2.2.2.2.1.2.1 hi hl) hS q 0 he rfl h1 hd (fun H1 locs1 hP1 _ hS1 => ?_)
  rw [h2, wcells_set Ω (hi' := setI hi q j x) (hl' := hl) hq (by rw [hs, setI_same]; rfl) (fun i hij => ⟨setI_ne hi j _ hij, rfl⟩)] at hP1
  exact k Ω p l e R s m args below meth c cells slots Q C H1 locs1 ls hP1 hS1 hL
theorem wp_bast {q n j : Nat} {ix x : Int32} (hd : decode M.2.1 pc = .ok (.bastore, 1)) (hq : q < 61) (hs : shp q = .inl (1, n)) (hn : n ≤ 384) (hix : ix = nI j) (hj : j < n) (k : Wp M d Post (pc + 1) lv st (setI hi q j (vp_nar .byte x)) hl) : Wp M d Post pc lv (.int x :: .int ix :: .ref q :: st) hi hl := by
  intro Ω p l e R s m args below meth c cells slots Q C H locs ls hP hS hL
  obtain ⟨h1, h2⟩ := in_n hix hj hn
  have he : (wcells Ω hi hl)[q]? = some (Ω.1 q, .inl (Ω.2.2 1, n, .inl (hi q))) := by rw [wcells_at Ω hi hl hq, hs]; rfl
  refine va_bast C.1 C.2.1 C.2.2.2.2.2.2.1.1 hP (wD C.2.2.2.2.2.2.1.2.1 hi hl) hS q 1 he rfl h1 hd (fun H1 locs1 hP1 _ hS1 => ?_)
  rw [h2, wcells_set Ω (hi' := setI hi q j (vp_nar .byte x)) (hl' := hl) hq (by rw [hs, setI_same]; rfl) (fun i hij => ⟨setI_ne hi j _ hij, rfl⟩)] at hP1
  exact k Ω p l e R s m args below meth c cells slots Q C H1 locs1 ls hP1 hS1 hL
theorem wp_zast {q n j : Nat} {ix x : Int32} (hd : decode M.2.1 pc = .ok (.bastore, 1)) (hq : q < 61) (hs : shp q = .inl (2, n)) (hn : n ≤ 384) (hix : ix = nI j) (hj : j < n) (k : Wp M d Post (pc + 1) lv st (setI hi q j (vp_nar .boolean x)) hl) : Wp M d Post pc lv (.int x :: .int ix :: .ref q :: st) hi hl := by
  intro Ω p l e R s m args below meth c cells slots Q C H locs ls hP hS hL
  obtain ⟨h1, h2⟩ := in_n hix hj hn
  have he : (wcells Ω hi hl)[q]? = some (Ω.1 q, .inl (Ω.2.2 2, n, .inl (hi q))) := by rw [wcells_at Ω hi hl hq, hs]; rfl
  refine va_zast C.1 C.2.1 C.2.2.2.2.2.2.1.1 hP (wD C.2.2.2.2.2.2.1.2.1 hi hl) hS q 2 he rfl h1 hd (fun H1 locs1 hP1 _ hS1 => ?_)
  rw [h2, wcells_set Ω (hi' := setI hi q j (vp_nar .boolean x)) (hl' := hl) hq (by rw [hs, setI_same]; rfl) (fun i hij => ⟨setI_ne hi j _ hij, rfl⟩)] at hP1
  exact k Ω p l e R s m args below meth c cells slots Q C H1 locs1 ls hP1 hS1 hL
theorem wp_lald {q n j : Nat} {ix : Int32} (hd : decode M.2.1 pc = .ok (.laload, 1)) (hq : q < 61) (hs : shp q = .inl (3, n)) (hn : n ≤ 384) (hix : ix = nI j) (hj : j < n) (k : Wp M d Post (pc + 1) lv (.long (hl q j) :: st) hi hl) : Wp M d Post pc lv (.int ix :: .ref q :: st) hi hl := by
  intro Ω p l e R s m args below meth c cells slots Q C H locs ls hP hS hL
  obtain ⟨h1, h2⟩ := in_n hix hj hn
  have he : (wcells Ω hi hl)[q]? = some (Ω.1 q, .inl (Ω.2.2 3, n, .inr (.inl (hl q)))) := by rw [wcells_at Ω hi hl hq, hs]; rfl
  refine va_lald C.1 C.2.1 C.2.2.2.2.2.2.1.1 hP q 3 he rfl h1 hd ?_
  rw [h2]
  exact k Ω p l e R s m args below meth c cells slots Q C H locs ls hP hS hL
theorem wp_last {q n j : Nat} {ix : Int32} {x : Int64} (hd : decode M.2.1 pc = .ok (.lastore, 1)) (hq : q < 61) (hs : shp q = .inl (3, n)) (hn : n ≤ 384) (hix : ix = nI j) (hj : j < n) (k : Wp M d Post (pc + 1) lv st hi (setL hl q j x)) : Wp M d Post pc lv (.long x :: .int ix :: .ref q :: st) hi hl := by
  intro Ω p l e R s m args below meth c cells slots Q C H locs ls hP hS hL
  obtain ⟨h1, h2⟩ := in_n hix hj hn
  have he : (wcells Ω hi hl)[q]? = some (Ω.1 q, .inl (Ω.2.2 3, n, .inr (.inl (hl q)))) := by rw [wcells_at Ω hi hl hq, hs]; rfl
  refine va_last C.1 C.2.1 C.2.2.2.2.2.2.1.1 hP (wD C.2.2.2.2.2.2.1.2.1 hi hl) hS q 3 he rfl h1 hd (fun H1 locs1 hP1 _ hS1 => ?_)
  rw [h2, wcells_set Ω (hi' := hi) (hl' := setL hl q j x) hq (by rw [hs, setL_same]; rfl) (fun i hij => ⟨rfl, setL_ne hl j _ hij⟩)] at hP1
  exact k Ω p l e R s m args below meth c cells slots Q C H1 locs1 ls hP1 hS1 hL
theorem wp_aald {j r : Nat} {ix : Int32} (hd : decode M.2.1 pc = .ok (.aaload, 1)) (hix : ix = nI j) (hj : j < 2) (hr : slotRef j = some r) (k : Wp M d Post (pc + 1) lv (.ref r :: st) hi hl) : Wp M d Post pc lv (.int ix :: .ref 39 :: st) hi hl := by
  intro Ω p l e R s m args below meth c cells slots Q C H locs ls hP hS hL
  obtain ⟨h1, h2⟩ := in_n hix hj (by omega)
  have he : (wcells Ω hi hl)[39]? = some (Ω.1 39, .inl (Ω.2.2 4, 2, .inr (.inr (.inr (.inr (fun i => (slotRef i).map Ω.1)))))) := by rw [wcells_at Ω hi hl (by omega)]; rfl
  refine va_aldq C.1 C.2.1 C.2.2.2.2.2.2.1.1 hP 39 4 he rfl h1 hd ?_
  rw [h2, hr]
  exact k Ω p l e R s m args below meth c cells slots Q C H locs ls hP hS hL
/-- the static table of figures -/
theorem wp_gets {idx : Nat} (hd : decode M.2.1 pc = .ok (.getstatic idx, 3)) (hw : Cond.fieldLink M.1.cls idx "BlownByAll$SeatPlan" "FIGURE_OF" "[I" ∈ gtbl) (k : Wp M d Post (pc + 3) lv (.ref 100 :: st) hi hl) : Wp M d Post pc lv st hi hl := fun Ω p l e R s m args below meth c cells slots Q C H locs ls hP hS hL =>
  va_gets C.1 C.2.1 C.2.2.2.2.2.2.1.2.2.1 hS C.2.2.2.1 (C.2.2.2.2.1 _ hw) (fun _ h => h) hd (k Ω p l e R s m args below meth c cells slots Q C H locs ls hP hS hL)
theorem wp_tald {j : Nat} {ix v : Int32} (hd : decode M.2.1 pc = .ok (.iaload, 1)) (hix : ix = nI j) (hj : j < 6) (hv : figs j = .int v) (k : Wp M d Post (pc + 1) lv (.int v :: st) hi hl) : Wp M d Post pc lv (.int ix :: .ref 100 :: st) hi hl := fun Ω p l e R s m args below meth c cells slots Q C H locs ls hP hS hL => by
  obtain ⟨h1, h2⟩ := in_n (n := 6) hix hj (by omega)
  exact va_ti C.1 C.2.1 C.2.2.2.2.2.2.1.2.2.2.1 hS h1 (by rw [h2]; exact hv) hd (k Ω p l e R s m args below meth c cells slots Q C H locs ls hP hS hL)
/-! returns -/
theorem wp_iret {v : Int32} (hd : decode M.2.1 pc = .ok (.ireturn, 1)) (ho : bOkI M.2.2.2 v) (hp : Post (some (.int v)) hi hl) : Wp M d Post pc lv [.int v] hi hl := fun Ω p l e R s m args below meth c cells slots Q C H locs ls hP hS hL => (C.2.2.2.2.2.2.2 pc ls hi hl H locs hP hS).1 v hd ho hp
theorem wp_lret {v : Int64} (hd : decode M.2.1 pc = .ok (.lreturn, 1)) (ho : M.2.2.2 = some .long) (hp : Post (some (.long v)) hi hl) : Wp M d Post pc lv [.long v] hi hl := fun Ω p l e R s m args below meth c cells slots Q C H locs ls hP hS hL => (C.2.2.2.2.2.2.2 pc ls hi hl H locs hP hS).2.1 v hd ho hp
theorem wp_vret (hd : decode M.2.1 pc = .ok (.return_, 1)) (ho : M.2.2.2 = none) (hp : Post none hi hl) : Wp M d Post pc lv [] hi hl := fun Ω p l e R s m args below meth c cells slots Q C H locs ls hP hS hL => (C.2.2.2.2.2.2.2 pc ls hi hl H locs hP hS).2.2 hd ho hp
end WP2
end
section
/-! CONTRACTS over the judgement, and calls by them -/
def rmD (d : Nat) : Room := { frames := d, cells := 0, slots := 0, locals := 64 * d }
def wsM (M : MD) : List Cond := .code M.1 M.2.1 M.2.2.1 M.2.2.2 :: gtbl
def PcM (Ω : Om) (as : List Value) (hi : HI) (hl : HL) : Array Value → State → Prop := fun v U => v = (trs Ω as).toArray ∧ va_P Ω.2.1 classes (wcells Ω hi hl) U.heap ∧ bK Ω U
def QcM (Ω : Om) (Post : Option Value → HI → HL → Prop) : Array Value → State → Outcome → State → Prop := fun _ st o t => (∃ (v : Option Value) (hi' : HI) (hl' : HL), o = .returned (v.map (trv Ω)) ∧ Post v hi' hl' ∧ va_P Ω.2.1 classes (wcells Ω hi' hl') t.heap) ∧ va_F (inA Ω) st t
/-- M, called with these arguments and contents, and with room for d calls one in another, returns with Post -/
def Ct (M : MD) (d : Nat) (as : List Value) (hi : HI) (hl : HL) (Post : Option Value → HI → HL → Prop) : Prop := ∀ (l : Launch) (Ω : Om), Met l M.1 (wsM M) (rmD d) (PcM Ω as hi hl) (QcM Ω Post) 0 0 (inA Ω)
theorem met_ofWF {l : Launch} {y : MethodName} {ws ws' : List Cond} {rm : Room} {Pc : Array Value → State → Prop} {Qc : Array Value → State → Outcome → State → Prop} {mc ms : Nat} {free : Addr → Prop} {cc : ByteArray} {maxL : Nat} {ret : Option FieldType}
    (hy : plainFor y = true) (hw : ws = Cond.code y cc maxL ret :: ws')
    (body : ∀ p e s m args below meth c s₁, BodyLoose p l y (headSpec ws rm) cc maxL ret e s m args below meth c s₁ → c.maxLocals = maxL → Pc args s →
      W p l e (headSpec ws rm).room s m args below meth c s.heap [] 0 0 (MQ below Qc args s mc ms free) (entryFrame m args maxL)) : Met l y ws rm Pc Qc mc ms free := by
  refine MetFree.of_bodySF (code := cc) (maxLocals := maxL) (ret := ret) hy ?_ ?_
  · intro args s m h hn
    obtain ⟨meth, c, h1, h2, h3, h4, h5, h6, -, -⟩ := Cond.code_spec hn (atoms_spec (ws := ws) h _ (by rw [hw]; exact List.mem_cons_self))
    exact ⟨meth, c, h1, h2, h3, h4, h5, h6⟩
  · intro p e s m args below meth c s₁ B hml hP _
    have hh0 : s₁.heap = s.heap := by rw [B.state]; rfl
    obtain ⟨t, a1, o, b1, b2, b3⟩ := body p e s m args below meth c s₁ B hml hP s₁ hh0 (Stand.of_body B)
    exact ⟨t, o, a1, b1, b2, ⟨b3.1, b3.2⟩⟩
def lv0a : List Value → LV
  | [] => []
  | .long x :: vs => some (.long x) :: none :: lv0a vs
  | .double x :: vs => some (.double x) :: none :: lv0a vs
  | v :: vs => some v :: lv0a vs
def lv0 (n : Nat) (as : List Value) : LV := lv0a as ++ List.replicate (n - (lv0a as).length) none
theorem lv0a_cat (v : Value) (vs : List Value) : lv0a (v :: vs) = if v.category = 2 then some v :: none :: lv0a vs else some v :: lv0a vs := by cases v <;> rfl
theorem lv0a_mem (Ω : Om) : ∀ (as : List Value) (b i : Nat) (v : Value), (lv0a as)[i]? = some (some v) → (b + i, trv Ω v) ∈ lv_args b (trs Ω as)
  | [], b, i, v, h => by simp [lv0a] at h
  | w :: as, b, i, v, h => by
    rw [lv0a_cat] at h
    show (b + i, trv Ω v) ∈ (b, trv Ω w) :: lv_args (if (trv Ω w).category = 2 then b + 2 else b + 1) (trs Ω as)
    rw [trv_cat]
    by_cases hc : w.category = 2
    · rw [if_pos hc] at h ⊢
      match i, h with
      | 0, h => simp at h; subst h; exact List.mem_cons_self
      | 1, h => simp at h
      | i + 2, h =>
        have := lv0a_mem Ω as (b + 2) i v (by simpa using h)
        rw [show b + (i + 2) = b + 2 + i by omega]
        exact List.mem_cons_of_mem _ this
    · rw [if_neg hc] at h ⊢
      match i, h with
      | 0, h => simp at h; subst h; exact List.mem_cons_self
      | i + 1, h =>
        have := lv0a_mem Ω as (b + 1) i v (by simpa using h)
        rw [show b + (i + 1) = b + 1 + i by omega]
        exact List.mem_cons_of_mem _ this
theorem lv0_mem (Ω : Om) {n : Nat} {as : List Value} {i : Nat} {v : Value} (h : (lv0 n as)[i]? = some (some v)) : (i, trv Ω v) ∈ lv_args 0 (trs Ω as) := by
  have h1 : (lv0a as)[i]? = some (some v) := by
    unfold lv0 at h
    by_cases hi : i < (lv0a as).length
    · rwa [List.getElem?_append_left hi] at h
    · rw [List.getElem?_append_right (by omega)] at h
      have := List.eq_of_mem_replicate (List.mem_of_getElem? h)
      cases this
  have := lv0a_mem Ω as 0 i v h1
  rwa [Nat.zero_add] at this
theorem nar_b {v : Int32} (h : v = 0 ∨ v = 1) : narrow .boolean (.int v) = .int v := by rcases h with rfl | rfl <;> rfl
theorem slot_len (Ω : Om) (as : List Value) : (lg_sl (trs Ω as)).length = (lg_sl as).length := by
  induction as with
  | nil => rfl
  | cons v vs ih =>
    simp only [lg_sl, trs, List.map_cons, List.flatMap_cons, List.length_append, trv_cat] at ih ⊢
    rw [ih]
    congr 1
    by_cases hc : v.category = 2 <;> simp [hc]
/-- a contract out of the walk of the body -/
theorem ct_intro {M : MD} {d : Nat} {as : List Value} {hi : HI} {hl : HL} {Post : Option Value → HI → HL → Prop} {lv : LV} (hy : plainFor M.1 = true) (hlen : (lg_sl as).length ≤ M.2.2.1) (hlv : lv0 M.2.2.1 as = lv) (h : Wp M d Post 0 lv [] hi hl) : Ct M d as hi hl Post := by
  intro l Ω
  subst hlv
  refine met_ofWF (cc := M.2.1) (maxL := M.2.2.1) (ret := M.2.2.2) hy rfl ?_
  intro p e s m args below meth c s₁ B hml hv
  obtain ⟨rfl, hP, hK⟩ := hv
  have hts : ∀ w ∈ wsM M, w.before (trs Ω as).toArray s = true := atoms_spec (ws := wsM M) B.pre
  have hlocks := B.notSynchronized
  have hx := B.exec
  have hb := B.bytes
  have hr := B.returns
  rw [lg_entry_eq]
  have hl0 := lv_entry (trs Ω as) (n := M.2.2.1) (by rw [slot_len]; exact hlen)
  refine h Ω p l e _ s m _ below meth c 0 0 _ ⟨hx, hb, hml, findClass_of_methodNamed B.named, fun w hw => hts w (List.mem_cons_of_mem _ hw), ⟨Nat.le_refl _, Nat.le_refl _, Nat.zero_le _, Nat.zero_le _⟩, hK, ?_⟩ s.heap [] _ hP va_S.rf ⟨hl0.1, hl0.2.1, fun i v hi => hl0.2.2 (i, trv Ω v) (lv0_mem Ω hi)⟩
  intro pc ls hi' hl' H locs hP' hS'
  refine ⟨fun v hd ho hp => ?_, fun v hd ho hp => ?_, fun hd ho hp => ?_⟩
  · rcases ho with ho | ⟨ho, hv⟩
    · exact W.iret (v := v) hx hb (by rw [hr]; exact ho) (fun t ht hW => ⟨⟨some (.int v), hi', hl', rfl, hp, by rw [ht]; exact hP'⟩, hS'.F ht⟩) hS'.2.2 hd
    · exact W.zret (v := v) hx hb (by rw [hr]; exact ho) (nar_b hv) (fun t ht hW => ⟨⟨some (.int v), hi', hl', rfl, hp, by rw [ht]; exact hP'⟩, hS'.F ht⟩) hS'.2.2 hd
  · exact W.lret (v := v) hx hb (by rw [hr]; exact ho) (fun t ht hW => ⟨⟨some (.long v), hi', hl', rfl, hp, by rw [ht]; exact hP'⟩, hS'.F ht⟩) hS'.2.2 hd
  · exact W.vret hx hb (by rw [hr]; exact ho) (fun t ht hW => ⟨⟨none, hi', hl', rfl, hp, by rw [ht]; exact hP'⟩, hS'.F ht⟩) hS'.2.2 hd
theorem ct_conseq {M : MD} {d : Nat} {as : List Value} {hi : HI} {hl : HL} {Post Post' : Option Value → HI → HL → Prop} (h : Ct M d as hi hl Post) (hp : ∀ v hi hl, Post v hi hl → Post' v hi hl) : Ct M d as hi hl Post' := fun l Ω =>
  MetFree.mono (h l Ω) (fun _ _ h => h) (fun _ _ _ _ _ h => h) (fun _ _ _ _ _ hq => ⟨⟨hq.1.1.imp fun v ⟨hi', hl', h1, h2, h3⟩ => ⟨hi', hl', h1, hp _ _ _ h2, h3⟩, hq.1.2⟩, hq.2⟩)
theorem tbl_in {ws : List Cond} (h : ∀ w ∈ ws, w ∈ gtbl) : GoodIn gtbl ws := fun w hw => ⟨h w hw, good_of_word (List.mem_filter.mp (h w hw)).2⟩
def CallV (own : String) (idx : Nat) (My : MD) (n : Nat) : Prop := Cond.methodLink own idx My.1 ∈ gtbl ∧ Cond.instanceMethod My.1 ∈ gtbl ∧ Cond.selects My.1.cls My.1 My.1 ∈ gtbl ∧ Cond.initialized My.1.cls ∈ gtbl ∧ Cond.code My.1 My.2.1 My.2.2.1 My.2.2.2 ∈ gtbl ∧
  (My.1.cls ≠ "java/lang/invoke/MethodHandle" ∧ My.1.cls ≠ "java/lang/invoke/VarHandle" ∧ (parseMethodDescriptor My.1.desc).map (fun d => d.parameters.length) = some n) ∧ My.2.2.1 ≤ 45
def CallS (own : String) (idx : Nat) (My : MD) (n : Nat) : Prop := Cond.methodLink own idx My.1 ∈ gtbl ∧ Cond.static My.1 ∈ gtbl ∧ Cond.initialized My.1.cls ∈ gtbl ∧ Cond.code My.1 My.2.1 My.2.2.1 My.2.2.2 ∈ gtbl ∧
  (My.1.cls ≠ "java/lang/invoke/MethodHandle" ∧ My.1.cls ≠ "java/lang/invoke/VarHandle" ∧ (parseMethodDescriptor My.1.desc).map (fun d => d.parameters.length) = some n) ∧ My.2.2.1 ≤ 45
theorem nest_warm {s U : State} (hW : s.WarmedH U.vm) (h : ∀ w ∈ nests, va_Nw w s) : ∀ w ∈ nests, va_Nw w U := by
  intro w hw
  have h1 := h w hw
  have h2 := (List.mem_filter.mp hw).2
  cases w <;> first | exact va_Nw.warmF hW h1 | (simp [isNestW] at h2; done)
theorem nest_same {s U : State} (hv : s.vm = U.vm) (h : ∀ w ∈ nests, va_Nw w s) : ∀ w ∈ nests, va_Nw w U := by
  intro w hw
  have h1 := h w hw
  have h2 := (List.mem_filter.mp hw).2
  cases w <;> first | exact va_Nw.same rfl hv h1 | (simp [isNestW] at h2; done)
theorem bK_at {Ω : Om} {s U : State} {H : Heap} {locs : List Loc} (h : bK Ω s) (hS : va_S (inA Ω) s.heap H locs) (hU : U.heap = H) (hW : s.WarmedH U.vm) : bK Ω U := by
  obtain ⟨h1, h2, h3, h4, h5⟩ := h
  refine ⟨va_K.moved hW.alike h1, h2, ?_, ?_, nest_warm hW h5⟩
  · rw [hU]; exact (h3.kept hS.2.1).moved hW.alike
  · rw [hU]; exact (h4.kept hS.2.1).moved hW.alike
theorem blindM (Ω : Om) (as : List Value) (hi : HI) (hl : HL) : FrameBlind (PcM Ω as hi hl) := by
  intro a U g mk q
  obtain ⟨q0, qP, q1, q2, q3, q4, q5⟩ := q
  exact ⟨q0, qP, va_K.moved (u := U) (U := U.calling g mk a) (Vm.Alike.refl U.vm) q1, q2, va_Z.moved (u := U) (U := U.calling g mk a) (Vm.Alike.refl U.vm) q3, va_T.moved (u := U) (U := U.calling g mk a) (Vm.Alike.refl U.vm) q4, nest_same (s := U) (U := U.calling g mk a) rfl q5⟩
theorem va_callM {Ω : Om} {p : Program} {l : Launch} {e : Env} {R : Room} {s : State} {m : MethodId} {args : Array Value} {below : List Frame} {meth : Method} {c : Code} {H : Heap} {locs : List Loc} {cells slots pc : Nat} {ls : Array Slot} {rest st0 : List Value} {a : Array Value} {Q : State → Prop} {Post : Option Value → HI → HL → Prop}
    (hr : va_Run p l e R s m args below meth c H locs cells slots 0 0 (F0 m pc ls st0) rest (QcM Ω Post a) (inA Ω)) (hS : va_S (inA Ω) s.heap H locs)
    (kk : ∀ (v : Option Value) (hi' : HI) (hl' : HL) (H1 : Heap) (locs1 : List Loc), Post v hi' hl' → va_P Ω.2.1 classes (wcells Ω hi' hl') H1 → va_S (inA Ω) s.heap H1 locs1 → W p l e R s m args below meth c H1 locs1 cells slots Q (F0 m (pc + 3) ls ((v.map (trv Ω)).toList ++ rest))) : W p l e R s m args below meth c H locs cells slots Q (F0 m pc ls st0) := by
  intro T hT X
  obtain ⟨v, st₀, t, T', L, h0, X', hL, e1, e2, ⟨⟨v', hi', hl', hv, hp, hP⟩, hz, hk⟩, st⟩ := hr T hT X
  cases hv
  rw [h0] at hz hk
  obtain ⟨t2, a1, b1⟩ := kk v' hi' hl' T'.heap (locs ++ L) hp (by rw [e1]; exact hP)
    ⟨Nat.le_trans hS.1 (by rw [e1]; exact hz), fun q h1 h2 => by rw [e1, hk q (Nat.lt_of_lt_of_le h1 hS.1) h2]; exact hS.2.1 q h1 h2, fun q hq => by
      rcases List.mem_append.mp hq with h | h
      · exact hS.2.2 q h
      · exact hL q h⟩ T' rfl X'
  exact ⟨t2, st t2 a1, b1⟩
theorem cat_sum (Ω : Om) (st : List Value) : ((trs Ω st).map fun v => v.category).sum = (st.map fun v => v.category).sum := by
  rw [show (trs Ω st).map (fun v => v.category) = st.map (fun v => v.category) from by simp [trs, trv_cat]]
theorem ret_trs (Ω : Om) (v : Option Value) (st : List Value) : (v.map (trv Ω)).toList ++ trs Ω st = trs Ω (v.toList ++ st) := by cases v <;> simp [trs]
theorem wp_callV {M My : MD} {d d' : Nat} {Post Post' : Option Value → HI → HL → Prop} {pc idx n q ci : Nat} {lv : LV} {as st stk : List Value} {hi : HI} {hl : HL} {fs : List (Option (Option Nat))} {T : u_T} {N : Nat}
    (hct : Ct My d' (.ref q :: as) hi hl Post') (hd : decode M.2.1 pc = .ok (.invokevirtual idx, 3)) (hc : CallV M.1.cls idx My n) (hq : q < 61) (hs : shp q = .inr (ci, fs)) (hcl : classes[ci]? = some (My.1.cls, T, N)) (hst : stk = as.reverse ++ (.ref q :: st)) (hn : as.length = n) (hcat : (st.map fun v => v.category).sum ≤ 8) (hdd : d' < d)
    (k : ∀ v hi' hl', Post' v hi' hl' → Wp M d Post (pc + 3) lv (v.toList ++ st) hi' hl') : Wp M d Post pc lv stk hi hl := by
  intro Ω p l e R s m args below meth c cells slots Q C H locs ls hP hS hL
  have C0 := C
  obtain ⟨hx, hb, hml, hown, hts, ⟨r1, r2, r3, r4⟩, hK, -⟩ := C
  obtain ⟨k1, k2, k3, k4, k5, k6, k7⟩ := hc
  have he : (wcells Ω hi hl)[q]? = some (Ω.1 q, .inr (ci, fvals Ω.1 (hi q) (hl q) 0 fs)) := by rw [wcells_at Ω hi hl hq, hs]; rfl
  have hG : GoodIn gtbl (wsV M.1.cls idx My.1.cls My.1 (wsM My)) := tbl_in (by
    intro w hw
    simp only [wsV, wsM, List.mem_append, List.mem_cons, List.not_mem_nil, or_false] at hw
    rcases hw with (rfl | rfl | rfl | rfl) | rfl | hw
    · exact k1
    · exact k2
    · exact k3
    · exact k4
    · exact k5
    · exact hw)
  have hrun := va_runV (e := e) (below := below) (meth := meth) (g := F0 m pc ls (trs Ω stk)) (As := trs Ω as) (rest := trs Ω st) (cc := M.2.1) (b := Ω.1 q) ⟨hx, hb, hml, hown, hts⟩ (hct l Ω) (cwV n hts hG rfl rfl rfl ⟨rfl, k6⟩ ⟨by show d' + 1 ≤ R.frames; omega, by show 8 + (My.2.2.1 + 11) + 64 * d' ≤ R.locals; omega⟩)
    (locs := locs) (cells := cells) (slots := slots) (H := H) ⟨blindM Ω _ hi hl, va_recv hK.1 hP hcl he, fun U hU hW => ⟨rfl, by rw [hU]; exact hP, bK_at hK hS hU hW⟩⟩ rfl (by rw [List.length_map]; exact hn) hL.1 (by rw [hst]; show List.map (trv Ω) (as.reverse ++ (.ref q :: st)) = _; simp [trs]; rfl) (lv_room (by rw [cat_sum]; exact hcat)) hd ⟨r3, r4⟩
  refine va_callM hrun hS (fun v hi' hl' H1 locs1 hp hP1 hS1 => ?_)
  rw [ret_trs]
  exact k v hi' hl' hp Ω p l e R s m args below meth c cells slots Q C0 H1 locs1 ls hP1 hS1 hL
theorem wp_callS {M My : MD} {d d' : Nat} {Post Post' : Option Value → HI → HL → Prop} {pc idx n : Nat} {lv : LV} {as st stk : List Value} {hi : HI} {hl : HL}
    (hct : Ct My d' as hi hl Post') (hd : decode M.2.1 pc = .ok (.invokestatic idx, 3)) (hc : CallS M.1.cls idx My n) (hst : stk = as.reverse ++ st) (hn : as.length = n) (hcat : (st.map fun v => v.category).sum ≤ 8) (hdd : d' < d)
    (k : ∀ v hi' hl', Post' v hi' hl' → Wp M d Post (pc + 3) lv (v.toList ++ st) hi' hl') : Wp M d Post pc lv stk hi hl := by
  intro Ω p l e R s m args below meth c cells slots Q C H locs ls hP hS hL
  have C0 := C
  obtain ⟨hx, hb, hml, hown, hts, ⟨r1, r2, r3, r4⟩, hK, -⟩ := C
  obtain ⟨k1, k2, k4, k5, k6, k7⟩ := hc
  have hG : GoodIn gtbl (va_wsS M.1.cls idx My.1 (wsM My)) := tbl_in (by
    intro w hw
    simp only [va_wsS, wsM, List.mem_append, List.mem_cons, List.not_mem_nil, or_false] at hw
    rcases hw with (rfl | rfl | rfl) | rfl | hw
    · exact k1
    · exact k2
    · exact k4
    · exact k5
    · exact hw)
  have hrun := va_runS (e := e) (below := below) (meth := meth) (g := F0 m pc ls (trs Ω stk)) (As := trs Ω as) (rest := trs Ω st) (cc := M.2.1) ⟨hx, hb, hml, hown, hts⟩ (hct l Ω) (va_cwS n hts hG rfl rfl rfl k6 ⟨by show d' + 1 ≤ R.frames; omega, by show 8 + (My.2.2.1 + 11) + 64 * d' ≤ R.locals; omega⟩)
    (locs := locs) (cells := cells) (slots := slots) (H := H) ⟨blindM Ω _ hi hl, fun U hU hW => ⟨rfl, by rw [hU]; exact hP, bK_at hK hS hU hW⟩⟩ rfl (by rw [List.length_map]; exact hn) hL.1 (by rw [hst]; simp [trs]) (lv_room (by rw [cat_sum]; exact hcat)) hd ⟨r3, r4⟩
  refine va_callM hrun hS (fun v hi' hl' H1 locs1 hp hP1 hS1 => ?_)
  rw [ret_trs]
  exact k v hi' hl' hp Ω p l e R s m args below meth c cells slots Q C0 H1 locs1 ls hP1 hS1 hL
end
section
/-! links: fields, calls, constants -/
theorem g_BP : ∀ w ∈ u_ws R_BP F_BP 6, w ∈ gtbl := gt_sub i_BP (by decide +kernel)
theorem g_MA : ∀ w ∈ u_ws R_MA F_MA 5, w ∈ gtbl := gt_sub i_MA (by decide +kernel)
theorem g_PE : ∀ w ∈ u_ws R_PE F_PE 8, w ∈ gtbl := gt_sub i_PE (by decide +kernel)
theorem g_PH : ∀ w ∈ u_ws R_PH F_PH 9, w ∈ gtbl := gt_sub i_PH (by decide +kernel)
theorem g_PI : ∀ w ∈ u_ws R_PI F_PI 4, w ∈ gtbl := gt_sub i_PI (by decide +kernel)
theorem g_SC : ∀ w ∈ u_ws R_SC F_SC 6, w ∈ gtbl := gt_sub i_SC (by decide +kernel)
theorem g_SE : ∀ w ∈ u_ws R_SE F_SE 5, w ∈ gtbl := gt_sub i_SE (by decide +kernel)
theorem g_SN : ∀ w ∈ u_ws R_SN F_SN 6, w ∈ gtbl := gt_sub i_SN (by decide +kernel)
theorem g_BB : ∀ w ∈ u_ws R_BB F_BB 10, w ∈ gtbl := gt_sub i_BB (by decide +kernel)
theorem g_MO : ∀ w ∈ u_ws R_MO F_MO 31, w ∈ gtbl := gt_sub i_MO (by decide +kernel)
theorem f_SC_9 : Fld "BlownByAll$Script" 9 5 0 := ⟨R_SC, F_SC, 6, t_SC, rfl, by decide, g_SC, t_SC_ok, n_SC, Or.inl (gt_in 67 (by decide +kernel) rfl), rfl⟩
theorem f_SC_15 : Fld "BlownByAll$Script" 15 5 1 := ⟨R_SC, F_SC, 6, t_SC, rfl, by decide, g_SC, t_SC_ok, n_SC, Or.inl (gt_in 68 (by decide +kernel) rfl), rfl⟩
theorem f_BB_226 : Fld "BlownByAll" 226 5 1 := ⟨R_SC, F_SC, 6, t_SC, rfl, by decide, g_SC, t_SC_ok, n_SC, Or.inr ⟨"BlownByAll", ne_in 69 (by decide +kernel) rfl⟩, rfl⟩
theorem f_SC_19 : Fld "BlownByAll$Script" 19 5 2 := ⟨R_SC, F_SC, 6, t_SC, rfl, by decide, g_SC, t_SC_ok, n_SC, Or.inl (gt_in 70 (by decide +kernel) rfl), rfl⟩
theorem f_PI_22 : Fld "BlownByAll$Pipes" 22 5 3 := ⟨R_SC, F_SC, 6, t_SC, rfl, by decide, g_SC, t_SC_ok, n_SC, Or.inr ⟨"BlownByAll", ne_in 71 (by decide +kernel) rfl⟩, rfl⟩
theorem f_SC_22 : Fld "BlownByAll$Script" 22 5 3 := ⟨R_SC, F_SC, 6, t_SC, rfl, by decide, g_SC, t_SC_ok, n_SC, Or.inl (gt_in 72 (by decide +kernel) rfl), rfl⟩
theorem f_PE_28 : Fld "BlownByAll$People" 28 5 4 := ⟨R_SC, F_SC, 6, t_SC, rfl, by decide, g_SC, t_SC_ok, n_SC, Or.inr ⟨"BlownByAll", ne_in 73 (by decide +kernel) rfl⟩, rfl⟩
theorem f_SC_25 : Fld "BlownByAll$Script" 25 5 4 := ⟨R_SC, F_SC, 6, t_SC, rfl, by decide, g_SC, t_SC_ok, n_SC, Or.inl (gt_in 74 (by decide +kernel) rfl), rfl⟩
theorem f_PI_27 : Fld "BlownByAll$Pipes" 27 5 5 := ⟨R_SC, F_SC, 6, t_SC, rfl, by decide, g_SC, t_SC_ok, n_SC, Or.inr ⟨"BlownByAll", ne_in 75 (by decide +kernel) rfl⟩, rfl⟩
theorem f_SC_28 : Fld "BlownByAll$Script" 28 5 5 := ⟨R_SC, F_SC, 6, t_SC, rfl, by decide, g_SC, t_SC_ok, n_SC, Or.inl (gt_in 76 (by decide +kernel) rfl), rfl⟩
theorem f_PI_18 : Fld "BlownByAll$Pipes" 18 4 0 := ⟨R_PI, F_PI, 4, t_PI, rfl, by decide, g_PI, t_PI_ok, n_PI, Or.inl (gt_in 97 (by decide +kernel) rfl), rfl⟩
theorem f_SE_40 : Fld "BlownByAll$SeatPlan" 40 4 0 := ⟨R_PI, F_PI, 4, t_PI, rfl, by decide, g_PI, t_PI_ok, n_PI, Or.inr ⟨"BlownByAll", ne_in 98 (by decide +kernel) rfl⟩, rfl⟩
theorem f_BB_99 : Fld "BlownByAll" 99 4 0 := ⟨R_PI, F_PI, 4, t_PI, rfl, by decide, g_PI, t_PI_ok, n_PI, Or.inr ⟨"BlownByAll", ne_in 99 (by decide +kernel) rfl⟩, rfl⟩
theorem f_MA_86 : Fld "BlownByAll$Mass" 86 4 0 := ⟨R_PI, F_PI, 4, t_PI, rfl, by decide, g_PI, t_PI_ok, n_PI, Or.inr ⟨"BlownByAll", ne_in 100 (by decide +kernel) rfl⟩, rfl⟩
theorem f_PI_30 : Fld "BlownByAll$Pipes" 30 4 1 := ⟨R_PI, F_PI, 4, t_PI, rfl, by decide, g_PI, t_PI_ok, n_PI, Or.inl (gt_in 101 (by decide +kernel) rfl), rfl⟩
theorem f_MA_39 : Fld "BlownByAll$Mass" 39 4 1 := ⟨R_PI, F_PI, 4, t_PI, rfl, by decide, g_PI, t_PI_ok, n_PI, Or.inr ⟨"BlownByAll", ne_in 102 (by decide +kernel) rfl⟩, rfl⟩
theorem f_BB_195 : Fld "BlownByAll" 195 4 1 := ⟨R_PI, F_PI, 4, t_PI, rfl, by decide, g_PI, t_PI_ok, n_PI, Or.inr ⟨"BlownByAll", ne_in 103 (by decide +kernel) rfl⟩, rfl⟩
theorem f_PI_9 : Fld "BlownByAll$Pipes" 9 4 2 := ⟨R_PI, F_PI, 4, t_PI, rfl, by decide, g_PI, t_PI_ok, n_PI, Or.inl (gt_in 104 (by decide +kernel) rfl), rfl⟩
theorem f_SN_37 : Fld "BlownByAll$Sneezes" 37 4 2 := ⟨R_PI, F_PI, 4, t_PI, rfl, by decide, g_PI, t_PI_ok, n_PI, Or.inr ⟨"BlownByAll", ne_in 105 (by decide +kernel) rfl⟩, rfl⟩
theorem f_MA_63 : Fld "BlownByAll$Mass" 63 4 2 := ⟨R_PI, F_PI, 4, t_PI, rfl, by decide, g_PI, t_PI_ok, n_PI, Or.inr ⟨"BlownByAll", ne_in 106 (by decide +kernel) rfl⟩, rfl⟩
theorem f_BB_107 : Fld "BlownByAll" 107 4 2 := ⟨R_PI, F_PI, 4, t_PI, rfl, by decide, g_PI, t_PI_ok, n_PI, Or.inr ⟨"BlownByAll", ne_in 107 (by decide +kernel) rfl⟩, rfl⟩
theorem f_PI_15 : Fld "BlownByAll$Pipes" 15 4 3 := ⟨R_PI, F_PI, 4, t_PI, rfl, by decide, g_PI, t_PI_ok, n_PI, Or.inl (gt_in 108 (by decide +kernel) rfl), rfl⟩
theorem f_SE_30 : Fld "BlownByAll$SeatPlan" 30 2 0 := ⟨R_PE, F_PE, 8, t_PE, rfl, by decide, g_PE, t_PE_ok, n_PE, Or.inr ⟨"BlownByAll", ne_in 125 (by decide +kernel) rfl⟩, rfl⟩
theorem f_PE_34 : Fld "BlownByAll$People" 34 2 0 := ⟨R_PE, F_PE, 8, t_PE, rfl, by decide, g_PE, t_PE_ok, n_PE, Or.inl (gt_in 126 (by decide +kernel) rfl), rfl⟩
theorem f_MA_33 : Fld "BlownByAll$Mass" 33 2 0 := ⟨R_PE, F_PE, 8, t_PE, rfl, by decide, g_PE, t_PE_ok, n_PE, Or.inr ⟨"BlownByAll", ne_in 127 (by decide +kernel) rfl⟩, rfl⟩
theorem f_BP_54 : Fld "BlownByAll$BribePlan" 54 2 0 := ⟨R_PE, F_PE, 8, t_PE, rfl, by decide, g_PE, t_PE_ok, n_PE, Or.inr ⟨"BlownByAll", ne_in 128 (by decide +kernel) rfl⟩, rfl⟩
theorem f_PH_73 : Fld "BlownByAll$PhasePlan" 73 2 0 := ⟨R_PE, F_PE, 8, t_PE, rfl, by decide, g_PE, t_PE_ok, n_PE, Or.inr ⟨"BlownByAll", ne_in 129 (by decide +kernel) rfl⟩, rfl⟩
theorem f_SN_62 : Fld "BlownByAll$Sneezes" 62 2 0 := ⟨R_PE, F_PE, 8, t_PE, rfl, by decide, g_PE, t_PE_ok, n_PE, Or.inr ⟨"BlownByAll", ne_in 130 (by decide +kernel) rfl⟩, rfl⟩
theorem f_BB_103 : Fld "BlownByAll" 103 2 0 := ⟨R_PE, F_PE, 8, t_PE, rfl, by decide, g_PE, t_PE_ok, n_PE, Or.inr ⟨"BlownByAll", ne_in 131 (by decide +kernel) rfl⟩, rfl⟩
theorem f_PE_37 : Fld "BlownByAll$People" 37 2 1 := ⟨R_PE, F_PE, 8, t_PE, rfl, by decide, g_PE, t_PE_ok, n_PE, Or.inl (gt_in 132 (by decide +kernel) rfl), rfl⟩
theorem f_SE_47 : Fld "BlownByAll$SeatPlan" 47 2 1 := ⟨R_PE, F_PE, 8, t_PE, rfl, by decide, g_PE, t_PE_ok, n_PE, Or.inr ⟨"BlownByAll", ne_in 133 (by decide +kernel) rfl⟩, rfl⟩
theorem f_SN_54 : Fld "BlownByAll$Sneezes" 54 2 1 := ⟨R_PE, F_PE, 8, t_PE, rfl, by decide, g_PE, t_PE_ok, n_PE, Or.inr ⟨"BlownByAll", ne_in 134 (by decide +kernel) rfl⟩, rfl⟩
theorem f_MA_51 : Fld "BlownByAll$Mass" 51 2 1 := ⟨R_PE, F_PE, 8, t_PE, rfl, by decide, g_PE, t_PE_ok, n_PE, Or.inr ⟨"BlownByAll", ne_in 135 (by decide +kernel) rfl⟩, rfl⟩
theorem f_BB_137 : Fld "BlownByAll" 137 2 1 := ⟨R_PE, F_PE, 8, t_PE, rfl, by decide, g_PE, t_PE_ok, n_PE, Or.inr ⟨"BlownByAll", ne_in 136 (by decide +kernel) rfl⟩, rfl⟩
theorem f_PE_40 : Fld "BlownByAll$People" 40 2 2 := ⟨R_PE, F_PE, 8, t_PE, rfl, by decide, g_PE, t_PE_ok, n_PE, Or.inl (gt_in 137 (by decide +kernel) rfl), rfl⟩
theorem f_MA_66 : Fld "BlownByAll$Mass" 66 2 2 := ⟨R_PE, F_PE, 8, t_PE, rfl, by decide, g_PE, t_PE_ok, n_PE, Or.inr ⟨"BlownByAll", ne_in 138 (by decide +kernel) rfl⟩, rfl⟩
theorem f_BB_134 : Fld "BlownByAll" 134 2 2 := ⟨R_PE, F_PE, 8, t_PE, rfl, by decide, g_PE, t_PE_ok, n_PE, Or.inr ⟨"BlownByAll", ne_in 139 (by decide +kernel) rfl⟩, rfl⟩
theorem f_PE_9 : Fld "BlownByAll$People" 9 2 3 := ⟨R_PE, F_PE, 8, t_PE, rfl, by decide, g_PE, t_PE_ok, n_PE, Or.inl (gt_in 140 (by decide +kernel) rfl), rfl⟩
theorem f_MA_48 : Fld "BlownByAll$Mass" 48 2 3 := ⟨R_PE, F_PE, 8, t_PE, rfl, by decide, g_PE, t_PE_ok, n_PE, Or.inr ⟨"BlownByAll", ne_in 141 (by decide +kernel) rfl⟩, rfl⟩
theorem f_PH_102 : Fld "BlownByAll$PhasePlan" 102 2 3 := ⟨R_PE, F_PE, 8, t_PE, rfl, by decide, g_PE, t_PE_ok, n_PE, Or.inr ⟨"BlownByAll", ne_in 142 (by decide +kernel) rfl⟩, rfl⟩
theorem f_BB_119 : Fld "BlownByAll" 119 2 3 := ⟨R_PE, F_PE, 8, t_PE, rfl, by decide, g_PE, t_PE_ok, n_PE, Or.inr ⟨"BlownByAll", ne_in 143 (by decide +kernel) rfl⟩, rfl⟩
theorem f_PE_15 : Fld "BlownByAll$People" 15 2 4 := ⟨R_PE, F_PE, 8, t_PE, rfl, by decide, g_PE, t_PE_ok, n_PE, Or.inl (gt_in 144 (by decide +kernel) rfl), rfl⟩
theorem f_BP_72 : Fld "BlownByAll$BribePlan" 72 2 4 := ⟨R_PE, F_PE, 8, t_PE, rfl, by decide, g_PE, t_PE_ok, n_PE, Or.inr ⟨"BlownByAll", ne_in 145 (by decide +kernel) rfl⟩, rfl⟩
theorem f_PH_105 : Fld "BlownByAll$PhasePlan" 105 2 4 := ⟨R_PE, F_PE, 8, t_PE, rfl, by decide, g_PE, t_PE_ok, n_PE, Or.inr ⟨"BlownByAll", ne_in 146 (by decide +kernel) rfl⟩, rfl⟩
theorem f_BB_122 : Fld "BlownByAll" 122 2 4 := ⟨R_PE, F_PE, 8, t_PE, rfl, by decide, g_PE, t_PE_ok, n_PE, Or.inr ⟨"BlownByAll", ne_in 147 (by decide +kernel) rfl⟩, rfl⟩
theorem f_PE_18 : Fld "BlownByAll$People" 18 2 5 := ⟨R_PE, F_PE, 8, t_PE, rfl, by decide, g_PE, t_PE_ok, n_PE, Or.inl (gt_in 148 (by decide +kernel) rfl), rfl⟩
theorem f_SN_51 : Fld "BlownByAll$Sneezes" 51 2 5 := ⟨R_PE, F_PE, 8, t_PE, rfl, by decide, g_PE, t_PE_ok, n_PE, Or.inr ⟨"BlownByAll", ne_in 149 (by decide +kernel) rfl⟩, rfl⟩
theorem f_BP_89 : Fld "BlownByAll$BribePlan" 89 2 5 := ⟨R_PE, F_PE, 8, t_PE, rfl, by decide, g_PE, t_PE_ok, n_PE, Or.inr ⟨"BlownByAll", ne_in 150 (by decide +kernel) rfl⟩, rfl⟩
theorem f_BB_125 : Fld "BlownByAll" 125 2 5 := ⟨R_PE, F_PE, 8, t_PE, rfl, by decide, g_PE, t_PE_ok, n_PE, Or.inr ⟨"BlownByAll", ne_in 151 (by decide +kernel) rfl⟩, rfl⟩
theorem f_PE_21 : Fld "BlownByAll$People" 21 2 6 := ⟨R_PE, F_PE, 8, t_PE, rfl, by decide, g_PE, t_PE_ok, n_PE, Or.inl (gt_in 152 (by decide +kernel) rfl), rfl⟩
theorem f_BP_76 : Fld "BlownByAll$BribePlan" 76 2 6 := ⟨R_PE, F_PE, 8, t_PE, rfl, by decide, g_PE, t_PE_ok, n_PE, Or.inr ⟨"BlownByAll", ne_in 153 (by decide +kernel) rfl⟩, rfl⟩
theorem f_BB_128 : Fld "BlownByAll" 128 2 6 := ⟨R_PE, F_PE, 8, t_PE, rfl, by decide, g_PE, t_PE_ok, n_PE, Or.inr ⟨"BlownByAll", ne_in 154 (by decide +kernel) rfl⟩, rfl⟩
theorem f_PE_24 : Fld "BlownByAll$People" 24 2 7 := ⟨R_PE, F_PE, 8, t_PE, rfl, by decide, g_PE, t_PE_ok, n_PE, Or.inl (gt_in 155 (by decide +kernel) rfl), rfl⟩
theorem f_BP_92 : Fld "BlownByAll$BribePlan" 92 2 7 := ⟨R_PE, F_PE, 8, t_PE, rfl, by decide, g_PE, t_PE_ok, n_PE, Or.inr ⟨"BlownByAll", ne_in 156 (by decide +kernel) rfl⟩, rfl⟩
theorem f_PH_98 : Fld "BlownByAll$PhasePlan" 98 2 7 := ⟨R_PE, F_PE, 8, t_PE, rfl, by decide, g_PE, t_PE_ok, n_PE, Or.inr ⟨"BlownByAll", ne_in 157 (by decide +kernel) rfl⟩, rfl⟩
theorem f_BB_131 : Fld "BlownByAll" 131 2 7 := ⟨R_PE, F_PE, 8, t_PE, rfl, by decide, g_PE, t_PE_ok, n_PE, Or.inr ⟨"BlownByAll", ne_in 158 (by decide +kernel) rfl⟩, rfl⟩
theorem f_MA_9 : Fld "BlownByAll$Mass" 9 1 0 := ⟨R_MA, F_MA, 5, t_MA, rfl, by decide, g_MA, t_MA_ok, n_MA, Or.inl (gt_in 183 (by decide +kernel) rfl), rfl⟩
theorem f_MA_15 : Fld "BlownByAll$Mass" 15 1 1 := ⟨R_MA, F_MA, 5, t_MA, rfl, by decide, g_MA, t_MA_ok, n_MA, Or.inl (gt_in 184 (by decide +kernel) rfl), rfl⟩
theorem f_MA_19 : Fld "BlownByAll$Mass" 19 1 2 := ⟨R_MA, F_MA, 5, t_MA, rfl, by decide, g_MA, t_MA_ok, n_MA, Or.inl (gt_in 185 (by decide +kernel) rfl), rfl⟩
theorem f_BB_155 : Fld "BlownByAll" 155 1 2 := ⟨R_MA, F_MA, 5, t_MA, rfl, by decide, g_MA, t_MA_ok, n_MA, Or.inr ⟨"BlownByAll", ne_in 186 (by decide +kernel) rfl⟩, rfl⟩
theorem f_MA_23 : Fld "BlownByAll$Mass" 23 1 3 := ⟨R_MA, F_MA, 5, t_MA, rfl, by decide, g_MA, t_MA_ok, n_MA, Or.inl (gt_in 187 (by decide +kernel) rfl), rfl⟩
theorem f_BB_161 : Fld "BlownByAll" 161 1 3 := ⟨R_MA, F_MA, 5, t_MA, rfl, by decide, g_MA, t_MA_ok, n_MA, Or.inr ⟨"BlownByAll", ne_in 188 (by decide +kernel) rfl⟩, rfl⟩
theorem f_MA_26 : Fld "BlownByAll$Mass" 26 1 4 := ⟨R_MA, F_MA, 5, t_MA, rfl, by decide, g_MA, t_MA_ok, n_MA, Or.inl (gt_in 189 (by decide +kernel) rfl), rfl⟩
theorem f_BB_164 : Fld "BlownByAll" 164 1 4 := ⟨R_MA, F_MA, 5, t_MA, rfl, by decide, g_MA, t_MA_ok, n_MA, Or.inr ⟨"BlownByAll", ne_in 190 (by decide +kernel) rfl⟩, rfl⟩
theorem f_PH_9 : Fld "BlownByAll$PhasePlan" 9 3 0 := ⟨R_PH, F_PH, 9, t_PH, rfl, by decide, g_PH, t_PH_ok, n_PH, Or.inl (gt_in 208 (by decide +kernel) rfl), rfl⟩
theorem f_PH_15 : Fld "BlownByAll$PhasePlan" 15 3 1 := ⟨R_PH, F_PH, 9, t_PH, rfl, by decide, g_PH, t_PH_ok, n_PH, Or.inl (gt_in 209 (by decide +kernel) rfl), rfl⟩
theorem f_PH_19 : Fld "BlownByAll$PhasePlan" 19 3 2 := ⟨R_PH, F_PH, 9, t_PH, rfl, by decide, g_PH, t_PH_ok, n_PH, Or.inl (gt_in 210 (by decide +kernel) rfl), rfl⟩
theorem f_PH_23 : Fld "BlownByAll$PhasePlan" 23 3 3 := ⟨R_PH, F_PH, 9, t_PH, rfl, by decide, g_PH, t_PH_ok, n_PH, Or.inl (gt_in 211 (by decide +kernel) rfl), rfl⟩
theorem f_PH_26 : Fld "BlownByAll$PhasePlan" 26 3 4 := ⟨R_PH, F_PH, 9, t_PH, rfl, by decide, g_PH, t_PH_ok, n_PH, Or.inl (gt_in 212 (by decide +kernel) rfl), rfl⟩
theorem f_PH_29 : Fld "BlownByAll$PhasePlan" 29 3 5 := ⟨R_PH, F_PH, 9, t_PH, rfl, by decide, g_PH, t_PH_ok, n_PH, Or.inl (gt_in 213 (by decide +kernel) rfl), rfl⟩
theorem f_PH_43 : Fld "BlownByAll$PhasePlan" 43 3 6 := ⟨R_PH, F_PH, 9, t_PH, rfl, by decide, g_PH, t_PH_ok, n_PH, Or.inl (gt_in 214 (by decide +kernel) rfl), rfl⟩
theorem f_PH_70 : Fld "BlownByAll$PhasePlan" 70 3 7 := ⟨R_PH, F_PH, 9, t_PH, rfl, by decide, g_PH, t_PH_ok, n_PH, Or.inl (gt_in 215 (by decide +kernel) rfl), rfl⟩
theorem f_PH_63 : Fld "BlownByAll$PhasePlan" 63 3 8 := ⟨R_PH, F_PH, 9, t_PH, rfl, by decide, g_PH, t_PH_ok, n_PH, Or.inl (gt_in 216 (by decide +kernel) rfl), rfl⟩
theorem f_BB_176 : Fld "BlownByAll" 176 3 8 := ⟨R_PH, F_PH, 9, t_PH, rfl, by decide, g_PH, t_PH_ok, n_PH, Or.inr ⟨"BlownByAll", ne_in 217 (by decide +kernel) rfl⟩, rfl⟩
theorem f_SE_9 : Fld "BlownByAll$SeatPlan" 9 6 0 := ⟨R_SE, F_SE, 5, t_SE, rfl, by decide, g_SE, t_SE_ok, n_SE, Or.inl (gt_in 243 (by decide +kernel) rfl), rfl⟩
theorem f_SE_15 : Fld "BlownByAll$SeatPlan" 15 6 1 := ⟨R_SE, F_SE, 5, t_SE, rfl, by decide, g_SE, t_SE_ok, n_SE, Or.inl (gt_in 244 (by decide +kernel) rfl), rfl⟩
theorem f_SE_19 : Fld "BlownByAll$SeatPlan" 19 6 2 := ⟨R_SE, F_SE, 5, t_SE, rfl, by decide, g_SE, t_SE_ok, n_SE, Or.inl (gt_in 245 (by decide +kernel) rfl), rfl⟩
theorem f_SE_23 : Fld "BlownByAll$SeatPlan" 23 6 3 := ⟨R_SE, F_SE, 5, t_SE, rfl, by decide, g_SE, t_SE_ok, n_SE, Or.inl (gt_in 246 (by decide +kernel) rfl), rfl⟩
theorem f_SE_27 : Fld "BlownByAll$SeatPlan" 27 6 4 := ⟨R_SE, F_SE, 5, t_SE, rfl, by decide, g_SE, t_SE_ok, n_SE, Or.inl (gt_in 247 (by decide +kernel) rfl), rfl⟩
theorem f_BP_9 : Fld "BlownByAll$BribePlan" 9 0 0 := ⟨R_BP, F_BP, 6, t_BP, rfl, by decide, g_BP, t_BP_ok, n_BP, Or.inl (gt_in 265 (by decide +kernel) rfl), rfl⟩
theorem f_BP_15 : Fld "BlownByAll$BribePlan" 15 0 1 := ⟨R_BP, F_BP, 6, t_BP, rfl, by decide, g_BP, t_BP_ok, n_BP, Or.inl (gt_in 266 (by decide +kernel) rfl), rfl⟩
theorem f_BP_19 : Fld "BlownByAll$BribePlan" 19 0 2 := ⟨R_BP, F_BP, 6, t_BP, rfl, by decide, g_BP, t_BP_ok, n_BP, Or.inl (gt_in 267 (by decide +kernel) rfl), rfl⟩
theorem f_BP_29 : Fld "BlownByAll$BribePlan" 29 0 3 := ⟨R_BP, F_BP, 6, t_BP, rfl, by decide, g_BP, t_BP_ok, n_BP, Or.inl (gt_in 268 (by decide +kernel) rfl), rfl⟩
theorem f_BP_33 : Fld "BlownByAll$BribePlan" 33 0 4 := ⟨R_BP, F_BP, 6, t_BP, rfl, by decide, g_BP, t_BP_ok, n_BP, Or.inl (gt_in 269 (by decide +kernel) rfl), rfl⟩
theorem f_BP_36 : Fld "BlownByAll$BribePlan" 36 0 5 := ⟨R_BP, F_BP, 6, t_BP, rfl, by decide, g_BP, t_BP_ok, n_BP, Or.inl (gt_in 270 (by decide +kernel) rfl), rfl⟩
theorem f_SN_9 : Fld "BlownByAll$Sneezes" 9 7 0 := ⟨R_SN, F_SN, 6, t_SN, rfl, by decide, g_SN, t_SN_ok, n_SN, Or.inl (gt_in 290 (by decide +kernel) rfl), rfl⟩
theorem f_SN_15 : Fld "BlownByAll$Sneezes" 15 7 1 := ⟨R_SN, F_SN, 6, t_SN, rfl, by decide, g_SN, t_SN_ok, n_SN, Or.inl (gt_in 291 (by decide +kernel) rfl), rfl⟩
theorem f_SN_19 : Fld "BlownByAll$Sneezes" 19 7 2 := ⟨R_SN, F_SN, 6, t_SN, rfl, by decide, g_SN, t_SN_ok, n_SN, Or.inl (gt_in 292 (by decide +kernel) rfl), rfl⟩
theorem f_SN_33 : Fld "BlownByAll$Sneezes" 33 7 3 := ⟨R_SN, F_SN, 6, t_SN, rfl, by decide, g_SN, t_SN_ok, n_SN, Or.inl (gt_in 293 (by decide +kernel) rfl), rfl⟩
theorem f_SN_71 : Fld "BlownByAll$Sneezes" 71 7 4 := ⟨R_SN, F_SN, 6, t_SN, rfl, by decide, g_SN, t_SN_ok, n_SN, Or.inl (gt_in 294 (by decide +kernel) rfl), rfl⟩
theorem f_BB_209 : Fld "BlownByAll" 209 7 4 := ⟨R_SN, F_SN, 6, t_SN, rfl, by decide, g_SN, t_SN_ok, n_SN, Or.inr ⟨"BlownByAll", ne_in 295 (by decide +kernel) rfl⟩, rfl⟩
theorem f_SN_74 : Fld "BlownByAll$Sneezes" 74 7 5 := ⟨R_SN, F_SN, 6, t_SN, rfl, by decide, g_SN, t_SN_ok, n_SN, Or.inl (gt_in 296 (by decide +kernel) rfl), rfl⟩
theorem f_BB_213 : Fld "BlownByAll" 213 7 5 := ⟨R_SN, F_SN, 6, t_SN, rfl, by decide, g_SN, t_SN_ok, n_SN, Or.inr ⟨"BlownByAll", ne_in 297 (by decide +kernel) rfl⟩, rfl⟩
theorem f_BB_10 : Fld "BlownByAll" 10 8 0 := ⟨R_BB, F_BB, 10, t_BB, rfl, by decide, g_BB, t_BB_ok, n_BB, Or.inl (gt_in 313 (by decide +kernel) rfl), rfl⟩
theorem f_BB_19 : Fld "BlownByAll" 19 8 1 := ⟨R_BB, F_BB, 10, t_BB, rfl, by decide, g_BB, t_BB_ok, n_BB, Or.inl (gt_in 314 (by decide +kernel) rfl), rfl⟩
theorem f_BB_26 : Fld "BlownByAll" 26 8 2 := ⟨R_BB, F_BB, 10, t_BB, rfl, by decide, g_BB, t_BB_ok, n_BB, Or.inl (gt_in 315 (by decide +kernel) rfl), rfl⟩
theorem f_BB_35 : Fld "BlownByAll" 35 8 3 := ⟨R_BB, F_BB, 10, t_BB, rfl, by decide, g_BB, t_BB_ok, n_BB, Or.inl (gt_in 316 (by decide +kernel) rfl), rfl⟩
theorem f_BB_44 : Fld "BlownByAll" 44 8 4 := ⟨R_BB, F_BB, 10, t_BB, rfl, by decide, g_BB, t_BB_ok, n_BB, Or.inl (gt_in 317 (by decide +kernel) rfl), rfl⟩
theorem f_BB_53 : Fld "BlownByAll" 53 8 5 := ⟨R_BB, F_BB, 10, t_BB, rfl, by decide, g_BB, t_BB_ok, n_BB, Or.inl (gt_in 318 (by decide +kernel) rfl), rfl⟩
theorem f_BB_60 : Fld "BlownByAll" 60 8 6 := ⟨R_BB, F_BB, 10, t_BB, rfl, by decide, g_BB, t_BB_ok, n_BB, Or.inl (gt_in 319 (by decide +kernel) rfl), rfl⟩
theorem f_BB_67 : Fld "BlownByAll" 67 8 7 := ⟨R_BB, F_BB, 10, t_BB, rfl, by decide, g_BB, t_BB_ok, n_BB, Or.inl (gt_in 320 (by decide +kernel) rfl), rfl⟩
theorem f_BB_71 : Fld "BlownByAll" 71 8 8 := ⟨R_BB, F_BB, 10, t_BB, rfl, by decide, g_BB, t_BB_ok, n_BB, Or.inl (gt_in 321 (by decide +kernel) rfl), rfl⟩
theorem f_BB_75 : Fld "BlownByAll" 75 8 9 := ⟨R_BB, F_BB, 10, t_BB, rfl, by decide, g_BB, t_BB_ok, n_BB, Or.inl (gt_in 322 (by decide +kernel) rfl), rfl⟩
theorem fs_SE_64 : Cond.fieldLink "BlownByAll$SeatPlan" 64 "BlownByAll$SeatPlan" "FIGURE_OF" "[I" ∈ gtbl := gt_in 640 (by decide +kernel) rfl
theorem f_MO_7 : Fld "BlownByAllModel" 7 9 0 := ⟨R_MO, F_MO, 31, t_MO, rfl, by decide, g_MO, t_MO_ok, n_MO, Or.inl (gt_in 763 (by decide +kernel) rfl), rfl⟩
theorem f_MO_13 : Fld "BlownByAllModel" 13 9 1 := ⟨R_MO, F_MO, 31, t_MO, rfl, by decide, g_MO, t_MO_ok, n_MO, Or.inl (gt_in 764 (by decide +kernel) rfl), rfl⟩
theorem f_MO_16 : Fld "BlownByAllModel" 16 9 2 := ⟨R_MO, F_MO, 31, t_MO, rfl, by decide, g_MO, t_MO_ok, n_MO, Or.inl (gt_in 765 (by decide +kernel) rfl), rfl⟩
theorem f_MO_99 : Fld "BlownByAllModel" 99 9 3 := ⟨R_MO, F_MO, 31, t_MO, rfl, by decide, g_MO, t_MO_ok, n_MO, Or.inl (gt_in 766 (by decide +kernel) rfl), rfl⟩
theorem f_MO_102 : Fld "BlownByAllModel" 102 9 4 := ⟨R_MO, F_MO, 31, t_MO, rfl, by decide, g_MO, t_MO_ok, n_MO, Or.inl (gt_in 767 (by decide +kernel) rfl), rfl⟩
theorem f_MO_105 : Fld "BlownByAllModel" 105 9 5 := ⟨R_MO, F_MO, 31, t_MO, rfl, by decide, g_MO, t_MO_ok, n_MO, Or.inl (gt_in 768 (by decide +kernel) rfl), rfl⟩
theorem f_MO_19 : Fld "BlownByAllModel" 19 9 6 := ⟨R_MO, F_MO, 31, t_MO, rfl, by decide, g_MO, t_MO_ok, n_MO, Or.inl (gt_in 769 (by decide +kernel) rfl), rfl⟩
theorem f_MO_22 : Fld "BlownByAllModel" 22 9 7 := ⟨R_MO, F_MO, 31, t_MO, rfl, by decide, g_MO, t_MO_ok, n_MO, Or.inl (gt_in 770 (by decide +kernel) rfl), rfl⟩
theorem f_MO_25 : Fld "BlownByAllModel" 25 9 8 := ⟨R_MO, F_MO, 31, t_MO, rfl, by decide, g_MO, t_MO_ok, n_MO, Or.inl (gt_in 771 (by decide +kernel) rfl), rfl⟩
theorem f_MO_69 : Fld "BlownByAllModel" 69 9 9 := ⟨R_MO, F_MO, 31, t_MO, rfl, by decide, g_MO, t_MO_ok, n_MO, Or.inl (gt_in 772 (by decide +kernel) rfl), rfl⟩
theorem f_MO_123 : Fld "BlownByAllModel" 123 9 10 := ⟨R_MO, F_MO, 31, t_MO, rfl, by decide, g_MO, t_MO_ok, n_MO, Or.inl (gt_in 773 (by decide +kernel) rfl), rfl⟩
theorem f_MO_126 : Fld "BlownByAllModel" 126 9 11 := ⟨R_MO, F_MO, 31, t_MO, rfl, by decide, g_MO, t_MO_ok, n_MO, Or.inl (gt_in 774 (by decide +kernel) rfl), rfl⟩
theorem f_MO_129 : Fld "BlownByAllModel" 129 9 12 := ⟨R_MO, F_MO, 31, t_MO, rfl, by decide, g_MO, t_MO_ok, n_MO, Or.inl (gt_in 775 (by decide +kernel) rfl), rfl⟩
theorem f_MO_132 : Fld "BlownByAllModel" 132 9 13 := ⟨R_MO, F_MO, 31, t_MO, rfl, by decide, g_MO, t_MO_ok, n_MO, Or.inl (gt_in 776 (by decide +kernel) rfl), rfl⟩
theorem f_MO_28 : Fld "BlownByAllModel" 28 9 14 := ⟨R_MO, F_MO, 31, t_MO, rfl, by decide, g_MO, t_MO_ok, n_MO, Or.inl (gt_in 777 (by decide +kernel) rfl), rfl⟩
theorem f_MO_79 : Fld "BlownByAllModel" 79 9 15 := ⟨R_MO, F_MO, 31, t_MO, rfl, by decide, g_MO, t_MO_ok, n_MO, Or.inl (gt_in 778 (by decide +kernel) rfl), rfl⟩
theorem f_MO_87 : Fld "BlownByAllModel" 87 9 16 := ⟨R_MO, F_MO, 31, t_MO, rfl, by decide, g_MO, t_MO_ok, n_MO, Or.inl (gt_in 779 (by decide +kernel) rfl), rfl⟩
theorem f_MO_84 : Fld "BlownByAllModel" 84 9 17 := ⟨R_MO, F_MO, 31, t_MO, rfl, by decide, g_MO, t_MO_ok, n_MO, Or.inl (gt_in 780 (by decide +kernel) rfl), rfl⟩
theorem f_MO_31 : Fld "BlownByAllModel" 31 9 18 := ⟨R_MO, F_MO, 31, t_MO, rfl, by decide, g_MO, t_MO_ok, n_MO, Or.inl (gt_in 781 (by decide +kernel) rfl), rfl⟩
theorem f_MO_34 : Fld "BlownByAllModel" 34 9 19 := ⟨R_MO, F_MO, 31, t_MO, rfl, by decide, g_MO, t_MO_ok, n_MO, Or.inl (gt_in 782 (by decide +kernel) rfl), rfl⟩
theorem f_MO_37 : Fld "BlownByAllModel" 37 9 20 := ⟨R_MO, F_MO, 31, t_MO, rfl, by decide, g_MO, t_MO_ok, n_MO, Or.inl (gt_in 783 (by decide +kernel) rfl), rfl⟩
theorem f_MO_40 : Fld "BlownByAllModel" 40 9 21 := ⟨R_MO, F_MO, 31, t_MO, rfl, by decide, g_MO, t_MO_ok, n_MO, Or.inl (gt_in 784 (by decide +kernel) rfl), rfl⟩
theorem f_MO_43 : Fld "BlownByAllModel" 43 9 22 := ⟨R_MO, F_MO, 31, t_MO, rfl, by decide, g_MO, t_MO_ok, n_MO, Or.inl (gt_in 785 (by decide +kernel) rfl), rfl⟩
theorem f_MO_46 : Fld "BlownByAllModel" 46 9 23 := ⟨R_MO, F_MO, 31, t_MO, rfl, by decide, g_MO, t_MO_ok, n_MO, Or.inl (gt_in 786 (by decide +kernel) rfl), rfl⟩
theorem f_MO_49 : Fld "BlownByAllModel" 49 9 24 := ⟨R_MO, F_MO, 31, t_MO, rfl, by decide, g_MO, t_MO_ok, n_MO, Or.inl (gt_in 787 (by decide +kernel) rfl), rfl⟩
theorem f_MO_52 : Fld "BlownByAllModel" 52 9 25 := ⟨R_MO, F_MO, 31, t_MO, rfl, by decide, g_MO, t_MO_ok, n_MO, Or.inl (gt_in 788 (by decide +kernel) rfl), rfl⟩
theorem f_MO_55 : Fld "BlownByAllModel" 55 9 26 := ⟨R_MO, F_MO, 31, t_MO, rfl, by decide, g_MO, t_MO_ok, n_MO, Or.inl (gt_in 789 (by decide +kernel) rfl), rfl⟩
theorem f_MO_184 : Fld "BlownByAllModel" 184 9 27 := ⟨R_MO, F_MO, 31, t_MO, rfl, by decide, g_MO, t_MO_ok, n_MO, Or.inl (gt_in 790 (by decide +kernel) rfl), rfl⟩
theorem f_MO_59 : Fld "BlownByAllModel" 59 9 28 := ⟨R_MO, F_MO, 31, t_MO, rfl, by decide, g_MO, t_MO_ok, n_MO, Or.inl (gt_in 791 (by decide +kernel) rfl), rfl⟩
theorem f_MO_63 : Fld "BlownByAllModel" 63 9 29 := ⟨R_MO, F_MO, 31, t_MO, rfl, by decide, g_MO, t_MO_ok, n_MO, Or.inl (gt_in 792 (by decide +kernel) rfl), rfl⟩
theorem f_MO_66 : Fld "BlownByAllModel" 66 9 30 := ⟨R_MO, F_MO, 31, t_MO, rfl, by decide, g_MO, t_MO_ok, n_MO, Or.inl (gt_in 793 (by decide +kernel) rfl), rfl⟩
theorem pk_BP_3 : putOk 0 3 .int := putOk_of (C := R_BP) (T := F_BP) (N := 6) rfl rfl (by decide +kernel)
theorem pk_BP_4 : putOk 0 4 .int := putOk_of (C := R_BP) (T := F_BP) (N := 6) rfl rfl (by decide +kernel)
theorem pk_BP_5 : putOk 0 5 .int := putOk_of (C := R_BP) (T := F_BP) (N := 6) rfl rfl (by decide +kernel)
theorem pk_PE_0 : putOk 2 0 .int := putOk_of (C := R_PE) (T := F_PE) (N := 8) rfl rfl (by decide +kernel)
theorem pk_PE_1 : putOk 2 1 .int := putOk_of (C := R_PE) (T := F_PE) (N := 8) rfl rfl (by decide +kernel)
theorem pk_PE_2 : putOk 2 2 .int := putOk_of (C := R_PE) (T := F_PE) (N := 8) rfl rfl (by decide +kernel)
theorem pk_PH_6 : putOk 3 6 .int := putOk_of (C := R_PH) (T := F_PH) (N := 9) rfl rfl (by decide +kernel)
theorem pk_PH_7 : putOk 3 7 .int := putOk_of (C := R_PH) (T := F_PH) (N := 9) rfl rfl (by decide +kernel)
theorem pk_PH_8 : putOk 3 8 .int := putOk_of (C := R_PH) (T := F_PH) (N := 9) rfl rfl (by decide +kernel)
theorem pk_PI_0 : putOk 4 0 .int := putOk_of (C := R_PI) (T := F_PI) (N := 4) rfl rfl (by decide +kernel)
theorem pk_PI_1 : putOk 4 1 .int := putOk_of (C := R_PI) (T := F_PI) (N := 4) rfl rfl (by decide +kernel)
theorem pk_SC_1 : putOk 5 1 .int := putOk_of (C := R_SC) (T := F_SC) (N := 6) rfl rfl (by decide +kernel)
theorem pk_SC_2 : putOk 5 2 .int := putOk_of (C := R_SC) (T := F_SC) (N := 6) rfl rfl (by decide +kernel)
theorem pk_SC_3 : putOk 5 3 .int := putOk_of (C := R_SC) (T := F_SC) (N := 6) rfl rfl (by decide +kernel)
theorem pk_SC_4 : putOk 5 4 .int := putOk_of (C := R_SC) (T := F_SC) (N := 6) rfl rfl (by decide +kernel)
theorem pk_SC_5 : putOk 5 5 .int := putOk_of (C := R_SC) (T := F_SC) (N := 6) rfl rfl (by decide +kernel)
theorem pk_SN_3 : putOk 7 3 .long := putOk_of (C := R_SN) (T := F_SN) (N := 6) rfl rfl (by decide +kernel)
theorem pk_SN_4 : putOk 7 4 .long := putOk_of (C := R_SN) (T := F_SN) (N := 6) rfl rfl (by decide +kernel)
theorem pk_SN_5 : putOk 7 5 .long := putOk_of (C := R_SN) (T := F_SN) (N := 6) rfl rfl (by decide +kernel)
theorem pk_MO_3 : putOk 9 3 .int := putOk_of (C := R_MO) (T := F_MO) (N := 31) rfl rfl (by decide +kernel)
theorem pk_MO_4 : putOk 9 4 .int := putOk_of (C := R_MO) (T := F_MO) (N := 31) rfl rfl (by decide +kernel)
theorem pk_MO_5 : putOk 9 5 .int := putOk_of (C := R_MO) (T := F_MO) (N := 31) rfl rfl (by decide +kernel)
theorem pk_MO_9 : putOk 9 9 .int := putOk_of (C := R_MO) (T := F_MO) (N := 31) rfl rfl (by decide +kernel)
theorem pk_MO_10 : putOk 9 10 .int := putOk_of (C := R_MO) (T := F_MO) (N := 31) rfl rfl (by decide +kernel)
theorem pk_MO_11 : putOk 9 11 .int := putOk_of (C := R_MO) (T := F_MO) (N := 31) rfl rfl (by decide +kernel)
theorem pk_MO_12 : putOk 9 12 .int := putOk_of (C := R_MO) (T := F_MO) (N := 31) rfl rfl (by decide +kernel)
theorem pk_MO_13 : putOk 9 13 .int := putOk_of (C := R_MO) (T := F_MO) (N := 31) rfl rfl (by decide +kernel)
theorem pk_MO_15 : putOk 9 15 .int := putOk_of (C := R_MO) (T := F_MO) (N := 31) rfl rfl (by decide +kernel)
theorem pk_MO_16 : putOk 9 16 .int := putOk_of (C := R_MO) (T := F_MO) (N := 31) rfl rfl (by decide +kernel)
theorem pk_MO_17 : putOk 9 17 .int := putOk_of (C := R_MO) (T := F_MO) (N := 31) rfl rfl (by decide +kernel)
theorem pk_MO_27 : putOk 9 27 .long := putOk_of (C := R_MO) (T := F_MO) (N := 31) rfl rfl (by decide +kernel)
theorem kc_BB_write : Cond.instanceMethod M_BB_write.1 ∈ gtbl ∧ Cond.selects M_BB_write.1.cls M_BB_write.1 M_BB_write.1 ∈ gtbl ∧ Cond.initialized M_BB_write.1.cls ∈ gtbl ∧ Cond.code M_BB_write.1 M_BB_write.2.1 M_BB_write.2.2.1 M_BB_write.2.2.2 ∈ gtbl ∧ (M_BB_write.1.cls ≠ "java/lang/invoke/MethodHandle" ∧ M_BB_write.1.cls ≠ "java/lang/invoke/VarHandle" ∧ (parseMethodDescriptor M_BB_write.1.desc).map (fun d => d.parameters.length) = some 2) ∧ M_BB_write.2.2.1 ≤ 45 := ⟨gt_in 345 (by decide +kernel) rfl, gt_in 346 (by decide +kernel) rfl, gt_in 41 (by decide +kernel) rfl, gt_in 347 (by decide +kernel) rfl, ⟨by decide, by decide, by decide +kernel⟩, by decide⟩
theorem k_LW_15 : CallV "BlownByAllLaw" 15 M_BB_write 2 := ⟨gt_in 344 (by decide +kernel) rfl, kc_BB_write⟩
theorem kc_SC_hasRoom : Cond.instanceMethod M_SC_hasRoom.1 ∈ gtbl ∧ Cond.selects M_SC_hasRoom.1.cls M_SC_hasRoom.1 M_SC_hasRoom.1 ∈ gtbl ∧ Cond.initialized M_SC_hasRoom.1.cls ∈ gtbl ∧ Cond.code M_SC_hasRoom.1 M_SC_hasRoom.2.1 M_SC_hasRoom.2.2.1 M_SC_hasRoom.2.2.2 ∈ gtbl ∧ (M_SC_hasRoom.1.cls ≠ "java/lang/invoke/MethodHandle" ∧ M_SC_hasRoom.1.cls ≠ "java/lang/invoke/VarHandle" ∧ (parseMethodDescriptor M_SC_hasRoom.1.desc).map (fun d => d.parameters.length) = some 1) ∧ M_SC_hasRoom.2.2.1 ≤ 45 := ⟨gt_in 349 (by decide +kernel) rfl, gt_in 350 (by decide +kernel) rfl, gt_in 42 (by decide +kernel) rfl, gt_in 351 (by decide +kernel) rfl, ⟨by decide, by decide, by decide +kernel⟩, by decide⟩
theorem k_BB_79 : CallV "BlownByAll" 79 M_SC_hasRoom 1 := ⟨gt_in 348 (by decide +kernel) rfl, kc_SC_hasRoom⟩
theorem kc_SC_append : Cond.instanceMethod M_SC_append.1 ∈ gtbl ∧ Cond.selects M_SC_append.1.cls M_SC_append.1 M_SC_append.1 ∈ gtbl ∧ Cond.initialized M_SC_append.1.cls ∈ gtbl ∧ Cond.code M_SC_append.1 M_SC_append.2.1 M_SC_append.2.2.1 M_SC_append.2.2.2 ∈ gtbl ∧ (M_SC_append.1.cls ≠ "java/lang/invoke/MethodHandle" ∧ M_SC_append.1.cls ≠ "java/lang/invoke/VarHandle" ∧ (parseMethodDescriptor M_SC_append.1.desc).map (fun d => d.parameters.length) = some 2) ∧ M_SC_append.2.2.1 ≤ 45 := ⟨gt_in 353 (by decide +kernel) rfl, gt_in 354 (by decide +kernel) rfl, gt_in 42 (by decide +kernel) rfl, gt_in 355 (by decide +kernel) rfl, ⟨by decide, by decide, by decide +kernel⟩, by decide⟩
theorem k_BB_83 : CallV "BlownByAll" 83 M_SC_append 2 := ⟨gt_in 352 (by decide +kernel) rfl, kc_SC_append⟩
theorem kc_BB_wipe : Cond.instanceMethod M_BB_wipe.1 ∈ gtbl ∧ Cond.selects M_BB_wipe.1.cls M_BB_wipe.1 M_BB_wipe.1 ∈ gtbl ∧ Cond.initialized M_BB_wipe.1.cls ∈ gtbl ∧ Cond.code M_BB_wipe.1 M_BB_wipe.2.1 M_BB_wipe.2.2.1 M_BB_wipe.2.2.2 ∈ gtbl ∧ (M_BB_wipe.1.cls ≠ "java/lang/invoke/MethodHandle" ∧ M_BB_wipe.1.cls ≠ "java/lang/invoke/VarHandle" ∧ (parseMethodDescriptor M_BB_wipe.1.desc).map (fun d => d.parameters.length) = some 0) ∧ M_BB_wipe.2.2.1 ≤ 45 := ⟨gt_in 357 (by decide +kernel) rfl, gt_in 358 (by decide +kernel) rfl, gt_in 41 (by decide +kernel) rfl, gt_in 359 (by decide +kernel) rfl, ⟨by decide, by decide, by decide +kernel⟩, by decide⟩
theorem k_LW_20 : CallV "BlownByAllLaw" 20 M_BB_wipe 0 := ⟨gt_in 356 (by decide +kernel) rfl, kc_BB_wipe⟩
theorem kc_SC_clear : Cond.instanceMethod M_SC_clear.1 ∈ gtbl ∧ Cond.selects M_SC_clear.1.cls M_SC_clear.1 M_SC_clear.1 ∈ gtbl ∧ Cond.initialized M_SC_clear.1.cls ∈ gtbl ∧ Cond.code M_SC_clear.1 M_SC_clear.2.1 M_SC_clear.2.2.1 M_SC_clear.2.2.2 ∈ gtbl ∧ (M_SC_clear.1.cls ≠ "java/lang/invoke/MethodHandle" ∧ M_SC_clear.1.cls ≠ "java/lang/invoke/VarHandle" ∧ (parseMethodDescriptor M_SC_clear.1.desc).map (fun d => d.parameters.length) = some 0) ∧ M_SC_clear.2.2.1 ≤ 45 := ⟨gt_in 361 (by decide +kernel) rfl, gt_in 362 (by decide +kernel) rfl, gt_in 42 (by decide +kernel) rfl, gt_in 363 (by decide +kernel) rfl, ⟨by decide, by decide, by decide +kernel⟩, by decide⟩
theorem k_BB_87 : CallV "BlownByAll" 87 M_SC_clear 0 := ⟨gt_in 360 (by decide +kernel) rfl, kc_SC_clear⟩
theorem kc_BB_fault : Cond.instanceMethod M_BB_fault.1 ∈ gtbl ∧ Cond.selects M_BB_fault.1.cls M_BB_fault.1 M_BB_fault.1 ∈ gtbl ∧ Cond.initialized M_BB_fault.1.cls ∈ gtbl ∧ Cond.code M_BB_fault.1 M_BB_fault.2.1 M_BB_fault.2.2.1 M_BB_fault.2.2.2 ∈ gtbl ∧ (M_BB_fault.1.cls ≠ "java/lang/invoke/MethodHandle" ∧ M_BB_fault.1.cls ≠ "java/lang/invoke/VarHandle" ∧ (parseMethodDescriptor M_BB_fault.1.desc).map (fun d => d.parameters.length) = some 0) ∧ M_BB_fault.2.2.1 ≤ 45 := ⟨gt_in 365 (by decide +kernel) rfl, gt_in 366 (by decide +kernel) rfl, gt_in 41 (by decide +kernel) rfl, gt_in 367 (by decide +kernel) rfl, ⟨by decide, by decide, by decide +kernel⟩, by decide⟩
theorem k_LW_25 : CallV "BlownByAllLaw" 25 M_BB_fault 0 := ⟨gt_in 364 (by decide +kernel) rfl, kc_BB_fault⟩
theorem kc_SC_read : Cond.instanceMethod M_SC_read.1 ∈ gtbl ∧ Cond.selects M_SC_read.1.cls M_SC_read.1 M_SC_read.1 ∈ gtbl ∧ Cond.initialized M_SC_read.1.cls ∈ gtbl ∧ Cond.code M_SC_read.1 M_SC_read.2.1 M_SC_read.2.2.1 M_SC_read.2.2.2 ∈ gtbl ∧ (M_SC_read.1.cls ≠ "java/lang/invoke/MethodHandle" ∧ M_SC_read.1.cls ≠ "java/lang/invoke/VarHandle" ∧ (parseMethodDescriptor M_SC_read.1.desc).map (fun d => d.parameters.length) = some 0) ∧ M_SC_read.2.2.1 ≤ 45 := ⟨gt_in 369 (by decide +kernel) rfl, gt_in 370 (by decide +kernel) rfl, gt_in 42 (by decide +kernel) rfl, gt_in 371 (by decide +kernel) rfl, ⟨by decide, by decide, by decide +kernel⟩, by decide⟩
theorem k_BB_91 : CallV "BlownByAll" 91 M_SC_read 0 := ⟨gt_in 368 (by decide +kernel) rfl, kc_SC_read⟩
theorem kc_SC_takeSign : Cond.instanceMethod M_SC_takeSign.1 ∈ gtbl ∧ Cond.selects M_SC_takeSign.1.cls M_SC_takeSign.1 M_SC_takeSign.1 ∈ gtbl ∧ Cond.initialized M_SC_takeSign.1.cls ∈ gtbl ∧ Cond.code M_SC_takeSign.1 M_SC_takeSign.2.1 M_SC_takeSign.2.2.1 M_SC_takeSign.2.2.2 ∈ gtbl ∧ (M_SC_takeSign.1.cls ≠ "java/lang/invoke/MethodHandle" ∧ M_SC_takeSign.1.cls ≠ "java/lang/invoke/VarHandle" ∧ (parseMethodDescriptor M_SC_takeSign.1.desc).map (fun d => d.parameters.length) = some 1) ∧ M_SC_takeSign.2.2.1 ≤ 45 := ⟨gt_in 374 (by decide +kernel) rfl, gt_in 0 (by decide +kernel) rfl, gt_in 42 (by decide +kernel) rfl, gt_in 375 (by decide +kernel) rfl, ⟨by decide, by decide, by decide +kernel⟩, by decide⟩
theorem k_SC_31 : CallV "BlownByAll$Script" 31 M_SC_takeSign 1 := ⟨gt_in 372 (by decide +kernel) rfl, kc_SC_takeSign⟩
theorem kc_SC_signAt : Cond.instanceMethod M_SC_signAt.1 ∈ gtbl ∧ Cond.selects M_SC_signAt.1.cls M_SC_signAt.1 M_SC_signAt.1 ∈ gtbl ∧ Cond.initialized M_SC_signAt.1.cls ∈ gtbl ∧ Cond.code M_SC_signAt.1 M_SC_signAt.2.1 M_SC_signAt.2.2.1 M_SC_signAt.2.2.2 ∈ gtbl ∧ (M_SC_signAt.1.cls ≠ "java/lang/invoke/MethodHandle" ∧ M_SC_signAt.1.cls ≠ "java/lang/invoke/VarHandle" ∧ (parseMethodDescriptor M_SC_signAt.1.desc).map (fun d => d.parameters.length) = some 1) ∧ M_SC_signAt.2.2.1 ≤ 45 := ⟨gt_in 378 (by decide +kernel) rfl, gt_in 1 (by decide +kernel) rfl, gt_in 42 (by decide +kernel) rfl, gt_in 379 (by decide +kernel) rfl, ⟨by decide, by decide, by decide +kernel⟩, by decide⟩
theorem k_SC_45 : CallV "BlownByAll$Script" 45 M_SC_signAt 1 := ⟨gt_in 376 (by decide +kernel) rfl, kc_SC_signAt⟩
theorem kc_SC_takePipes : Cond.instanceMethod M_SC_takePipes.1 ∈ gtbl ∧ Cond.selects M_SC_takePipes.1.cls M_SC_takePipes.1 M_SC_takePipes.1 ∈ gtbl ∧ Cond.initialized M_SC_takePipes.1.cls ∈ gtbl ∧ Cond.code M_SC_takePipes.1 M_SC_takePipes.2.1 M_SC_takePipes.2.2.1 M_SC_takePipes.2.2.2 ∈ gtbl ∧ (M_SC_takePipes.1.cls ≠ "java/lang/invoke/MethodHandle" ∧ M_SC_takePipes.1.cls ≠ "java/lang/invoke/VarHandle" ∧ (parseMethodDescriptor M_SC_takePipes.1.desc).map (fun d => d.parameters.length) = some 0) ∧ M_SC_takePipes.2.2.1 ≤ 45 := ⟨gt_in 382 (by decide +kernel) rfl, gt_in 2 (by decide +kernel) rfl, gt_in 42 (by decide +kernel) rfl, gt_in 383 (by decide +kernel) rfl, ⟨by decide, by decide, by decide +kernel⟩, by decide⟩
theorem k_SC_35 : CallV "BlownByAll$Script" 35 M_SC_takePipes 0 := ⟨gt_in 380 (by decide +kernel) rfl, kc_SC_takePipes⟩
theorem kc_SC_takeFigure : Cond.instanceMethod M_SC_takeFigure.1 ∈ gtbl ∧ Cond.selects M_SC_takeFigure.1.cls M_SC_takeFigure.1 M_SC_takeFigure.1 ∈ gtbl ∧ Cond.initialized M_SC_takeFigure.1.cls ∈ gtbl ∧ Cond.code M_SC_takeFigure.1 M_SC_takeFigure.2.1 M_SC_takeFigure.2.2.1 M_SC_takeFigure.2.2.2 ∈ gtbl ∧ (M_SC_takeFigure.1.cls ≠ "java/lang/invoke/MethodHandle" ∧ M_SC_takeFigure.1.cls ≠ "java/lang/invoke/VarHandle" ∧ (parseMethodDescriptor M_SC_takeFigure.1.desc).map (fun d => d.parameters.length) = some 2) ∧ M_SC_takeFigure.2.2.1 ≤ 45 := ⟨gt_in 386 (by decide +kernel) rfl, gt_in 3 (by decide +kernel) rfl, gt_in 42 (by decide +kernel) rfl, gt_in 387 (by decide +kernel) rfl, ⟨by decide, by decide, by decide +kernel⟩, by decide⟩
theorem k_SC_52 : CallV "BlownByAll$Script" 52 M_SC_takeFigure 2 := ⟨gt_in 384 (by decide +kernel) rfl, kc_SC_takeFigure⟩
theorem kc_SC_figureAt : Cond.instanceMethod M_SC_figureAt.1 ∈ gtbl ∧ Cond.selects M_SC_figureAt.1.cls M_SC_figureAt.1 M_SC_figureAt.1 ∈ gtbl ∧ Cond.initialized M_SC_figureAt.1.cls ∈ gtbl ∧ Cond.code M_SC_figureAt.1 M_SC_figureAt.2.1 M_SC_figureAt.2.2.1 M_SC_figureAt.2.2.2 ∈ gtbl ∧ (M_SC_figureAt.1.cls ≠ "java/lang/invoke/MethodHandle" ∧ M_SC_figureAt.1.cls ≠ "java/lang/invoke/VarHandle" ∧ (parseMethodDescriptor M_SC_figureAt.1.desc).map (fun d => d.parameters.length) = some 1) ∧ M_SC_figureAt.2.2.1 ≤ 45 := ⟨gt_in 390 (by decide +kernel) rfl, gt_in 4 (by decide +kernel) rfl, gt_in 42 (by decide +kernel) rfl, gt_in 391 (by decide +kernel) rfl, ⟨by decide, by decide, by decide +kernel⟩, by decide⟩
theorem k_SC_49 : CallV "BlownByAll$Script" 49 M_SC_figureAt 1 := ⟨gt_in 388 (by decide +kernel) rfl, kc_SC_figureAt⟩
theorem kc_SC_takePeople : Cond.instanceMethod M_SC_takePeople.1 ∈ gtbl ∧ Cond.selects M_SC_takePeople.1.cls M_SC_takePeople.1 M_SC_takePeople.1 ∈ gtbl ∧ Cond.initialized M_SC_takePeople.1.cls ∈ gtbl ∧ Cond.code M_SC_takePeople.1 M_SC_takePeople.2.1 M_SC_takePeople.2.2.1 M_SC_takePeople.2.2.2 ∈ gtbl ∧ (M_SC_takePeople.1.cls ≠ "java/lang/invoke/MethodHandle" ∧ M_SC_takePeople.1.cls ≠ "java/lang/invoke/VarHandle" ∧ (parseMethodDescriptor M_SC_takePeople.1.desc).map (fun d => d.parameters.length) = some 0) ∧ M_SC_takePeople.2.2.1 ≤ 45 := ⟨gt_in 394 (by decide +kernel) rfl, gt_in 5 (by decide +kernel) rfl, gt_in 42 (by decide +kernel) rfl, gt_in 395 (by decide +kernel) rfl, ⟨by decide, by decide, by decide +kernel⟩, by decide⟩
theorem k_SC_39 : CallV "BlownByAll$Script" 39 M_SC_takePeople 0 := ⟨gt_in 392 (by decide +kernel) rfl, kc_SC_takePeople⟩
theorem kc_SC_takeHymn : Cond.instanceMethod M_SC_takeHymn.1 ∈ gtbl ∧ Cond.selects M_SC_takeHymn.1.cls M_SC_takeHymn.1 M_SC_takeHymn.1 ∈ gtbl ∧ Cond.initialized M_SC_takeHymn.1.cls ∈ gtbl ∧ Cond.code M_SC_takeHymn.1 M_SC_takeHymn.2.1 M_SC_takeHymn.2.2.1 M_SC_takeHymn.2.2.2 ∈ gtbl ∧ (M_SC_takeHymn.1.cls ≠ "java/lang/invoke/MethodHandle" ∧ M_SC_takeHymn.1.cls ≠ "java/lang/invoke/VarHandle" ∧ (parseMethodDescriptor M_SC_takeHymn.1.desc).map (fun d => d.parameters.length) = some 0) ∧ M_SC_takeHymn.2.2.1 ≤ 45 := ⟨gt_in 398 (by decide +kernel) rfl, gt_in 6 (by decide +kernel) rfl, gt_in 42 (by decide +kernel) rfl, gt_in 399 (by decide +kernel) rfl, ⟨by decide, by decide, by decide +kernel⟩, by decide⟩
theorem k_SC_42 : CallV "BlownByAll$Script" 42 M_SC_takeHymn 0 := ⟨gt_in 396 (by decide +kernel) rfl, kc_SC_takeHymn⟩
theorem kc_MT_min : Cond.static M_MT_min.1 ∈ gtbl ∧ Cond.initialized M_MT_min.1.cls ∈ gtbl ∧ Cond.code M_MT_min.1 M_MT_min.2.1 M_MT_min.2.2.1 M_MT_min.2.2.2 ∈ gtbl ∧ (M_MT_min.1.cls ≠ "java/lang/invoke/MethodHandle" ∧ M_MT_min.1.cls ≠ "java/lang/invoke/VarHandle" ∧ (parseMethodDescriptor M_MT_min.1.desc).map (fun d => d.parameters.length) = some 2) ∧ M_MT_min.2.2.1 ≤ 45 := ⟨gt_in 401 (by decide +kernel) rfl, gt_in 51 (by decide +kernel) rfl, gt_in 402 (by decide +kernel) rfl, ⟨by decide, by decide, by decide +kernel⟩, by decide⟩
theorem k_SC_56 : CallS "BlownByAll$Script" 56 M_MT_min 2 := ⟨gt_in 400 (by decide +kernel) rfl, kc_MT_min⟩
theorem kc_MT_max : Cond.static M_MT_max.1 ∈ gtbl ∧ Cond.initialized M_MT_max.1.cls ∈ gtbl ∧ Cond.code M_MT_max.1 M_MT_max.2.1 M_MT_max.2.2.1 M_MT_max.2.2.2 ∈ gtbl ∧ (M_MT_max.1.cls ≠ "java/lang/invoke/MethodHandle" ∧ M_MT_max.1.cls ≠ "java/lang/invoke/VarHandle" ∧ (parseMethodDescriptor M_MT_max.1.desc).map (fun d => d.parameters.length) = some 2) ∧ M_MT_max.2.2.1 ≤ 45 := ⟨gt_in 404 (by decide +kernel) rfl, gt_in 51 (by decide +kernel) rfl, gt_in 405 (by decide +kernel) rfl, ⟨by decide, by decide, by decide +kernel⟩, by decide⟩
theorem k_SC_62 : CallS "BlownByAll$Script" 62 M_MT_max 2 := ⟨gt_in 403 (by decide +kernel) rfl, kc_MT_max⟩
theorem kc_BB_organ : Cond.instanceMethod M_BB_organ.1 ∈ gtbl ∧ Cond.selects M_BB_organ.1.cls M_BB_organ.1 M_BB_organ.1 ∈ gtbl ∧ Cond.initialized M_BB_organ.1.cls ∈ gtbl ∧ Cond.code M_BB_organ.1 M_BB_organ.2.1 M_BB_organ.2.2.1 M_BB_organ.2.2.2 ∈ gtbl ∧ (M_BB_organ.1.cls ≠ "java/lang/invoke/MethodHandle" ∧ M_BB_organ.1.cls ≠ "java/lang/invoke/VarHandle" ∧ (parseMethodDescriptor M_BB_organ.1.desc).map (fun d => d.parameters.length) = some 0) ∧ M_BB_organ.2.2.1 ≤ 45 := ⟨gt_in 407 (by decide +kernel) rfl, gt_in 408 (by decide +kernel) rfl, gt_in 41 (by decide +kernel) rfl, gt_in 409 (by decide +kernel) rfl, ⟨by decide, by decide, by decide +kernel⟩, by decide⟩
theorem k_LW_29 : CallV "BlownByAllLaw" 29 M_BB_organ 0 := ⟨gt_in 406 (by decide +kernel) rfl, kc_BB_organ⟩
theorem kc_PI_takeFrom : Cond.instanceMethod M_PI_takeFrom.1 ∈ gtbl ∧ Cond.selects M_PI_takeFrom.1.cls M_PI_takeFrom.1 M_PI_takeFrom.1 ∈ gtbl ∧ Cond.initialized M_PI_takeFrom.1.cls ∈ gtbl ∧ Cond.code M_PI_takeFrom.1 M_PI_takeFrom.2.1 M_PI_takeFrom.2.2.1 M_PI_takeFrom.2.2.2 ∈ gtbl ∧ (M_PI_takeFrom.1.cls ≠ "java/lang/invoke/MethodHandle" ∧ M_PI_takeFrom.1.cls ≠ "java/lang/invoke/VarHandle" ∧ (parseMethodDescriptor M_PI_takeFrom.1.desc).map (fun d => d.parameters.length) = some 1) ∧ M_PI_takeFrom.2.2.1 ≤ 45 := ⟨gt_in 411 (by decide +kernel) rfl, gt_in 412 (by decide +kernel) rfl, gt_in 43 (by decide +kernel) rfl, gt_in 413 (by decide +kernel) rfl, ⟨by decide, by decide, by decide +kernel⟩, by decide⟩
theorem k_BB_94 : CallV "BlownByAll" 94 M_PI_takeFrom 1 := ⟨gt_in 410 (by decide +kernel) rfl, kc_PI_takeFrom⟩
theorem kc_SC_thirstRead : Cond.instanceMethod M_SC_thirstRead.1 ∈ gtbl ∧ Cond.selects M_SC_thirstRead.1.cls M_SC_thirstRead.1 M_SC_thirstRead.1 ∈ gtbl ∧ Cond.initialized M_SC_thirstRead.1.cls ∈ gtbl ∧ Cond.code M_SC_thirstRead.1 M_SC_thirstRead.2.1 M_SC_thirstRead.2.2.1 M_SC_thirstRead.2.2.2 ∈ gtbl ∧ (M_SC_thirstRead.1.cls ≠ "java/lang/invoke/MethodHandle" ∧ M_SC_thirstRead.1.cls ≠ "java/lang/invoke/VarHandle" ∧ (parseMethodDescriptor M_SC_thirstRead.1.desc).map (fun d => d.parameters.length) = some 1) ∧ M_SC_thirstRead.2.2.1 ≤ 45 := ⟨gt_in 415 (by decide +kernel) rfl, gt_in 416 (by decide +kernel) rfl, gt_in 42 (by decide +kernel) rfl, gt_in 417 (by decide +kernel) rfl, ⟨by decide, by decide, by decide +kernel⟩, by decide⟩
theorem k_PI_33 : CallV "BlownByAll$Pipes" 33 M_SC_thirstRead 1 := ⟨gt_in 414 (by decide +kernel) rfl, kc_SC_thirstRead⟩
theorem kc_SC_beatRead : Cond.instanceMethod M_SC_beatRead.1 ∈ gtbl ∧ Cond.selects M_SC_beatRead.1.cls M_SC_beatRead.1 M_SC_beatRead.1 ∈ gtbl ∧ Cond.initialized M_SC_beatRead.1.cls ∈ gtbl ∧ Cond.code M_SC_beatRead.1 M_SC_beatRead.2.1 M_SC_beatRead.2.2.1 M_SC_beatRead.2.2.2 ∈ gtbl ∧ (M_SC_beatRead.1.cls ≠ "java/lang/invoke/MethodHandle" ∧ M_SC_beatRead.1.cls ≠ "java/lang/invoke/VarHandle" ∧ (parseMethodDescriptor M_SC_beatRead.1.desc).map (fun d => d.parameters.length) = some 1) ∧ M_SC_beatRead.2.2.1 ≤ 45 := ⟨gt_in 419 (by decide +kernel) rfl, gt_in 420 (by decide +kernel) rfl, gt_in 42 (by decide +kernel) rfl, gt_in 421 (by decide +kernel) rfl, ⟨by decide, by decide, by decide +kernel⟩, by decide⟩
theorem k_PI_37 : CallV "BlownByAll$Pipes" 37 M_SC_beatRead 1 := ⟨gt_in 418 (by decide +kernel) rfl, kc_SC_beatRead⟩
theorem kc_PE_takeFrom : Cond.instanceMethod M_PE_takeFrom.1 ∈ gtbl ∧ Cond.selects M_PE_takeFrom.1.cls M_PE_takeFrom.1 M_PE_takeFrom.1 ∈ gtbl ∧ Cond.initialized M_PE_takeFrom.1.cls ∈ gtbl ∧ Cond.code M_PE_takeFrom.1 M_PE_takeFrom.2.1 M_PE_takeFrom.2.2.1 M_PE_takeFrom.2.2.2 ∈ gtbl ∧ (M_PE_takeFrom.1.cls ≠ "java/lang/invoke/MethodHandle" ∧ M_PE_takeFrom.1.cls ≠ "java/lang/invoke/VarHandle" ∧ (parseMethodDescriptor M_PE_takeFrom.1.desc).map (fun d => d.parameters.length) = some 1) ∧ M_PE_takeFrom.2.2.1 ≤ 45 := ⟨gt_in 423 (by decide +kernel) rfl, gt_in 424 (by decide +kernel) rfl, gt_in 44 (by decide +kernel) rfl, gt_in 425 (by decide +kernel) rfl, ⟨by decide, by decide, by decide +kernel⟩, by decide⟩
theorem k_BB_98 : CallV "BlownByAll" 98 M_PE_takeFrom 1 := ⟨gt_in 422 (by decide +kernel) rfl, kc_PE_takeFrom⟩
theorem kc_SC_personRead : Cond.instanceMethod M_SC_personRead.1 ∈ gtbl ∧ Cond.selects M_SC_personRead.1.cls M_SC_personRead.1 M_SC_personRead.1 ∈ gtbl ∧ Cond.initialized M_SC_personRead.1.cls ∈ gtbl ∧ Cond.code M_SC_personRead.1 M_SC_personRead.2.1 M_SC_personRead.2.2.1 M_SC_personRead.2.2.2 ∈ gtbl ∧ (M_SC_personRead.1.cls ≠ "java/lang/invoke/MethodHandle" ∧ M_SC_personRead.1.cls ≠ "java/lang/invoke/VarHandle" ∧ (parseMethodDescriptor M_SC_personRead.1.desc).map (fun d => d.parameters.length) = some 2) ∧ M_SC_personRead.2.2.1 ≤ 45 := ⟨gt_in 427 (by decide +kernel) rfl, gt_in 428 (by decide +kernel) rfl, gt_in 42 (by decide +kernel) rfl, gt_in 429 (by decide +kernel) rfl, ⟨by decide, by decide, by decide +kernel⟩, by decide⟩
theorem k_PE_43 : CallV "BlownByAll$People" 43 M_SC_personRead 2 := ⟨gt_in 426 (by decide +kernel) rfl, kc_SC_personRead⟩
theorem kc_BB_drinks : Cond.instanceMethod M_BB_drinks.1 ∈ gtbl ∧ Cond.selects M_BB_drinks.1.cls M_BB_drinks.1 M_BB_drinks.1 ∈ gtbl ∧ Cond.initialized M_BB_drinks.1.cls ∈ gtbl ∧ Cond.code M_BB_drinks.1 M_BB_drinks.2.1 M_BB_drinks.2.2.1 M_BB_drinks.2.2.2 ∈ gtbl ∧ (M_BB_drinks.1.cls ≠ "java/lang/invoke/MethodHandle" ∧ M_BB_drinks.1.cls ≠ "java/lang/invoke/VarHandle" ∧ (parseMethodDescriptor M_BB_drinks.1.desc).map (fun d => d.parameters.length) = some 1) ∧ M_BB_drinks.2.2.1 ≤ 45 := ⟨gt_in 431 (by decide +kernel) rfl, gt_in 432 (by decide +kernel) rfl, gt_in 41 (by decide +kernel) rfl, gt_in 433 (by decide +kernel) rfl, ⟨by decide, by decide, by decide +kernel⟩, by decide⟩
theorem k_LW_33 : CallV "BlownByAllLaw" 33 M_BB_drinks 1 := ⟨gt_in 430 (by decide +kernel) rfl, kc_BB_drinks⟩
theorem kc_PI_has : Cond.instanceMethod M_PI_has.1 ∈ gtbl ∧ Cond.selects M_PI_has.1.cls M_PI_has.1 M_PI_has.1 ∈ gtbl ∧ Cond.initialized M_PI_has.1.cls ∈ gtbl ∧ Cond.code M_PI_has.1 M_PI_has.2.1 M_PI_has.2.2.1 M_PI_has.2.2.2 ∈ gtbl ∧ (M_PI_has.1.cls ≠ "java/lang/invoke/MethodHandle" ∧ M_PI_has.1.cls ≠ "java/lang/invoke/VarHandle" ∧ (parseMethodDescriptor M_PI_has.1.desc).map (fun d => d.parameters.length) = some 1) ∧ M_PI_has.2.2.1 ≤ 45 := ⟨gt_in 435 (by decide +kernel) rfl, gt_in 436 (by decide +kernel) rfl, gt_in 43 (by decide +kernel) rfl, gt_in 437 (by decide +kernel) rfl, ⟨by decide, by decide, by decide +kernel⟩, by decide⟩
theorem k_BB_104 : CallV "BlownByAll" 104 M_PI_has 1 := ⟨gt_in 434 (by decide +kernel) rfl, kc_PI_has⟩
theorem kc_BB_sounds : Cond.instanceMethod M_BB_sounds.1 ∈ gtbl ∧ Cond.selects M_BB_sounds.1.cls M_BB_sounds.1 M_BB_sounds.1 ∈ gtbl ∧ Cond.initialized M_BB_sounds.1.cls ∈ gtbl ∧ Cond.code M_BB_sounds.1 M_BB_sounds.2.1 M_BB_sounds.2.2.1 M_BB_sounds.2.2.2 ∈ gtbl ∧ (M_BB_sounds.1.cls ≠ "java/lang/invoke/MethodHandle" ∧ M_BB_sounds.1.cls ≠ "java/lang/invoke/VarHandle" ∧ (parseMethodDescriptor M_BB_sounds.1.desc).map (fun d => d.parameters.length) = some 2) ∧ M_BB_sounds.2.2.1 ≤ 45 := ⟨gt_in 439 (by decide +kernel) rfl, gt_in 440 (by decide +kernel) rfl, gt_in 41 (by decide +kernel) rfl, gt_in 441 (by decide +kernel) rfl, ⟨by decide, by decide, by decide +kernel⟩, by decide⟩
theorem k_LW_38 : CallV "BlownByAllLaw" 38 M_BB_sounds 2 := ⟨gt_in 438 (by decide +kernel) rfl, kc_BB_sounds⟩
theorem kc_PI_hasBoth : Cond.instanceMethod M_PI_hasBoth.1 ∈ gtbl ∧ Cond.selects M_PI_hasBoth.1.cls M_PI_hasBoth.1 M_PI_hasBoth.1 ∈ gtbl ∧ Cond.initialized M_PI_hasBoth.1.cls ∈ gtbl ∧ Cond.code M_PI_hasBoth.1 M_PI_hasBoth.2.1 M_PI_hasBoth.2.2.1 M_PI_hasBoth.2.2.2 ∈ gtbl ∧ (M_PI_hasBoth.1.cls ≠ "java/lang/invoke/MethodHandle" ∧ M_PI_hasBoth.1.cls ≠ "java/lang/invoke/VarHandle" ∧ (parseMethodDescriptor M_PI_hasBoth.1.desc).map (fun d => d.parameters.length) = some 2) ∧ M_PI_hasBoth.2.2.1 ≤ 45 := ⟨gt_in 443 (by decide +kernel) rfl, gt_in 444 (by decide +kernel) rfl, gt_in 43 (by decide +kernel) rfl, gt_in 445 (by decide +kernel) rfl, ⟨by decide, by decide, by decide +kernel⟩, by decide⟩
theorem k_BB_111 : CallV "BlownByAll" 111 M_PI_hasBoth 2 := ⟨gt_in 442 (by decide +kernel) rfl, kc_PI_hasBoth⟩
theorem k_PI_40 : CallV "BlownByAll$Pipes" 40 M_PI_has 1 := ⟨gt_in 446 (by decide +kernel) rfl, kc_PI_has⟩
theorem kc_PI_hasBeat : Cond.instanceMethod M_PI_hasBeat.1 ∈ gtbl ∧ Cond.selects M_PI_hasBeat.1.cls M_PI_hasBeat.1 M_PI_hasBeat.1 ∈ gtbl ∧ Cond.initialized M_PI_hasBeat.1.cls ∈ gtbl ∧ Cond.code M_PI_hasBeat.1 M_PI_hasBeat.2.1 M_PI_hasBeat.2.2.1 M_PI_hasBeat.2.2.2 ∈ gtbl ∧ (M_PI_hasBeat.1.cls ≠ "java/lang/invoke/MethodHandle" ∧ M_PI_hasBeat.1.cls ≠ "java/lang/invoke/VarHandle" ∧ (parseMethodDescriptor M_PI_hasBeat.1.desc).map (fun d => d.parameters.length) = some 1) ∧ M_PI_hasBeat.2.2.1 ≤ 45 := ⟨gt_in 448 (by decide +kernel) rfl, gt_in 449 (by decide +kernel) rfl, gt_in 43 (by decide +kernel) rfl, gt_in 450 (by decide +kernel) rfl, ⟨by decide, by decide, by decide +kernel⟩, by decide⟩
theorem k_PI_44 : CallV "BlownByAll$Pipes" 44 M_PI_hasBeat 1 := ⟨gt_in 447 (by decide +kernel) rfl, kc_PI_hasBeat⟩
theorem kc_PI_isSounding : Cond.instanceMethod M_PI_isSounding.1 ∈ gtbl ∧ Cond.selects M_PI_isSounding.1.cls M_PI_isSounding.1 M_PI_isSounding.1 ∈ gtbl ∧ Cond.initialized M_PI_isSounding.1.cls ∈ gtbl ∧ Cond.code M_PI_isSounding.1 M_PI_isSounding.2.1 M_PI_isSounding.2.2.1 M_PI_isSounding.2.2.2 ∈ gtbl ∧ (M_PI_isSounding.1.cls ≠ "java/lang/invoke/MethodHandle" ∧ M_PI_isSounding.1.cls ≠ "java/lang/invoke/VarHandle" ∧ (parseMethodDescriptor M_PI_isSounding.1.desc).map (fun d => d.parameters.length) = some 2) ∧ M_PI_isSounding.2.2.1 ≤ 45 := ⟨gt_in 452 (by decide +kernel) rfl, gt_in 453 (by decide +kernel) rfl, gt_in 43 (by decide +kernel) rfl, gt_in 454 (by decide +kernel) rfl, ⟨by decide, by decide, by decide +kernel⟩, by decide⟩
theorem k_BB_115 : CallV "BlownByAll" 115 M_PI_isSounding 2 := ⟨gt_in 451 (by decide +kernel) rfl, kc_PI_isSounding⟩
theorem kc_BB_person : Cond.instanceMethod M_BB_person.1 ∈ gtbl ∧ Cond.selects M_BB_person.1.cls M_BB_person.1 M_BB_person.1 ∈ gtbl ∧ Cond.initialized M_BB_person.1.cls ∈ gtbl ∧ Cond.code M_BB_person.1 M_BB_person.2.1 M_BB_person.2.2.1 M_BB_person.2.2.2 ∈ gtbl ∧ (M_BB_person.1.cls ≠ "java/lang/invoke/MethodHandle" ∧ M_BB_person.1.cls ≠ "java/lang/invoke/VarHandle" ∧ (parseMethodDescriptor M_BB_person.1.desc).map (fun d => d.parameters.length) = some 2) ∧ M_BB_person.2.2.1 ≤ 45 := ⟨gt_in 456 (by decide +kernel) rfl, gt_in 457 (by decide +kernel) rfl, gt_in 41 (by decide +kernel) rfl, gt_in 458 (by decide +kernel) rfl, ⟨by decide, by decide, by decide +kernel⟩, by decide⟩
theorem k_LW_43 : CallV "BlownByAllLaw" 43 M_BB_person 2 := ⟨gt_in 455 (by decide +kernel) rfl, kc_BB_person⟩
theorem kc_PE_has : Cond.instanceMethod M_PE_has.1 ∈ gtbl ∧ Cond.selects M_PE_has.1.cls M_PE_has.1 M_PE_has.1 ∈ gtbl ∧ Cond.initialized M_PE_has.1.cls ∈ gtbl ∧ Cond.code M_PE_has.1 M_PE_has.2.1 M_PE_has.2.2.1 M_PE_has.2.2.2 ∈ gtbl ∧ (M_PE_has.1.cls ≠ "java/lang/invoke/MethodHandle" ∧ M_PE_has.1.cls ≠ "java/lang/invoke/VarHandle" ∧ (parseMethodDescriptor M_PE_has.1.desc).map (fun d => d.parameters.length) = some 1) ∧ M_PE_has.2.2.1 ≤ 45 := ⟨gt_in 460 (by decide +kernel) rfl, gt_in 461 (by decide +kernel) rfl, gt_in 44 (by decide +kernel) rfl, gt_in 462 (by decide +kernel) rfl, ⟨by decide, by decide, by decide +kernel⟩, by decide⟩
theorem k_BB_118 : CallV "BlownByAll" 118 M_PE_has 1 := ⟨gt_in 459 (by decide +kernel) rfl, kc_PE_has⟩
theorem kc_BB_seat : Cond.instanceMethod M_BB_seat.1 ∈ gtbl ∧ Cond.selects M_BB_seat.1.cls M_BB_seat.1 M_BB_seat.1 ∈ gtbl ∧ Cond.initialized M_BB_seat.1.cls ∈ gtbl ∧ Cond.code M_BB_seat.1 M_BB_seat.2.1 M_BB_seat.2.2.1 M_BB_seat.2.2.2 ∈ gtbl ∧ (M_BB_seat.1.cls ≠ "java/lang/invoke/MethodHandle" ∧ M_BB_seat.1.cls ≠ "java/lang/invoke/VarHandle" ∧ (parseMethodDescriptor M_BB_seat.1.desc).map (fun d => d.parameters.length) = some 2) ∧ M_BB_seat.2.2.1 ≤ 45 := ⟨gt_in 464 (by decide +kernel) rfl, gt_in 465 (by decide +kernel) rfl, gt_in 41 (by decide +kernel) rfl, gt_in 466 (by decide +kernel) rfl, ⟨by decide, by decide, by decide +kernel⟩, by decide⟩
theorem k_LW_47 : CallV "BlownByAllLaw" 47 M_BB_seat 2 := ⟨gt_in 463 (by decide +kernel) rfl, kc_BB_seat⟩
theorem kc_BB_phase : Cond.instanceMethod M_BB_phase.1 ∈ gtbl ∧ Cond.selects M_BB_phase.1.cls M_BB_phase.1 M_BB_phase.1 ∈ gtbl ∧ Cond.initialized M_BB_phase.1.cls ∈ gtbl ∧ Cond.code M_BB_phase.1 M_BB_phase.2.1 M_BB_phase.2.2.1 M_BB_phase.2.2.2 ∈ gtbl ∧ (M_BB_phase.1.cls ≠ "java/lang/invoke/MethodHandle" ∧ M_BB_phase.1.cls ≠ "java/lang/invoke/VarHandle" ∧ (parseMethodDescriptor M_BB_phase.1.desc).map (fun d => d.parameters.length) = some 2) ∧ M_BB_phase.2.2.1 ≤ 45 := ⟨gt_in 468 (by decide +kernel) rfl, gt_in 469 (by decide +kernel) rfl, gt_in 41 (by decide +kernel) rfl, gt_in 470 (by decide +kernel) rfl, ⟨by decide, by decide, by decide +kernel⟩, by decide⟩
theorem k_LW_51 : CallV "BlownByAllLaw" 51 M_BB_phase 2 := ⟨gt_in 467 (by decide +kernel) rfl, kc_BB_phase⟩
theorem kc_BB_bribe : Cond.instanceMethod M_BB_bribe.1 ∈ gtbl ∧ Cond.selects M_BB_bribe.1.cls M_BB_bribe.1 M_BB_bribe.1 ∈ gtbl ∧ Cond.initialized M_BB_bribe.1.cls ∈ gtbl ∧ Cond.code M_BB_bribe.1 M_BB_bribe.2.1 M_BB_bribe.2.2.1 M_BB_bribe.2.2.2 ∈ gtbl ∧ (M_BB_bribe.1.cls ≠ "java/lang/invoke/MethodHandle" ∧ M_BB_bribe.1.cls ≠ "java/lang/invoke/VarHandle" ∧ (parseMethodDescriptor M_BB_bribe.1.desc).map (fun d => d.parameters.length) = some 2) ∧ M_BB_bribe.2.2.1 ≤ 45 := ⟨gt_in 472 (by decide +kernel) rfl, gt_in 473 (by decide +kernel) rfl, gt_in 41 (by decide +kernel) rfl, gt_in 474 (by decide +kernel) rfl, ⟨by decide, by decide, by decide +kernel⟩, by decide⟩
theorem k_LW_55 : CallV "BlownByAllLaw" 55 M_BB_bribe 2 := ⟨gt_in 471 (by decide +kernel) rfl, kc_BB_bribe⟩
theorem kc_BB_grow : Cond.instanceMethod M_BB_grow.1 ∈ gtbl ∧ Cond.selects M_BB_grow.1.cls M_BB_grow.1 M_BB_grow.1 ∈ gtbl ∧ Cond.initialized M_BB_grow.1.cls ∈ gtbl ∧ Cond.code M_BB_grow.1 M_BB_grow.2.1 M_BB_grow.2.2.1 M_BB_grow.2.2.2 ∈ gtbl ∧ (M_BB_grow.1.cls ≠ "java/lang/invoke/MethodHandle" ∧ M_BB_grow.1.cls ≠ "java/lang/invoke/VarHandle" ∧ (parseMethodDescriptor M_BB_grow.1.desc).map (fun d => d.parameters.length) = some 1) ∧ M_BB_grow.2.2.1 ≤ 45 := ⟨gt_in 476 (by decide +kernel) rfl, gt_in 477 (by decide +kernel) rfl, gt_in 41 (by decide +kernel) rfl, gt_in 478 (by decide +kernel) rfl, ⟨by decide, by decide, by decide +kernel⟩, by decide⟩
theorem k_LW_60 : CallV "BlownByAllLaw" 60 M_BB_grow 1 := ⟨gt_in 475 (by decide +kernel) rfl, kc_BB_grow⟩
theorem kc_BB_store : Cond.instanceMethod M_BB_store.1 ∈ gtbl ∧ Cond.selects M_BB_store.1.cls M_BB_store.1 M_BB_store.1 ∈ gtbl ∧ Cond.initialized M_BB_store.1.cls ∈ gtbl ∧ Cond.code M_BB_store.1 M_BB_store.2.1 M_BB_store.2.2.1 M_BB_store.2.2.2 ∈ gtbl ∧ (M_BB_store.1.cls ≠ "java/lang/invoke/MethodHandle" ∧ M_BB_store.1.cls ≠ "java/lang/invoke/VarHandle" ∧ (parseMethodDescriptor M_BB_store.1.desc).map (fun d => d.parameters.length) = some 1) ∧ M_BB_store.2.2.1 ≤ 45 := ⟨gt_in 480 (by decide +kernel) rfl, gt_in 481 (by decide +kernel) rfl, gt_in 41 (by decide +kernel) rfl, gt_in 482 (by decide +kernel) rfl, ⟨by decide, by decide, by decide +kernel⟩, by decide⟩
theorem k_LW_64 : CallV "BlownByAllLaw" 64 M_BB_store 1 := ⟨gt_in 479 (by decide +kernel) rfl, kc_BB_store⟩
theorem kc_BB_late : Cond.instanceMethod M_BB_late.1 ∈ gtbl ∧ Cond.selects M_BB_late.1.cls M_BB_late.1 M_BB_late.1 ∈ gtbl ∧ Cond.initialized M_BB_late.1.cls ∈ gtbl ∧ Cond.code M_BB_late.1 M_BB_late.2.1 M_BB_late.2.2.1 M_BB_late.2.2.2 ∈ gtbl ∧ (M_BB_late.1.cls ≠ "java/lang/invoke/MethodHandle" ∧ M_BB_late.1.cls ≠ "java/lang/invoke/VarHandle" ∧ (parseMethodDescriptor M_BB_late.1.desc).map (fun d => d.parameters.length) = some 1) ∧ M_BB_late.2.2.1 ≤ 45 := ⟨gt_in 484 (by decide +kernel) rfl, gt_in 485 (by decide +kernel) rfl, gt_in 41 (by decide +kernel) rfl, gt_in 486 (by decide +kernel) rfl, ⟨by decide, by decide, by decide +kernel⟩, by decide⟩
theorem k_LW_68 : CallV "BlownByAllLaw" 68 M_BB_late 1 := ⟨gt_in 483 (by decide +kernel) rfl, kc_BB_late⟩
theorem kc_BB_gives : Cond.instanceMethod M_BB_gives.1 ∈ gtbl ∧ Cond.selects M_BB_gives.1.cls M_BB_gives.1 M_BB_gives.1 ∈ gtbl ∧ Cond.initialized M_BB_gives.1.cls ∈ gtbl ∧ Cond.code M_BB_gives.1 M_BB_gives.2.1 M_BB_gives.2.2.1 M_BB_gives.2.2.2 ∈ gtbl ∧ (M_BB_gives.1.cls ≠ "java/lang/invoke/MethodHandle" ∧ M_BB_gives.1.cls ≠ "java/lang/invoke/VarHandle" ∧ (parseMethodDescriptor M_BB_gives.1.desc).map (fun d => d.parameters.length) = some 2) ∧ M_BB_gives.2.2.1 ≤ 45 := ⟨gt_in 488 (by decide +kernel) rfl, gt_in 489 (by decide +kernel) rfl, gt_in 41 (by decide +kernel) rfl, gt_in 490 (by decide +kernel) rfl, ⟨by decide, by decide, by decide +kernel⟩, by decide⟩
theorem k_LW_72 : CallV "BlownByAllLaw" 72 M_BB_gives 2 := ⟨gt_in 487 (by decide +kernel) rfl, kc_BB_gives⟩
theorem k_BB_140 : CallV "BlownByAll" 140 M_PI_hasBeat 1 := ⟨gt_in 491 (by decide +kernel) rfl, kc_PI_hasBeat⟩
theorem kc_PE_givenAt : Cond.instanceMethod M_PE_givenAt.1 ∈ gtbl ∧ Cond.selects M_PE_givenAt.1.cls M_PE_givenAt.1 M_PE_givenAt.1 ∈ gtbl ∧ Cond.initialized M_PE_givenAt.1.cls ∈ gtbl ∧ Cond.code M_PE_givenAt.1 M_PE_givenAt.2.1 M_PE_givenAt.2.2.1 M_PE_givenAt.2.2.2 ∈ gtbl ∧ (M_PE_givenAt.1.cls ≠ "java/lang/invoke/MethodHandle" ∧ M_PE_givenAt.1.cls ≠ "java/lang/invoke/VarHandle" ∧ (parseMethodDescriptor M_PE_givenAt.1.desc).map (fun d => d.parameters.length) = some 2) ∧ M_PE_givenAt.2.2.1 ≤ 45 := ⟨gt_in 493 (by decide +kernel) rfl, gt_in 494 (by decide +kernel) rfl, gt_in 44 (by decide +kernel) rfl, gt_in 495 (by decide +kernel) rfl, ⟨by decide, by decide, by decide +kernel⟩, by decide⟩
theorem k_BB_143 : CallV "BlownByAll" 143 M_PE_givenAt 2 := ⟨gt_in 492 (by decide +kernel) rfl, kc_PE_givenAt⟩
theorem kc_BB_air : Cond.instanceMethod M_BB_air.1 ∈ gtbl ∧ Cond.selects M_BB_air.1.cls M_BB_air.1 M_BB_air.1 ∈ gtbl ∧ Cond.initialized M_BB_air.1.cls ∈ gtbl ∧ Cond.code M_BB_air.1 M_BB_air.2.1 M_BB_air.2.2.1 M_BB_air.2.2.2 ∈ gtbl ∧ (M_BB_air.1.cls ≠ "java/lang/invoke/MethodHandle" ∧ M_BB_air.1.cls ≠ "java/lang/invoke/VarHandle" ∧ (parseMethodDescriptor M_BB_air.1.desc).map (fun d => d.parameters.length) = some 2) ∧ M_BB_air.2.2.1 ≤ 45 := ⟨gt_in 497 (by decide +kernel) rfl, gt_in 498 (by decide +kernel) rfl, gt_in 41 (by decide +kernel) rfl, gt_in 499 (by decide +kernel) rfl, ⟨by decide, by decide, by decide +kernel⟩, by decide⟩
theorem k_LW_76 : CallV "BlownByAllLaw" 76 M_BB_air 2 := ⟨gt_in 496 (by decide +kernel) rfl, kc_BB_air⟩
theorem kc_PE_sittingAt : Cond.instanceMethod M_PE_sittingAt.1 ∈ gtbl ∧ Cond.selects M_PE_sittingAt.1.cls M_PE_sittingAt.1 M_PE_sittingAt.1 ∈ gtbl ∧ Cond.initialized M_PE_sittingAt.1.cls ∈ gtbl ∧ Cond.code M_PE_sittingAt.1 M_PE_sittingAt.2.1 M_PE_sittingAt.2.2.1 M_PE_sittingAt.2.2.2 ∈ gtbl ∧ (M_PE_sittingAt.1.cls ≠ "java/lang/invoke/MethodHandle" ∧ M_PE_sittingAt.1.cls ≠ "java/lang/invoke/VarHandle" ∧ (parseMethodDescriptor M_PE_sittingAt.1.desc).map (fun d => d.parameters.length) = some 1) ∧ M_PE_sittingAt.2.2.1 ≤ 45 := ⟨gt_in 501 (by decide +kernel) rfl, gt_in 502 (by decide +kernel) rfl, gt_in 44 (by decide +kernel) rfl, gt_in 503 (by decide +kernel) rfl, ⟨by decide, by decide, by decide +kernel⟩, by decide⟩
theorem k_BB_147 : CallV "BlownByAll" 147 M_PE_sittingAt 1 := ⟨gt_in 500 (by decide +kernel) rfl, kc_PE_sittingAt⟩
theorem kc_MA_gather : Cond.instanceMethod M_MA_gather.1 ∈ gtbl ∧ Cond.selects M_MA_gather.1.cls M_MA_gather.1 M_MA_gather.1 ∈ gtbl ∧ Cond.initialized M_MA_gather.1.cls ∈ gtbl ∧ Cond.code M_MA_gather.1 M_MA_gather.2.1 M_MA_gather.2.2.1 M_MA_gather.2.2.2 ∈ gtbl ∧ (M_MA_gather.1.cls ≠ "java/lang/invoke/MethodHandle" ∧ M_MA_gather.1.cls ≠ "java/lang/invoke/VarHandle" ∧ (parseMethodDescriptor M_MA_gather.1.desc).map (fun d => d.parameters.length) = some 2) ∧ M_MA_gather.2.2.1 ≤ 45 := ⟨gt_in 505 (by decide +kernel) rfl, gt_in 506 (by decide +kernel) rfl, gt_in 45 (by decide +kernel) rfl, gt_in 507 (by decide +kernel) rfl, ⟨by decide, by decide, by decide +kernel⟩, by decide⟩
theorem k_BB_151 : CallV "BlownByAll" 151 M_MA_gather 2 := ⟨gt_in 504 (by decide +kernel) rfl, kc_MA_gather⟩
theorem kc_MA_fill : Cond.instanceMethod M_MA_fill.1 ∈ gtbl ∧ Cond.selects M_MA_fill.1.cls M_MA_fill.1 M_MA_fill.1 ∈ gtbl ∧ Cond.initialized M_MA_fill.1.cls ∈ gtbl ∧ Cond.code M_MA_fill.1 M_MA_fill.2.1 M_MA_fill.2.2.1 M_MA_fill.2.2.2 ∈ gtbl ∧ (M_MA_fill.1.cls ≠ "java/lang/invoke/MethodHandle" ∧ M_MA_fill.1.cls ≠ "java/lang/invoke/VarHandle" ∧ (parseMethodDescriptor M_MA_fill.1.desc).map (fun d => d.parameters.length) = some 1) ∧ M_MA_fill.2.2.1 ≤ 45 := ⟨gt_in 509 (by decide +kernel) rfl, gt_in 510 (by decide +kernel) rfl, gt_in 45 (by decide +kernel) rfl, gt_in 511 (by decide +kernel) rfl, ⟨by decide, by decide, by decide +kernel⟩, by decide⟩
theorem k_MA_29 : CallV "BlownByAll$Mass" 29 M_MA_fill 1 := ⟨gt_in 508 (by decide +kernel) rfl, kc_MA_fill⟩
theorem k_MA_44 : CallV "BlownByAll$Mass" 44 M_PE_givenAt 2 := ⟨gt_in 512 (by decide +kernel) rfl, kc_PE_givenAt⟩
theorem kc_BB_stored : Cond.instanceMethod M_BB_stored.1 ∈ gtbl ∧ Cond.selects M_BB_stored.1.cls M_BB_stored.1 M_BB_stored.1 ∈ gtbl ∧ Cond.initialized M_BB_stored.1.cls ∈ gtbl ∧ Cond.code M_BB_stored.1 M_BB_stored.2.1 M_BB_stored.2.2.1 M_BB_stored.2.2.2 ∈ gtbl ∧ (M_BB_stored.1.cls ≠ "java/lang/invoke/MethodHandle" ∧ M_BB_stored.1.cls ≠ "java/lang/invoke/VarHandle" ∧ (parseMethodDescriptor M_BB_stored.1.desc).map (fun d => d.parameters.length) = some 2) ∧ M_BB_stored.2.2.1 ≤ 45 := ⟨gt_in 514 (by decide +kernel) rfl, gt_in 515 (by decide +kernel) rfl, gt_in 41 (by decide +kernel) rfl, gt_in 516 (by decide +kernel) rfl, ⟨by decide, by decide, by decide +kernel⟩, by decide⟩
theorem k_LW_80 : CallV "BlownByAllLaw" 80 M_BB_stored 2 := ⟨gt_in 513 (by decide +kernel) rfl, kc_BB_stored⟩
theorem kc_MA_play : Cond.instanceMethod M_MA_play.1 ∈ gtbl ∧ Cond.selects M_MA_play.1.cls M_MA_play.1 M_MA_play.1 ∈ gtbl ∧ Cond.initialized M_MA_play.1.cls ∈ gtbl ∧ Cond.code M_MA_play.1 M_MA_play.2.1 M_MA_play.2.2.1 M_MA_play.2.2.2 ∈ gtbl ∧ (M_MA_play.1.cls ≠ "java/lang/invoke/MethodHandle" ∧ M_MA_play.1.cls ≠ "java/lang/invoke/VarHandle" ∧ (parseMethodDescriptor M_MA_play.1.desc).map (fun d => d.parameters.length) = some 2) ∧ M_MA_play.2.2.1 ≤ 45 := ⟨gt_in 518 (by decide +kernel) rfl, gt_in 519 (by decide +kernel) rfl, gt_in 45 (by decide +kernel) rfl, gt_in 520 (by decide +kernel) rfl, ⟨by decide, by decide, by decide +kernel⟩, by decide⟩
theorem k_BB_158 : CallV "BlownByAll" 158 M_MA_play 2 := ⟨gt_in 517 (by decide +kernel) rfl, kc_MA_play⟩
theorem k_MA_75 : CallV "BlownByAll$Mass" 75 M_PE_sittingAt 1 := ⟨gt_in 521 (by decide +kernel) rfl, kc_PE_sittingAt⟩
theorem k_MA_79 : CallV "BlownByAll$Mass" 79 M_MA_gather 2 := ⟨gt_in 522 (by decide +kernel) rfl, kc_MA_gather⟩
theorem kc_MA_blow : Cond.instanceMethod M_MA_blow.1 ∈ gtbl ∧ Cond.selects M_MA_blow.1.cls M_MA_blow.1 M_MA_blow.1 ∈ gtbl ∧ Cond.initialized M_MA_blow.1.cls ∈ gtbl ∧ Cond.code M_MA_blow.1 M_MA_blow.2.1 M_MA_blow.2.2.1 M_MA_blow.2.2.2 ∈ gtbl ∧ (M_MA_blow.1.cls ≠ "java/lang/invoke/MethodHandle" ∧ M_MA_blow.1.cls ≠ "java/lang/invoke/VarHandle" ∧ (parseMethodDescriptor M_MA_blow.1.desc).map (fun d => d.parameters.length) = some 1) ∧ M_MA_blow.2.2.1 ≤ 45 := ⟨gt_in 524 (by decide +kernel) rfl, gt_in 525 (by decide +kernel) rfl, gt_in 45 (by decide +kernel) rfl, gt_in 526 (by decide +kernel) rfl, ⟨by decide, by decide, by decide +kernel⟩, by decide⟩
theorem k_MA_83 : CallV "BlownByAll$Mass" 83 M_MA_blow 1 := ⟨gt_in 523 (by decide +kernel) rfl, kc_MA_blow⟩
theorem k_MA_59 : CallV "BlownByAll$Mass" 59 M_PI_isSounding 2 := ⟨gt_in 527 (by decide +kernel) rfl, kc_PI_isSounding⟩
theorem k_MA_69 : CallS "BlownByAll$Mass" 69 M_MT_min 2 := ⟨gt_in 528 (by decide +kernel) rfl, kc_MT_min⟩
theorem k_MA_72 : CallS "BlownByAll$Mass" 72 M_MT_max 2 := ⟨gt_in 529 (by decide +kernel) rfl, kc_MT_max⟩
theorem kc_BB_sags : Cond.instanceMethod M_BB_sags.1 ∈ gtbl ∧ Cond.selects M_BB_sags.1.cls M_BB_sags.1 M_BB_sags.1 ∈ gtbl ∧ Cond.initialized M_BB_sags.1.cls ∈ gtbl ∧ Cond.code M_BB_sags.1 M_BB_sags.2.1 M_BB_sags.2.2.1 M_BB_sags.2.2.2 ∈ gtbl ∧ (M_BB_sags.1.cls ≠ "java/lang/invoke/MethodHandle" ∧ M_BB_sags.1.cls ≠ "java/lang/invoke/VarHandle" ∧ (parseMethodDescriptor M_BB_sags.1.desc).map (fun d => d.parameters.length) = some 2) ∧ M_BB_sags.2.2.1 ≤ 45 := ⟨gt_in 531 (by decide +kernel) rfl, gt_in 532 (by decide +kernel) rfl, gt_in 41 (by decide +kernel) rfl, gt_in 533 (by decide +kernel) rfl, ⟨by decide, by decide, by decide +kernel⟩, by decide⟩
theorem k_LW_84 : CallV "BlownByAllLaw" 84 M_BB_sags 2 := ⟨gt_in 530 (by decide +kernel) rfl, kc_BB_sags⟩
theorem kc_BB_total : Cond.instanceMethod M_BB_total.1 ∈ gtbl ∧ Cond.selects M_BB_total.1.cls M_BB_total.1 M_BB_total.1 ∈ gtbl ∧ Cond.initialized M_BB_total.1.cls ∈ gtbl ∧ Cond.code M_BB_total.1 M_BB_total.2.1 M_BB_total.2.2.1 M_BB_total.2.2.2 ∈ gtbl ∧ (M_BB_total.1.cls ≠ "java/lang/invoke/MethodHandle" ∧ M_BB_total.1.cls ≠ "java/lang/invoke/VarHandle" ∧ (parseMethodDescriptor M_BB_total.1.desc).map (fun d => d.parameters.length) = some 0) ∧ M_BB_total.2.2.1 ≤ 45 := ⟨gt_in 535 (by decide +kernel) rfl, gt_in 536 (by decide +kernel) rfl, gt_in 41 (by decide +kernel) rfl, gt_in 537 (by decide +kernel) rfl, ⟨by decide, by decide, by decide +kernel⟩, by decide⟩
theorem k_LW_88 : CallV "BlownByAllLaw" 88 M_BB_total 0 := ⟨gt_in 534 (by decide +kernel) rfl, kc_BB_total⟩
theorem kc_MA_playAll : Cond.instanceMethod M_MA_playAll.1 ∈ gtbl ∧ Cond.selects M_MA_playAll.1.cls M_MA_playAll.1 M_MA_playAll.1 ∈ gtbl ∧ Cond.initialized M_MA_playAll.1.cls ∈ gtbl ∧ Cond.code M_MA_playAll.1 M_MA_playAll.2.1 M_MA_playAll.2.2.1 M_MA_playAll.2.2.2 ∈ gtbl ∧ (M_MA_playAll.1.cls ≠ "java/lang/invoke/MethodHandle" ∧ M_MA_playAll.1.cls ≠ "java/lang/invoke/VarHandle" ∧ (parseMethodDescriptor M_MA_playAll.1.desc).map (fun d => d.parameters.length) = some 1) ∧ M_MA_playAll.2.2.1 ≤ 45 := ⟨gt_in 539 (by decide +kernel) rfl, gt_in 540 (by decide +kernel) rfl, gt_in 45 (by decide +kernel) rfl, gt_in 541 (by decide +kernel) rfl, ⟨by decide, by decide, by decide +kernel⟩, by decide⟩
theorem k_BB_167 : CallV "BlownByAll" 167 M_MA_playAll 1 := ⟨gt_in 538 (by decide +kernel) rfl, kc_MA_playAll⟩
theorem k_MA_87 : CallV "BlownByAll$Mass" 87 M_MA_play 2 := ⟨gt_in 542 (by decide +kernel) rfl, kc_MA_play⟩
theorem kc_BB_first : Cond.instanceMethod M_BB_first.1 ∈ gtbl ∧ Cond.selects M_BB_first.1.cls M_BB_first.1 M_BB_first.1 ∈ gtbl ∧ Cond.initialized M_BB_first.1.cls ∈ gtbl ∧ Cond.code M_BB_first.1 M_BB_first.2.1 M_BB_first.2.2.1 M_BB_first.2.2.2 ∈ gtbl ∧ (M_BB_first.1.cls ≠ "java/lang/invoke/MethodHandle" ∧ M_BB_first.1.cls ≠ "java/lang/invoke/VarHandle" ∧ (parseMethodDescriptor M_BB_first.1.desc).map (fun d => d.parameters.length) = some 0) ∧ M_BB_first.2.2.1 ≤ 45 := ⟨gt_in 544 (by decide +kernel) rfl, gt_in 545 (by decide +kernel) rfl, gt_in 41 (by decide +kernel) rfl, gt_in 546 (by decide +kernel) rfl, ⟨by decide, by decide, by decide +kernel⟩, by decide⟩
theorem k_LW_92 : CallV "BlownByAllLaw" 92 M_BB_first 0 := ⟨gt_in 543 (by decide +kernel) rfl, kc_BB_first⟩
theorem kc_MA_firstMissing : Cond.instanceMethod M_MA_firstMissing.1 ∈ gtbl ∧ Cond.selects M_MA_firstMissing.1.cls M_MA_firstMissing.1 M_MA_firstMissing.1 ∈ gtbl ∧ Cond.initialized M_MA_firstMissing.1.cls ∈ gtbl ∧ Cond.code M_MA_firstMissing.1 M_MA_firstMissing.2.1 M_MA_firstMissing.2.2.1 M_MA_firstMissing.2.2.2 ∈ gtbl ∧ (M_MA_firstMissing.1.cls ≠ "java/lang/invoke/MethodHandle" ∧ M_MA_firstMissing.1.cls ≠ "java/lang/invoke/VarHandle" ∧ (parseMethodDescriptor M_MA_firstMissing.1.desc).map (fun d => d.parameters.length) = some 0) ∧ M_MA_firstMissing.2.2.1 ≤ 45 := ⟨gt_in 548 (by decide +kernel) rfl, gt_in 549 (by decide +kernel) rfl, gt_in 45 (by decide +kernel) rfl, gt_in 550 (by decide +kernel) rfl, ⟨by decide, by decide, by decide +kernel⟩, by decide⟩
theorem k_BB_170 : CallV "BlownByAll" 170 M_MA_firstMissing 0 := ⟨gt_in 547 (by decide +kernel) rfl, kc_MA_firstMissing⟩
theorem kc_BB_worst : Cond.instanceMethod M_BB_worst.1 ∈ gtbl ∧ Cond.selects M_BB_worst.1.cls M_BB_worst.1 M_BB_worst.1 ∈ gtbl ∧ Cond.initialized M_BB_worst.1.cls ∈ gtbl ∧ Cond.code M_BB_worst.1 M_BB_worst.2.1 M_BB_worst.2.2.1 M_BB_worst.2.2.2 ∈ gtbl ∧ (M_BB_worst.1.cls ≠ "java/lang/invoke/MethodHandle" ∧ M_BB_worst.1.cls ≠ "java/lang/invoke/VarHandle" ∧ (parseMethodDescriptor M_BB_worst.1.desc).map (fun d => d.parameters.length) = some 0) ∧ M_BB_worst.2.2.1 ≤ 45 := ⟨gt_in 552 (by decide +kernel) rfl, gt_in 553 (by decide +kernel) rfl, gt_in 41 (by decide +kernel) rfl, gt_in 554 (by decide +kernel) rfl, ⟨by decide, by decide, by decide +kernel⟩, by decide⟩
theorem k_LW_96 : CallV "BlownByAllLaw" 96 M_BB_worst 0 := ⟨gt_in 551 (by decide +kernel) rfl, kc_BB_worst⟩
theorem kc_BB_bestLate : Cond.instanceMethod M_BB_bestLate.1 ∈ gtbl ∧ Cond.selects M_BB_bestLate.1.cls M_BB_bestLate.1 M_BB_bestLate.1 ∈ gtbl ∧ Cond.initialized M_BB_bestLate.1.cls ∈ gtbl ∧ Cond.code M_BB_bestLate.1 M_BB_bestLate.2.1 M_BB_bestLate.2.2.1 M_BB_bestLate.2.2.2 ∈ gtbl ∧ (M_BB_bestLate.1.cls ≠ "java/lang/invoke/MethodHandle" ∧ M_BB_bestLate.1.cls ≠ "java/lang/invoke/VarHandle" ∧ (parseMethodDescriptor M_BB_bestLate.1.desc).map (fun d => d.parameters.length) = some 0) ∧ M_BB_bestLate.2.2.1 ≤ 45 := ⟨gt_in 556 (by decide +kernel) rfl, gt_in 557 (by decide +kernel) rfl, gt_in 41 (by decide +kernel) rfl, gt_in 558 (by decide +kernel) rfl, ⟨by decide, by decide, by decide +kernel⟩, by decide⟩
theorem k_LW_100 : CallV "BlownByAllLaw" 100 M_BB_bestLate 0 := ⟨gt_in 555 (by decide +kernel) rfl, kc_BB_bestLate⟩
theorem kc_BB_phases : Cond.instanceMethod M_BB_phases.1 ∈ gtbl ∧ Cond.selects M_BB_phases.1.cls M_BB_phases.1 M_BB_phases.1 ∈ gtbl ∧ Cond.initialized M_BB_phases.1.cls ∈ gtbl ∧ Cond.code M_BB_phases.1 M_BB_phases.2.1 M_BB_phases.2.2.1 M_BB_phases.2.2.2 ∈ gtbl ∧ (M_BB_phases.1.cls ≠ "java/lang/invoke/MethodHandle" ∧ M_BB_phases.1.cls ≠ "java/lang/invoke/VarHandle" ∧ (parseMethodDescriptor M_BB_phases.1.desc).map (fun d => d.parameters.length) = some 1) ∧ M_BB_phases.2.2.1 ≤ 45 := ⟨gt_in 560 (by decide +kernel) rfl, gt_in 561 (by decide +kernel) rfl, gt_in 41 (by decide +kernel) rfl, gt_in 562 (by decide +kernel) rfl, ⟨by decide, by decide, by decide +kernel⟩, by decide⟩
theorem k_LW_104 : CallV "BlownByAllLaw" 104 M_BB_phases 1 := ⟨gt_in 559 (by decide +kernel) rfl, kc_BB_phases⟩
theorem kc_PH_find : Cond.instanceMethod M_PH_find.1 ∈ gtbl ∧ Cond.selects M_PH_find.1.cls M_PH_find.1 M_PH_find.1 ∈ gtbl ∧ Cond.initialized M_PH_find.1.cls ∈ gtbl ∧ Cond.code M_PH_find.1 M_PH_find.2.1 M_PH_find.2.2.1 M_PH_find.2.2.2 ∈ gtbl ∧ (M_PH_find.1.cls ≠ "java/lang/invoke/MethodHandle" ∧ M_PH_find.1.cls ≠ "java/lang/invoke/VarHandle" ∧ (parseMethodDescriptor M_PH_find.1.desc).map (fun d => d.parameters.length) = some 1) ∧ M_PH_find.2.2.1 ≤ 45 := ⟨gt_in 564 (by decide +kernel) rfl, gt_in 565 (by decide +kernel) rfl, gt_in 46 (by decide +kernel) rfl, gt_in 566 (by decide +kernel) rfl, ⟨by decide, by decide, by decide +kernel⟩, by decide⟩
theorem k_BB_173 : CallV "BlownByAll" 173 M_PH_find 1 := ⟨gt_in 563 (by decide +kernel) rfl, kc_PH_find⟩
theorem k_PH_32 : CallV "BlownByAll$PhasePlan" 32 M_PE_sittingAt 1 := ⟨gt_in 567 (by decide +kernel) rfl, kc_PE_sittingAt⟩
theorem kc_IG_bitCount : Cond.static M_IG_bitCount.1 ∈ gtbl ∧ Cond.initialized M_IG_bitCount.1.cls ∈ gtbl ∧ Cond.code M_IG_bitCount.1 M_IG_bitCount.2.1 M_IG_bitCount.2.2.1 M_IG_bitCount.2.2.2 ∈ gtbl ∧ (M_IG_bitCount.1.cls ≠ "java/lang/invoke/MethodHandle" ∧ M_IG_bitCount.1.cls ≠ "java/lang/invoke/VarHandle" ∧ (parseMethodDescriptor M_IG_bitCount.1.desc).map (fun d => d.parameters.length) = some 1) ∧ M_IG_bitCount.2.2.1 ≤ 45 := ⟨gt_in 569 (by decide +kernel) rfl, gt_in 52 (by decide +kernel) rfl, gt_in 570 (by decide +kernel) rfl, ⟨by decide, by decide, by decide +kernel⟩, by decide⟩
theorem k_PH_38 : CallS "BlownByAll$PhasePlan" 38 M_IG_bitCount 1 := ⟨gt_in 568 (by decide +kernel) rfl, kc_IG_bitCount⟩
theorem kc_PH_list : Cond.instanceMethod M_PH_list.1 ∈ gtbl ∧ Cond.selects M_PH_list.1.cls M_PH_list.1 M_PH_list.1 ∈ gtbl ∧ Cond.initialized M_PH_list.1.cls ∈ gtbl ∧ Cond.code M_PH_list.1 M_PH_list.2.1 M_PH_list.2.2.1 M_PH_list.2.2.2 ∈ gtbl ∧ (M_PH_list.1.cls ≠ "java/lang/invoke/MethodHandle" ∧ M_PH_list.1.cls ≠ "java/lang/invoke/VarHandle" ∧ (parseMethodDescriptor M_PH_list.1.desc).map (fun d => d.parameters.length) = some 1) ∧ M_PH_list.2.2.1 ≤ 45 := ⟨gt_in 576 (by decide +kernel) rfl, gt_in 7 (by decide +kernel) rfl, gt_in 46 (by decide +kernel) rfl, gt_in 577 (by decide +kernel) rfl, ⟨by decide, by decide, by decide +kernel⟩, by decide⟩
theorem k_PH_47 : CallV "BlownByAll$PhasePlan" 47 M_PH_list 1 := ⟨gt_in 574 (by decide +kernel) rfl, kc_PH_list⟩
theorem kc_PE_forceOf : Cond.instanceMethod M_PE_forceOf.1 ∈ gtbl ∧ Cond.selects M_PE_forceOf.1.cls M_PE_forceOf.1 M_PE_forceOf.1 ∈ gtbl ∧ Cond.initialized M_PE_forceOf.1.cls ∈ gtbl ∧ Cond.code M_PE_forceOf.1 M_PE_forceOf.2.1 M_PE_forceOf.2.2.1 M_PE_forceOf.2.2.2 ∈ gtbl ∧ (M_PE_forceOf.1.cls ≠ "java/lang/invoke/MethodHandle" ∧ M_PE_forceOf.1.cls ≠ "java/lang/invoke/VarHandle" ∧ (parseMethodDescriptor M_PE_forceOf.1.desc).map (fun d => d.parameters.length) = some 1) ∧ M_PE_forceOf.2.2.1 ≤ 45 := ⟨gt_in 579 (by decide +kernel) rfl, gt_in 580 (by decide +kernel) rfl, gt_in 44 (by decide +kernel) rfl, gt_in 581 (by decide +kernel) rfl, ⟨by decide, by decide, by decide +kernel⟩, by decide⟩
theorem k_PH_51 : CallV "BlownByAll$PhasePlan" 51 M_PE_forceOf 1 := ⟨gt_in 578 (by decide +kernel) rfl, kc_PE_forceOf⟩
theorem k_PH_54 : CallV "BlownByAll$PhasePlan" 54 M_MA_fill 1 := ⟨gt_in 582 (by decide +kernel) rfl, kc_MA_fill⟩
theorem kc_PH_foresee : Cond.instanceMethod M_PH_foresee.1 ∈ gtbl ∧ Cond.selects M_PH_foresee.1.cls M_PH_foresee.1 M_PH_foresee.1 ∈ gtbl ∧ Cond.initialized M_PH_foresee.1.cls ∈ gtbl ∧ Cond.code M_PH_foresee.1 M_PH_foresee.2.1 M_PH_foresee.2.2.1 M_PH_foresee.2.2.2 ∈ gtbl ∧ (M_PH_foresee.1.cls ≠ "java/lang/invoke/MethodHandle" ∧ M_PH_foresee.1.cls ≠ "java/lang/invoke/VarHandle" ∧ (parseMethodDescriptor M_PH_foresee.1.desc).map (fun d => d.parameters.length) = some 0) ∧ M_PH_foresee.2.2.1 ≤ 45 := ⟨gt_in 585 (by decide +kernel) rfl, gt_in 8 (by decide +kernel) rfl, gt_in 46 (by decide +kernel) rfl, gt_in 586 (by decide +kernel) rfl, ⟨by decide, by decide, by decide +kernel⟩, by decide⟩
theorem k_PH_59 : CallV "BlownByAll$PhasePlan" 59 M_PH_foresee 0 := ⟨gt_in 583 (by decide +kernel) rfl, kc_PH_foresee⟩
theorem k_PH_76 : CallV "BlownByAll$PhasePlan" 76 M_MA_blow 1 := ⟨gt_in 587 (by decide +kernel) rfl, kc_MA_blow⟩
theorem kc_PH_leastAlone : Cond.instanceMethod M_PH_leastAlone.1 ∈ gtbl ∧ Cond.selects M_PH_leastAlone.1.cls M_PH_leastAlone.1 M_PH_leastAlone.1 ∈ gtbl ∧ Cond.initialized M_PH_leastAlone.1.cls ∈ gtbl ∧ Cond.code M_PH_leastAlone.1 M_PH_leastAlone.2.1 M_PH_leastAlone.2.2.1 M_PH_leastAlone.2.2.2 ∈ gtbl ∧ (M_PH_leastAlone.1.cls ≠ "java/lang/invoke/MethodHandle" ∧ M_PH_leastAlone.1.cls ≠ "java/lang/invoke/VarHandle" ∧ (parseMethodDescriptor M_PH_leastAlone.1.desc).map (fun d => d.parameters.length) = some 1) ∧ M_PH_leastAlone.2.2.1 ≤ 45 := ⟨gt_in 590 (by decide +kernel) rfl, gt_in 9 (by decide +kernel) rfl, gt_in 46 (by decide +kernel) rfl, gt_in 591 (by decide +kernel) rfl, ⟨by decide, by decide, by decide +kernel⟩, by decide⟩
theorem k_PH_79 : CallV "BlownByAll$PhasePlan" 79 M_PH_leastAlone 1 := ⟨gt_in 588 (by decide +kernel) rfl, kc_PH_leastAlone⟩
theorem kc_PH_lastPhase : Cond.instanceMethod M_PH_lastPhase.1 ∈ gtbl ∧ Cond.selects M_PH_lastPhase.1.cls M_PH_lastPhase.1 M_PH_lastPhase.1 ∈ gtbl ∧ Cond.initialized M_PH_lastPhase.1.cls ∈ gtbl ∧ Cond.code M_PH_lastPhase.1 M_PH_lastPhase.2.1 M_PH_lastPhase.2.2.1 M_PH_lastPhase.2.2.2 ∈ gtbl ∧ (M_PH_lastPhase.1.cls ≠ "java/lang/invoke/MethodHandle" ∧ M_PH_lastPhase.1.cls ≠ "java/lang/invoke/VarHandle" ∧ (parseMethodDescriptor M_PH_lastPhase.1.desc).map (fun d => d.parameters.length) = some 1) ∧ M_PH_lastPhase.2.2.1 ≤ 45 := ⟨gt_in 595 (by decide +kernel) rfl, gt_in 10 (by decide +kernel) rfl, gt_in 46 (by decide +kernel) rfl, gt_in 596 (by decide +kernel) rfl, ⟨by decide, by decide, by decide +kernel⟩, by decide⟩
theorem k_PH_82 : CallV "BlownByAll$PhasePlan" 82 M_PH_lastPhase 1 := ⟨gt_in 593 (by decide +kernel) rfl, kc_PH_lastPhase⟩
theorem kc_PH_breath : Cond.instanceMethod M_PH_breath.1 ∈ gtbl ∧ Cond.selects M_PH_breath.1.cls M_PH_breath.1 M_PH_breath.1 ∈ gtbl ∧ Cond.initialized M_PH_breath.1.cls ∈ gtbl ∧ Cond.code M_PH_breath.1 M_PH_breath.2.1 M_PH_breath.2.2.1 M_PH_breath.2.2.2 ∈ gtbl ∧ (M_PH_breath.1.cls ≠ "java/lang/invoke/MethodHandle" ∧ M_PH_breath.1.cls ≠ "java/lang/invoke/VarHandle" ∧ (parseMethodDescriptor M_PH_breath.1.desc).map (fun d => d.parameters.length) = some 1) ∧ M_PH_breath.2.2.1 ≤ 45 := ⟨gt_in 599 (by decide +kernel) rfl, gt_in 11 (by decide +kernel) rfl, gt_in 46 (by decide +kernel) rfl, gt_in 600 (by decide +kernel) rfl, ⟨by decide, by decide, by decide +kernel⟩, by decide⟩
theorem k_PH_85 : CallV "BlownByAll$PhasePlan" 85 M_PH_breath 1 := ⟨gt_in 597 (by decide +kernel) rfl, kc_PH_breath⟩
theorem kc_MA_addAtBreaths : Cond.instanceMethod M_MA_addAtBreaths.1 ∈ gtbl ∧ Cond.selects M_MA_addAtBreaths.1.cls M_MA_addAtBreaths.1 M_MA_addAtBreaths.1 ∈ gtbl ∧ Cond.initialized M_MA_addAtBreaths.1.cls ∈ gtbl ∧ Cond.code M_MA_addAtBreaths.1 M_MA_addAtBreaths.2.1 M_MA_addAtBreaths.2.2.1 M_MA_addAtBreaths.2.2.2 ∈ gtbl ∧ (M_MA_addAtBreaths.1.cls ≠ "java/lang/invoke/MethodHandle" ∧ M_MA_addAtBreaths.1.cls ≠ "java/lang/invoke/VarHandle" ∧ (parseMethodDescriptor M_MA_addAtBreaths.1.desc).map (fun d => d.parameters.length) = some 3) ∧ M_MA_addAtBreaths.2.2.1 ≤ 45 := ⟨gt_in 602 (by decide +kernel) rfl, gt_in 603 (by decide +kernel) rfl, gt_in 45 (by decide +kernel) rfl, gt_in 604 (by decide +kernel) rfl, ⟨by decide, by decide, by decide +kernel⟩, by decide⟩
theorem k_PH_88 : CallV "BlownByAll$PhasePlan" 88 M_MA_addAtBreaths 3 := ⟨gt_in 601 (by decide +kernel) rfl, kc_MA_addAtBreaths⟩
theorem kc_MT_floorMod : Cond.static M_MT_floorMod.1 ∈ gtbl ∧ Cond.initialized M_MT_floorMod.1.cls ∈ gtbl ∧ Cond.code M_MT_floorMod.1 M_MT_floorMod.2.1 M_MT_floorMod.2.2.1 M_MT_floorMod.2.2.2 ∈ gtbl ∧ (M_MT_floorMod.1.cls ≠ "java/lang/invoke/MethodHandle" ∧ M_MT_floorMod.1.cls ≠ "java/lang/invoke/VarHandle" ∧ (parseMethodDescriptor M_MT_floorMod.1.desc).map (fun d => d.parameters.length) = some 2) ∧ M_MT_floorMod.2.2.1 ≤ 45 := ⟨gt_in 606 (by decide +kernel) rfl, gt_in 51 (by decide +kernel) rfl, gt_in 607 (by decide +kernel) rfl, ⟨by decide, by decide, by decide +kernel⟩, by decide⟩
theorem k_MA_54 : CallS "BlownByAll$Mass" 54 M_MT_floorMod 2 := ⟨gt_in 605 (by decide +kernel) rfl, kc_MT_floorMod⟩
theorem k_PH_92 : CallS "BlownByAll$PhasePlan" 92 M_MT_min 2 := ⟨gt_in 608 (by decide +kernel) rfl, kc_MT_min⟩
theorem kc_PH_tryFrom : Cond.static M_PH_tryFrom.1 ∈ gtbl ∧ Cond.initialized M_PH_tryFrom.1.cls ∈ gtbl ∧ Cond.code M_PH_tryFrom.1 M_PH_tryFrom.2.1 M_PH_tryFrom.2.2.1 M_PH_tryFrom.2.2.2 ∈ gtbl ∧ (M_PH_tryFrom.1.cls ≠ "java/lang/invoke/MethodHandle" ∧ M_PH_tryFrom.1.cls ≠ "java/lang/invoke/VarHandle" ∧ (parseMethodDescriptor M_PH_tryFrom.1.desc).map (fun d => d.parameters.length) = some 2) ∧ M_PH_tryFrom.2.2.1 ≤ 45 := ⟨gt_in 610 (by decide +kernel) rfl, gt_in 46 (by decide +kernel) rfl, gt_in 611 (by decide +kernel) rfl, ⟨by decide, by decide, by decide +kernel⟩, by decide⟩
theorem k_PH_66 : CallS "BlownByAll$PhasePlan" 66 M_PH_tryFrom 2 := ⟨gt_in 609 (by decide +kernel) rfl, kc_PH_tryFrom⟩
theorem kc_PH_settle : Cond.instanceMethod M_PH_settle.1 ∈ gtbl ∧ Cond.selects M_PH_settle.1.cls M_PH_settle.1 M_PH_settle.1 ∈ gtbl ∧ Cond.initialized M_PH_settle.1.cls ∈ gtbl ∧ Cond.code M_PH_settle.1 M_PH_settle.2.1 M_PH_settle.2.2.1 M_PH_settle.2.2.2 ∈ gtbl ∧ (M_PH_settle.1.cls ≠ "java/lang/invoke/MethodHandle" ∧ M_PH_settle.1.cls ≠ "java/lang/invoke/VarHandle" ∧ (parseMethodDescriptor M_PH_settle.1.desc).map (fun d => d.parameters.length) = some 1) ∧ M_PH_settle.2.2.1 ≤ 45 := ⟨gt_in 614 (by decide +kernel) rfl, gt_in 12 (by decide +kernel) rfl, gt_in 46 (by decide +kernel) rfl, gt_in 615 (by decide +kernel) rfl, ⟨by decide, by decide, by decide +kernel⟩, by decide⟩
theorem k_PH_108 : CallV "BlownByAll$PhasePlan" 108 M_PH_settle 1 := ⟨gt_in 612 (by decide +kernel) rfl, kc_PH_settle⟩
theorem kc_BB_phaseAt : Cond.instanceMethod M_BB_phaseAt.1 ∈ gtbl ∧ Cond.selects M_BB_phaseAt.1.cls M_BB_phaseAt.1 M_BB_phaseAt.1 ∈ gtbl ∧ Cond.initialized M_BB_phaseAt.1.cls ∈ gtbl ∧ Cond.code M_BB_phaseAt.1 M_BB_phaseAt.2.1 M_BB_phaseAt.2.2.1 M_BB_phaseAt.2.2.2 ∈ gtbl ∧ (M_BB_phaseAt.1.cls ≠ "java/lang/invoke/MethodHandle" ∧ M_BB_phaseAt.1.cls ≠ "java/lang/invoke/VarHandle" ∧ (parseMethodDescriptor M_BB_phaseAt.1.desc).map (fun d => d.parameters.length) = some 2) ∧ M_BB_phaseAt.2.2.1 ≤ 45 := ⟨gt_in 617 (by decide +kernel) rfl, gt_in 618 (by decide +kernel) rfl, gt_in 41 (by decide +kernel) rfl, gt_in 619 (by decide +kernel) rfl, ⟨by decide, by decide, by decide +kernel⟩, by decide⟩
theorem k_LW_108 : CallV "BlownByAllLaw" 108 M_BB_phaseAt 2 := ⟨gt_in 616 (by decide +kernel) rfl, kc_BB_phaseAt⟩
theorem kc_PH_phaseOf : Cond.instanceMethod M_PH_phaseOf.1 ∈ gtbl ∧ Cond.selects M_PH_phaseOf.1.cls M_PH_phaseOf.1 M_PH_phaseOf.1 ∈ gtbl ∧ Cond.initialized M_PH_phaseOf.1.cls ∈ gtbl ∧ Cond.code M_PH_phaseOf.1 M_PH_phaseOf.2.1 M_PH_phaseOf.2.2.1 M_PH_phaseOf.2.2.2 ∈ gtbl ∧ (M_PH_phaseOf.1.cls ≠ "java/lang/invoke/MethodHandle" ∧ M_PH_phaseOf.1.cls ≠ "java/lang/invoke/VarHandle" ∧ (parseMethodDescriptor M_PH_phaseOf.1.desc).map (fun d => d.parameters.length) = some 1) ∧ M_PH_phaseOf.2.2.1 ≤ 45 := ⟨gt_in 621 (by decide +kernel) rfl, gt_in 622 (by decide +kernel) rfl, gt_in 46 (by decide +kernel) rfl, gt_in 623 (by decide +kernel) rfl, ⟨by decide, by decide, by decide +kernel⟩, by decide⟩
theorem k_BB_179 : CallV "BlownByAll" 179 M_PH_phaseOf 1 := ⟨gt_in 620 (by decide +kernel) rfl, kc_PH_phaseOf⟩
theorem kc_BB_seats : Cond.instanceMethod M_BB_seats.1 ∈ gtbl ∧ Cond.selects M_BB_seats.1.cls M_BB_seats.1 M_BB_seats.1 ∈ gtbl ∧ Cond.initialized M_BB_seats.1.cls ∈ gtbl ∧ Cond.code M_BB_seats.1 M_BB_seats.2.1 M_BB_seats.2.2.1 M_BB_seats.2.2.2 ∈ gtbl ∧ (M_BB_seats.1.cls ≠ "java/lang/invoke/MethodHandle" ∧ M_BB_seats.1.cls ≠ "java/lang/invoke/VarHandle" ∧ (parseMethodDescriptor M_BB_seats.1.desc).map (fun d => d.parameters.length) = some 0) ∧ M_BB_seats.2.2.1 ≤ 45 := ⟨gt_in 625 (by decide +kernel) rfl, gt_in 626 (by decide +kernel) rfl, gt_in 41 (by decide +kernel) rfl, gt_in 627 (by decide +kernel) rfl, ⟨by decide, by decide, by decide +kernel⟩, by decide⟩
theorem k_LW_112 : CallV "BlownByAllLaw" 112 M_BB_seats 0 := ⟨gt_in 624 (by decide +kernel) rfl, kc_BB_seats⟩
theorem kc_SE_find : Cond.instanceMethod M_SE_find.1 ∈ gtbl ∧ Cond.selects M_SE_find.1.cls M_SE_find.1 M_SE_find.1 ∈ gtbl ∧ Cond.initialized M_SE_find.1.cls ∈ gtbl ∧ Cond.code M_SE_find.1 M_SE_find.2.1 M_SE_find.2.2.1 M_SE_find.2.2.2 ∈ gtbl ∧ (M_SE_find.1.cls ≠ "java/lang/invoke/MethodHandle" ∧ M_SE_find.1.cls ≠ "java/lang/invoke/VarHandle" ∧ (parseMethodDescriptor M_SE_find.1.desc).map (fun d => d.parameters.length) = some 0) ∧ M_SE_find.2.2.1 ≤ 45 := ⟨gt_in 629 (by decide +kernel) rfl, gt_in 630 (by decide +kernel) rfl, gt_in 47 (by decide +kernel) rfl, gt_in 631 (by decide +kernel) rfl, ⟨by decide, by decide, by decide +kernel⟩, by decide⟩
theorem k_BB_182 : CallV "BlownByAll" 182 M_SE_find 0 := ⟨gt_in 628 (by decide +kernel) rfl, kc_SE_find⟩
theorem kc_SE_setPrices : Cond.instanceMethod M_SE_setPrices.1 ∈ gtbl ∧ Cond.selects M_SE_setPrices.1.cls M_SE_setPrices.1 M_SE_setPrices.1 ∈ gtbl ∧ Cond.initialized M_SE_setPrices.1.cls ∈ gtbl ∧ Cond.code M_SE_setPrices.1 M_SE_setPrices.2.1 M_SE_setPrices.2.2.1 M_SE_setPrices.2.2.2 ∈ gtbl ∧ (M_SE_setPrices.1.cls ≠ "java/lang/invoke/MethodHandle" ∧ M_SE_setPrices.1.cls ≠ "java/lang/invoke/VarHandle" ∧ (parseMethodDescriptor M_SE_setPrices.1.desc).map (fun d => d.parameters.length) = some 1) ∧ M_SE_setPrices.2.2.1 ≤ 45 := ⟨gt_in 634 (by decide +kernel) rfl, gt_in 13 (by decide +kernel) rfl, gt_in 47 (by decide +kernel) rfl, gt_in 635 (by decide +kernel) rfl, ⟨by decide, by decide, by decide +kernel⟩, by decide⟩
theorem k_SE_36 : CallV "BlownByAll$SeatPlan" 36 M_SE_setPrices 1 := ⟨gt_in 632 (by decide +kernel) rfl, kc_SE_setPrices⟩
theorem k_SE_50 : CallV "BlownByAll$SeatPlan" 50 M_MA_gather 2 := ⟨gt_in 636 (by decide +kernel) rfl, kc_MA_gather⟩
theorem kc_SE_seatsOf : Cond.static M_SE_seatsOf.1 ∈ gtbl ∧ Cond.initialized M_SE_seatsOf.1.cls ∈ gtbl ∧ Cond.code M_SE_seatsOf.1 M_SE_seatsOf.2.1 M_SE_seatsOf.2.2.1 M_SE_seatsOf.2.2.2 ∈ gtbl ∧ (M_SE_seatsOf.1.cls ≠ "java/lang/invoke/MethodHandle" ∧ M_SE_seatsOf.1.cls ≠ "java/lang/invoke/VarHandle" ∧ (parseMethodDescriptor M_SE_seatsOf.1.desc).map (fun d => d.parameters.length) = some 1) ∧ M_SE_seatsOf.2.2.1 ≤ 45 := ⟨gt_in 638 (by decide +kernel) rfl, gt_in 47 (by decide +kernel) rfl, gt_in 639 (by decide +kernel) rfl, ⟨by decide, by decide, by decide +kernel⟩, by decide⟩
theorem k_SE_56 : CallS "BlownByAll$SeatPlan" 56 M_SE_seatsOf 1 := ⟨gt_in 637 (by decide +kernel) rfl, kc_SE_seatsOf⟩
theorem k_SE_60 : CallV "BlownByAll$SeatPlan" 60 M_MA_blow 1 := ⟨gt_in 642 (by decide +kernel) rfl, kc_MA_blow⟩
theorem kc_SE_bestWith : Cond.instanceMethod M_SE_bestWith.1 ∈ gtbl ∧ Cond.selects M_SE_bestWith.1.cls M_SE_bestWith.1 M_SE_bestWith.1 ∈ gtbl ∧ Cond.initialized M_SE_bestWith.1.cls ∈ gtbl ∧ Cond.code M_SE_bestWith.1 M_SE_bestWith.2.1 M_SE_bestWith.2.2.1 M_SE_bestWith.2.2.2 ∈ gtbl ∧ (M_SE_bestWith.1.cls ≠ "java/lang/invoke/MethodHandle" ∧ M_SE_bestWith.1.cls ≠ "java/lang/invoke/VarHandle" ∧ (parseMethodDescriptor M_SE_bestWith.1.desc).map (fun d => d.parameters.length) = some 2) ∧ M_SE_bestWith.2.2.1 ≤ 45 := ⟨gt_in 646 (by decide +kernel) rfl, gt_in 14 (by decide +kernel) rfl, gt_in 47 (by decide +kernel) rfl, gt_in 647 (by decide +kernel) rfl, ⟨by decide, by decide, by decide +kernel⟩, by decide⟩
theorem k_SE_43 : CallV "BlownByAll$SeatPlan" 43 M_SE_bestWith 2 := ⟨gt_in 644 (by decide +kernel) rfl, kc_SE_bestWith⟩
theorem k_SE_70 : CallS "BlownByAll$SeatPlan" 70 M_MT_min 2 := ⟨gt_in 649 (by decide +kernel) rfl, kc_MT_min⟩
theorem kc_SE_least : Cond.instanceMethod M_SE_least.1 ∈ gtbl ∧ Cond.selects M_SE_least.1.cls M_SE_least.1 M_SE_least.1 ∈ gtbl ∧ Cond.initialized M_SE_least.1.cls ∈ gtbl ∧ Cond.code M_SE_least.1 M_SE_least.2.1 M_SE_least.2.2.1 M_SE_least.2.2.2 ∈ gtbl ∧ (M_SE_least.1.cls ≠ "java/lang/invoke/MethodHandle" ∧ M_SE_least.1.cls ≠ "java/lang/invoke/VarHandle" ∧ (parseMethodDescriptor M_SE_least.1.desc).map (fun d => d.parameters.length) = some 0) ∧ M_SE_least.2.2.1 ≤ 45 := ⟨gt_in 651 (by decide +kernel) rfl, gt_in 652 (by decide +kernel) rfl, gt_in 47 (by decide +kernel) rfl, gt_in 653 (by decide +kernel) rfl, ⟨by decide, by decide, by decide +kernel⟩, by decide⟩
theorem k_BB_185 : CallV "BlownByAll" 185 M_SE_least 0 := ⟨gt_in 650 (by decide +kernel) rfl, kc_SE_least⟩
theorem kc_SE_plan : Cond.instanceMethod M_SE_plan.1 ∈ gtbl ∧ Cond.selects M_SE_plan.1.cls M_SE_plan.1 M_SE_plan.1 ∈ gtbl ∧ Cond.initialized M_SE_plan.1.cls ∈ gtbl ∧ Cond.code M_SE_plan.1 M_SE_plan.2.1 M_SE_plan.2.2.1 M_SE_plan.2.2.2 ∈ gtbl ∧ (M_SE_plan.1.cls ≠ "java/lang/invoke/MethodHandle" ∧ M_SE_plan.1.cls ≠ "java/lang/invoke/VarHandle" ∧ (parseMethodDescriptor M_SE_plan.1.desc).map (fun d => d.parameters.length) = some 0) ∧ M_SE_plan.2.2.1 ≤ 45 := ⟨gt_in 656 (by decide +kernel) rfl, gt_in 15 (by decide +kernel) rfl, gt_in 47 (by decide +kernel) rfl, gt_in 657 (by decide +kernel) rfl, ⟨by decide, by decide, by decide +kernel⟩, by decide⟩
theorem k_SE_75 : CallV "BlownByAll$SeatPlan" 75 M_SE_plan 0 := ⟨gt_in 654 (by decide +kernel) rfl, kc_SE_plan⟩
theorem kc_BB_seatAt : Cond.instanceMethod M_BB_seatAt.1 ∈ gtbl ∧ Cond.selects M_BB_seatAt.1.cls M_BB_seatAt.1 M_BB_seatAt.1 ∈ gtbl ∧ Cond.initialized M_BB_seatAt.1.cls ∈ gtbl ∧ Cond.code M_BB_seatAt.1 M_BB_seatAt.2.1 M_BB_seatAt.2.2.1 M_BB_seatAt.2.2.2 ∈ gtbl ∧ (M_BB_seatAt.1.cls ≠ "java/lang/invoke/MethodHandle" ∧ M_BB_seatAt.1.cls ≠ "java/lang/invoke/VarHandle" ∧ (parseMethodDescriptor M_BB_seatAt.1.desc).map (fun d => d.parameters.length) = some 1) ∧ M_BB_seatAt.2.2.1 ≤ 45 := ⟨gt_in 659 (by decide +kernel) rfl, gt_in 660 (by decide +kernel) rfl, gt_in 41 (by decide +kernel) rfl, gt_in 661 (by decide +kernel) rfl, ⟨by decide, by decide, by decide +kernel⟩, by decide⟩
theorem k_LW_116 : CallV "BlownByAllLaw" 116 M_BB_seatAt 1 := ⟨gt_in 658 (by decide +kernel) rfl, kc_BB_seatAt⟩
theorem kc_SE_placeOf : Cond.instanceMethod M_SE_placeOf.1 ∈ gtbl ∧ Cond.selects M_SE_placeOf.1.cls M_SE_placeOf.1 M_SE_placeOf.1 ∈ gtbl ∧ Cond.initialized M_SE_placeOf.1.cls ∈ gtbl ∧ Cond.code M_SE_placeOf.1 M_SE_placeOf.2.1 M_SE_placeOf.2.2.1 M_SE_placeOf.2.2.2 ∈ gtbl ∧ (M_SE_placeOf.1.cls ≠ "java/lang/invoke/MethodHandle" ∧ M_SE_placeOf.1.cls ≠ "java/lang/invoke/VarHandle" ∧ (parseMethodDescriptor M_SE_placeOf.1.desc).map (fun d => d.parameters.length) = some 1) ∧ M_SE_placeOf.2.2.1 ≤ 45 := ⟨gt_in 663 (by decide +kernel) rfl, gt_in 664 (by decide +kernel) rfl, gt_in 47 (by decide +kernel) rfl, gt_in 665 (by decide +kernel) rfl, ⟨by decide, by decide, by decide +kernel⟩, by decide⟩
theorem k_BB_187 : CallV "BlownByAll" 187 M_SE_placeOf 1 := ⟨gt_in 662 (by decide +kernel) rfl, kc_SE_placeOf⟩
theorem kc_BB_bribes : Cond.instanceMethod M_BB_bribes.1 ∈ gtbl ∧ Cond.selects M_BB_bribes.1.cls M_BB_bribes.1 M_BB_bribes.1 ∈ gtbl ∧ Cond.initialized M_BB_bribes.1.cls ∈ gtbl ∧ Cond.code M_BB_bribes.1 M_BB_bribes.2.1 M_BB_bribes.2.2.1 M_BB_bribes.2.2.2 ∈ gtbl ∧ (M_BB_bribes.1.cls ≠ "java/lang/invoke/MethodHandle" ∧ M_BB_bribes.1.cls ≠ "java/lang/invoke/VarHandle" ∧ (parseMethodDescriptor M_BB_bribes.1.desc).map (fun d => d.parameters.length) = some 0) ∧ M_BB_bribes.2.2.1 ≤ 45 := ⟨gt_in 667 (by decide +kernel) rfl, gt_in 668 (by decide +kernel) rfl, gt_in 41 (by decide +kernel) rfl, gt_in 669 (by decide +kernel) rfl, ⟨by decide, by decide, by decide +kernel⟩, by decide⟩
theorem k_LW_120 : CallV "BlownByAllLaw" 120 M_BB_bribes 0 := ⟨gt_in 666 (by decide +kernel) rfl, kc_BB_bribes⟩
theorem kc_BP_find : Cond.instanceMethod M_BP_find.1 ∈ gtbl ∧ Cond.selects M_BP_find.1.cls M_BP_find.1 M_BP_find.1 ∈ gtbl ∧ Cond.initialized M_BP_find.1.cls ∈ gtbl ∧ Cond.code M_BP_find.1 M_BP_find.2.1 M_BP_find.2.2.1 M_BP_find.2.2.2 ∈ gtbl ∧ (M_BP_find.1.cls ≠ "java/lang/invoke/MethodHandle" ∧ M_BP_find.1.cls ≠ "java/lang/invoke/VarHandle" ∧ (parseMethodDescriptor M_BP_find.1.desc).map (fun d => d.parameters.length) = some 1) ∧ M_BP_find.2.2.1 ≤ 45 := ⟨gt_in 671 (by decide +kernel) rfl, gt_in 672 (by decide +kernel) rfl, gt_in 48 (by decide +kernel) rfl, gt_in 673 (by decide +kernel) rfl, ⟨by decide, by decide, by decide +kernel⟩, by decide⟩
theorem k_BB_190 : CallV "BlownByAll" 190 M_BP_find 1 := ⟨gt_in 670 (by decide +kernel) rfl, kc_BP_find⟩
theorem k_BP_23 : CallV "BlownByAll$BribePlan" 23 M_PI_has 1 := ⟨gt_in 674 (by decide +kernel) rfl, kc_PI_has⟩
theorem k_BP_39 : CallV "BlownByAll$BribePlan" 39 M_PE_sittingAt 1 := ⟨gt_in 675 (by decide +kernel) rfl, kc_PE_sittingAt⟩
theorem k_BP_45 : CallV "BlownByAll$BribePlan" 45 M_PE_forceOf 1 := ⟨gt_in 676 (by decide +kernel) rfl, kc_PE_forceOf⟩
theorem k_BP_48 : CallV "BlownByAll$BribePlan" 48 M_MA_fill 1 := ⟨gt_in 677 (by decide +kernel) rfl, kc_MA_fill⟩
theorem kc_BP_decideFrom : Cond.static M_BP_decideFrom.1 ∈ gtbl ∧ Cond.initialized M_BP_decideFrom.1.cls ∈ gtbl ∧ Cond.code M_BP_decideFrom.1 M_BP_decideFrom.2.1 M_BP_decideFrom.2.2.1 M_BP_decideFrom.2.2.2 ∈ gtbl ∧ (M_BP_decideFrom.1.cls ≠ "java/lang/invoke/MethodHandle" ∧ M_BP_decideFrom.1.cls ≠ "java/lang/invoke/VarHandle" ∧ (parseMethodDescriptor M_BP_decideFrom.1.desc).map (fun d => d.parameters.length) = some 3) ∧ M_BP_decideFrom.2.2.1 ≤ 45 := ⟨gt_in 679 (by decide +kernel) rfl, gt_in 48 (by decide +kernel) rfl, gt_in 680 (by decide +kernel) rfl, ⟨by decide, by decide, by decide +kernel⟩, by decide⟩
theorem k_BP_57 : CallS "BlownByAll$BribePlan" 57 M_BP_decideFrom 3 := ⟨gt_in 678 (by decide +kernel) rfl, kc_BP_decideFrom⟩
theorem k_BP_61 : CallS "BlownByAll$BribePlan" 61 M_IG_bitCount 1 := ⟨gt_in 681 (by decide +kernel) rfl, kc_IG_bitCount⟩
theorem k_BP_66 : CallV "BlownByAll$BribePlan" 66 M_MA_blow 1 := ⟨gt_in 682 (by decide +kernel) rfl, kc_MA_blow⟩
theorem kc_BP_nextToDecide : Cond.instanceMethod M_BP_nextToDecide.1 ∈ gtbl ∧ Cond.selects M_BP_nextToDecide.1.cls M_BP_nextToDecide.1 M_BP_nextToDecide.1 ∈ gtbl ∧ Cond.initialized M_BP_nextToDecide.1.cls ∈ gtbl ∧ Cond.code M_BP_nextToDecide.1 M_BP_nextToDecide.2.1 M_BP_nextToDecide.2.2.1 M_BP_nextToDecide.2.2.2 ∈ gtbl ∧ (M_BP_nextToDecide.1.cls ≠ "java/lang/invoke/MethodHandle" ∧ M_BP_nextToDecide.1.cls ≠ "java/lang/invoke/VarHandle" ∧ (parseMethodDescriptor M_BP_nextToDecide.1.desc).map (fun d => d.parameters.length) = some 1) ∧ M_BP_nextToDecide.2.2.1 ≤ 45 := ⟨gt_in 685 (by decide +kernel) rfl, gt_in 16 (by decide +kernel) rfl, gt_in 48 (by decide +kernel) rfl, gt_in 686 (by decide +kernel) rfl, ⟨by decide, by decide, by decide +kernel⟩, by decide⟩
theorem k_BP_69 : CallV "BlownByAll$BribePlan" 69 M_BP_nextToDecide 1 := ⟨gt_in 683 (by decide +kernel) rfl, kc_BP_nextToDecide⟩
theorem k_BP_83 : CallS "BlownByAll$BribePlan" 83 M_MT_min 2 := ⟨gt_in 687 (by decide +kernel) rfl, kc_MT_min⟩
theorem k_BP_79 : CallV "BlownByAll$BribePlan" 79 M_MA_addAtBreaths 3 := ⟨gt_in 688 (by decide +kernel) rfl, kc_MA_addAtBreaths⟩
theorem kc_BB_needed : Cond.instanceMethod M_BB_needed.1 ∈ gtbl ∧ Cond.selects M_BB_needed.1.cls M_BB_needed.1 M_BB_needed.1 ∈ gtbl ∧ Cond.initialized M_BB_needed.1.cls ∈ gtbl ∧ Cond.code M_BB_needed.1 M_BB_needed.2.1 M_BB_needed.2.2.1 M_BB_needed.2.2.2 ∈ gtbl ∧ (M_BB_needed.1.cls ≠ "java/lang/invoke/MethodHandle" ∧ M_BB_needed.1.cls ≠ "java/lang/invoke/VarHandle" ∧ (parseMethodDescriptor M_BB_needed.1.desc).map (fun d => d.parameters.length) = some 1) ∧ M_BB_needed.2.2.1 ≤ 45 := ⟨gt_in 690 (by decide +kernel) rfl, gt_in 691 (by decide +kernel) rfl, gt_in 41 (by decide +kernel) rfl, gt_in 692 (by decide +kernel) rfl, ⟨by decide, by decide, by decide +kernel⟩, by decide⟩
theorem k_LW_124 : CallV "BlownByAllLaw" 124 M_BB_needed 1 := ⟨gt_in 689 (by decide +kernel) rfl, kc_BB_needed⟩
theorem k_BB_192 : CallV "BlownByAll" 192 M_MA_blow 1 := ⟨gt_in 693 (by decide +kernel) rfl, kc_MA_blow⟩
theorem kc_BB_never : Cond.instanceMethod M_BB_never.1 ∈ gtbl ∧ Cond.selects M_BB_never.1.cls M_BB_never.1 M_BB_never.1 ∈ gtbl ∧ Cond.initialized M_BB_never.1.cls ∈ gtbl ∧ Cond.code M_BB_never.1 M_BB_never.2.1 M_BB_never.2.2.1 M_BB_never.2.2.2 ∈ gtbl ∧ (M_BB_never.1.cls ≠ "java/lang/invoke/MethodHandle" ∧ M_BB_never.1.cls ≠ "java/lang/invoke/VarHandle" ∧ (parseMethodDescriptor M_BB_never.1.desc).map (fun d => d.parameters.length) = some 0) ∧ M_BB_never.2.2.1 ≤ 45 := ⟨gt_in 695 (by decide +kernel) rfl, gt_in 696 (by decide +kernel) rfl, gt_in 41 (by decide +kernel) rfl, gt_in 697 (by decide +kernel) rfl, ⟨by decide, by decide, by decide +kernel⟩, by decide⟩
theorem k_LW_128 : CallV "BlownByAllLaw" 128 M_BB_never 0 := ⟨gt_in 694 (by decide +kernel) rfl, kc_BB_never⟩
theorem k_BB_198 : CallV "BlownByAll" 198 M_PE_forceOf 1 := ⟨gt_in 698 (by decide +kernel) rfl, kc_PE_forceOf⟩
theorem kc_BB_steady : Cond.instanceMethod M_BB_steady.1 ∈ gtbl ∧ Cond.selects M_BB_steady.1.cls M_BB_steady.1 M_BB_steady.1 ∈ gtbl ∧ Cond.initialized M_BB_steady.1.cls ∈ gtbl ∧ Cond.code M_BB_steady.1 M_BB_steady.2.1 M_BB_steady.2.2.1 M_BB_steady.2.2.2 ∈ gtbl ∧ (M_BB_steady.1.cls ≠ "java/lang/invoke/MethodHandle" ∧ M_BB_steady.1.cls ≠ "java/lang/invoke/VarHandle" ∧ (parseMethodDescriptor M_BB_steady.1.desc).map (fun d => d.parameters.length) = some 4) ∧ M_BB_steady.2.2.1 ≤ 45 := ⟨gt_in 700 (by decide +kernel) rfl, gt_in 701 (by decide +kernel) rfl, gt_in 41 (by decide +kernel) rfl, gt_in 702 (by decide +kernel) rfl, ⟨by decide, by decide, by decide +kernel⟩, by decide⟩
theorem k_LW_132 : CallV "BlownByAllLaw" 132 M_BB_steady 4 := ⟨gt_in 699 (by decide +kernel) rfl, kc_BB_steady⟩
theorem kc_SN_weighEnough : Cond.instanceMethod M_SN_weighEnough.1 ∈ gtbl ∧ Cond.selects M_SN_weighEnough.1.cls M_SN_weighEnough.1 M_SN_weighEnough.1 ∈ gtbl ∧ Cond.initialized M_SN_weighEnough.1.cls ∈ gtbl ∧ Cond.code M_SN_weighEnough.1 M_SN_weighEnough.2.1 M_SN_weighEnough.2.2.1 M_SN_weighEnough.2.2.2 ∈ gtbl ∧ (M_SN_weighEnough.1.cls ≠ "java/lang/invoke/MethodHandle" ∧ M_SN_weighEnough.1.cls ≠ "java/lang/invoke/VarHandle" ∧ (parseMethodDescriptor M_SN_weighEnough.1.desc).map (fun d => d.parameters.length) = some 3) ∧ M_SN_weighEnough.2.2.1 ≤ 45 := ⟨gt_in 706 (by decide +kernel) rfl, gt_in 707 (by decide +kernel) rfl, gt_in 49 (by decide +kernel) rfl, gt_in 708 (by decide +kernel) rfl, ⟨by decide, by decide, by decide +kernel⟩, by decide⟩
theorem k_BB_205 : CallV "BlownByAll" 205 M_SN_weighEnough 3 := ⟨gt_in 705 (by decide +kernel) rfl, kc_SN_weighEnough⟩
theorem k_SN_23 : CallV "BlownByAll$Sneezes" 23 M_PE_sittingAt 1 := ⟨gt_in 709 (by decide +kernel) rfl, kc_PE_sittingAt⟩
theorem kc_SN_spread : Cond.instanceMethod M_SN_spread.1 ∈ gtbl ∧ Cond.selects M_SN_spread.1.cls M_SN_spread.1 M_SN_spread.1 ∈ gtbl ∧ Cond.initialized M_SN_spread.1.cls ∈ gtbl ∧ Cond.code M_SN_spread.1 M_SN_spread.2.1 M_SN_spread.2.2.1 M_SN_spread.2.2.2 ∈ gtbl ∧ (M_SN_spread.1.cls ≠ "java/lang/invoke/MethodHandle" ∧ M_SN_spread.1.cls ≠ "java/lang/invoke/VarHandle" ∧ (parseMethodDescriptor M_SN_spread.1.desc).map (fun d => d.parameters.length) = some 3) ∧ M_SN_spread.2.2.1 ≤ 45 := ⟨gt_in 712 (by decide +kernel) rfl, gt_in 17 (by decide +kernel) rfl, gt_in 49 (by decide +kernel) rfl, gt_in 713 (by decide +kernel) rfl, ⟨by decide, by decide, by decide +kernel⟩, by decide⟩
theorem k_SN_29 : CallV "BlownByAll$Sneezes" 29 M_SN_spread 3 := ⟨gt_in 710 (by decide +kernel) rfl, kc_SN_spread⟩
theorem k_SN_58 : CallV "BlownByAll$Sneezes" 58 M_PE_givenAt 2 := ⟨gt_in 714 (by decide +kernel) rfl, kc_PE_givenAt⟩
theorem kc_SN_admit : Cond.instanceMethod M_SN_admit.1 ∈ gtbl ∧ Cond.selects M_SN_admit.1.cls M_SN_admit.1 M_SN_admit.1 ∈ gtbl ∧ Cond.initialized M_SN_admit.1.cls ∈ gtbl ∧ Cond.code M_SN_admit.1 M_SN_admit.2.1 M_SN_admit.2.2.1 M_SN_admit.2.2.2 ∈ gtbl ∧ (M_SN_admit.1.cls ≠ "java/lang/invoke/MethodHandle" ∧ M_SN_admit.1.cls ≠ "java/lang/invoke/VarHandle" ∧ (parseMethodDescriptor M_SN_admit.1.desc).map (fun d => d.parameters.length) = some 2) ∧ M_SN_admit.2.2.1 ≤ 45 := ⟨gt_in 717 (by decide +kernel) rfl, gt_in 18 (by decide +kernel) rfl, gt_in 49 (by decide +kernel) rfl, gt_in 718 (by decide +kernel) rfl, ⟨by decide, by decide, by decide +kernel⟩, by decide⟩
theorem k_SN_65 : CallV "BlownByAll$Sneezes" 65 M_SN_admit 2 := ⟨gt_in 715 (by decide +kernel) rfl, kc_SN_admit⟩
theorem kc_SN_casesUnder : Cond.instanceMethod M_SN_casesUnder.1 ∈ gtbl ∧ Cond.selects M_SN_casesUnder.1.cls M_SN_casesUnder.1 M_SN_casesUnder.1 ∈ gtbl ∧ Cond.initialized M_SN_casesUnder.1.cls ∈ gtbl ∧ Cond.code M_SN_casesUnder.1 M_SN_casesUnder.2.1 M_SN_casesUnder.2.2.1 M_SN_casesUnder.2.2.2 ∈ gtbl ∧ (M_SN_casesUnder.1.cls ≠ "java/lang/invoke/MethodHandle" ∧ M_SN_casesUnder.1.cls ≠ "java/lang/invoke/VarHandle" ∧ (parseMethodDescriptor M_SN_casesUnder.1.desc).map (fun d => d.parameters.length) = some 1) ∧ M_SN_casesUnder.2.2.1 ≤ 45 := ⟨gt_in 722 (by decide +kernel) rfl, gt_in 19 (by decide +kernel) rfl, gt_in 49 (by decide +kernel) rfl, gt_in 723 (by decide +kernel) rfl, ⟨by decide, by decide, by decide +kernel⟩, by decide⟩
theorem k_SN_43 : CallV "BlownByAll$Sneezes" 43 M_SN_casesUnder 1 := ⟨gt_in 720 (by decide +kernel) rfl, kc_SN_casesUnder⟩
theorem kc_SN_reduce : Cond.instanceMethod M_SN_reduce.1 ∈ gtbl ∧ Cond.selects M_SN_reduce.1.cls M_SN_reduce.1 M_SN_reduce.1 ∈ gtbl ∧ Cond.initialized M_SN_reduce.1.cls ∈ gtbl ∧ Cond.code M_SN_reduce.1 M_SN_reduce.2.1 M_SN_reduce.2.2.1 M_SN_reduce.2.2.2 ∈ gtbl ∧ (M_SN_reduce.1.cls ≠ "java/lang/invoke/MethodHandle" ∧ M_SN_reduce.1.cls ≠ "java/lang/invoke/VarHandle" ∧ (parseMethodDescriptor M_SN_reduce.1.desc).map (fun d => d.parameters.length) = some 2) ∧ M_SN_reduce.2.2.1 ≤ 45 := ⟨gt_in 726 (by decide +kernel) rfl, gt_in 20 (by decide +kernel) rfl, gt_in 49 (by decide +kernel) rfl, gt_in 727 (by decide +kernel) rfl, ⟨by decide, by decide, by decide +kernel⟩, by decide⟩
theorem k_SN_47 : CallV "BlownByAll$Sneezes" 47 M_SN_reduce 2 := ⟨gt_in 724 (by decide +kernel) rfl, kc_SN_reduce⟩
theorem kc_BB_blame : Cond.instanceMethod M_BB_blame.1 ∈ gtbl ∧ Cond.selects M_BB_blame.1.cls M_BB_blame.1 M_BB_blame.1 ∈ gtbl ∧ Cond.initialized M_BB_blame.1.cls ∈ gtbl ∧ Cond.code M_BB_blame.1 M_BB_blame.2.1 M_BB_blame.2.2.1 M_BB_blame.2.2.2 ∈ gtbl ∧ (M_BB_blame.1.cls ≠ "java/lang/invoke/MethodHandle" ∧ M_BB_blame.1.cls ≠ "java/lang/invoke/VarHandle" ∧ (parseMethodDescriptor M_BB_blame.1.desc).map (fun d => d.parameters.length) = some 4) ∧ M_BB_blame.2.2.1 ≤ 45 := ⟨gt_in 729 (by decide +kernel) rfl, gt_in 730 (by decide +kernel) rfl, gt_in 41 (by decide +kernel) rfl, gt_in 731 (by decide +kernel) rfl, ⟨by decide, by decide, by decide +kernel⟩, by decide⟩
theorem k_LW_137 : CallV "BlownByAllLaw" 137 M_BB_blame 4 := ⟨gt_in 728 (by decide +kernel) rfl, kc_BB_blame⟩
theorem kc_SN_weighGuilt : Cond.instanceMethod M_SN_weighGuilt.1 ∈ gtbl ∧ Cond.selects M_SN_weighGuilt.1.cls M_SN_weighGuilt.1 M_SN_weighGuilt.1 ∈ gtbl ∧ Cond.initialized M_SN_weighGuilt.1.cls ∈ gtbl ∧ Cond.code M_SN_weighGuilt.1 M_SN_weighGuilt.2.1 M_SN_weighGuilt.2.2.1 M_SN_weighGuilt.2.2.2 ∈ gtbl ∧ (M_SN_weighGuilt.1.cls ≠ "java/lang/invoke/MethodHandle" ∧ M_SN_weighGuilt.1.cls ≠ "java/lang/invoke/VarHandle" ∧ (parseMethodDescriptor M_SN_weighGuilt.1.desc).map (fun d => d.parameters.length) = some 3) ∧ M_SN_weighGuilt.2.2.1 ≤ 45 := ⟨gt_in 733 (by decide +kernel) rfl, gt_in 734 (by decide +kernel) rfl, gt_in 49 (by decide +kernel) rfl, gt_in 735 (by decide +kernel) rfl, ⟨by decide, by decide, by decide +kernel⟩, by decide⟩
theorem k_BB_216 : CallV "BlownByAll" 216 M_SN_weighGuilt 3 := ⟨gt_in 732 (by decide +kernel) rfl, kc_SN_weighGuilt⟩
theorem kc_BB_keep : Cond.instanceMethod M_BB_keep.1 ∈ gtbl ∧ Cond.selects M_BB_keep.1.cls M_BB_keep.1 M_BB_keep.1 ∈ gtbl ∧ Cond.initialized M_BB_keep.1.cls ∈ gtbl ∧ Cond.code M_BB_keep.1 M_BB_keep.2.1 M_BB_keep.2.2.1 M_BB_keep.2.2.2 ∈ gtbl ∧ (M_BB_keep.1.cls ≠ "java/lang/invoke/MethodHandle" ∧ M_BB_keep.1.cls ≠ "java/lang/invoke/VarHandle" ∧ (parseMethodDescriptor M_BB_keep.1.desc).map (fun d => d.parameters.length) = some 1) ∧ M_BB_keep.2.2.1 ≤ 45 := ⟨gt_in 738 (by decide +kernel) rfl, gt_in 739 (by decide +kernel) rfl, gt_in 41 (by decide +kernel) rfl, gt_in 740 (by decide +kernel) rfl, ⟨by decide, by decide, by decide +kernel⟩, by decide⟩
theorem k_LW_141 : CallV "BlownByAllLaw" 141 M_BB_keep 1 := ⟨gt_in 737 (by decide +kernel) rfl, kc_BB_keep⟩
theorem kc_PE_copyFrom : Cond.instanceMethod M_PE_copyFrom.1 ∈ gtbl ∧ Cond.selects M_PE_copyFrom.1.cls M_PE_copyFrom.1 M_PE_copyFrom.1 ∈ gtbl ∧ Cond.initialized M_PE_copyFrom.1.cls ∈ gtbl ∧ Cond.code M_PE_copyFrom.1 M_PE_copyFrom.2.1 M_PE_copyFrom.2.2.1 M_PE_copyFrom.2.2.2 ∈ gtbl ∧ (M_PE_copyFrom.1.cls ≠ "java/lang/invoke/MethodHandle" ∧ M_PE_copyFrom.1.cls ≠ "java/lang/invoke/VarHandle" ∧ (parseMethodDescriptor M_PE_copyFrom.1.desc).map (fun d => d.parameters.length) = some 1) ∧ M_PE_copyFrom.2.2.1 ≤ 45 := ⟨gt_in 742 (by decide +kernel) rfl, gt_in 743 (by decide +kernel) rfl, gt_in 44 (by decide +kernel) rfl, gt_in 744 (by decide +kernel) rfl, ⟨by decide, by decide, by decide +kernel⟩, by decide⟩
theorem k_BB_222 : CallV "BlownByAll" 222 M_PE_copyFrom 1 := ⟨gt_in 741 (by decide +kernel) rfl, kc_PE_copyFrom⟩
theorem kc_BB_again : Cond.instanceMethod M_BB_again.1 ∈ gtbl ∧ Cond.selects M_BB_again.1.cls M_BB_again.1 M_BB_again.1 ∈ gtbl ∧ Cond.initialized M_BB_again.1.cls ∈ gtbl ∧ Cond.code M_BB_again.1 M_BB_again.2.1 M_BB_again.2.2.1 M_BB_again.2.2.2 ∈ gtbl ∧ (M_BB_again.1.cls ≠ "java/lang/invoke/MethodHandle" ∧ M_BB_again.1.cls ≠ "java/lang/invoke/VarHandle" ∧ (parseMethodDescriptor M_BB_again.1.desc).map (fun d => d.parameters.length) = some 1) ∧ M_BB_again.2.2.1 ≤ 45 := ⟨gt_in 746 (by decide +kernel) rfl, gt_in 747 (by decide +kernel) rfl, gt_in 41 (by decide +kernel) rfl, gt_in 748 (by decide +kernel) rfl, ⟨by decide, by decide, by decide +kernel⟩, by decide⟩
theorem k_LW_145 : CallV "BlownByAllLaw" 145 M_BB_again 1 := ⟨gt_in 745 (by decide +kernel) rfl, kc_BB_again⟩
theorem kc_BB_count : Cond.instanceMethod M_BB_count.1 ∈ gtbl ∧ Cond.selects M_BB_count.1.cls M_BB_count.1 M_BB_count.1 ∈ gtbl ∧ Cond.initialized M_BB_count.1.cls ∈ gtbl ∧ Cond.code M_BB_count.1 M_BB_count.2.1 M_BB_count.2.2.1 M_BB_count.2.2.2 ∈ gtbl ∧ (M_BB_count.1.cls ≠ "java/lang/invoke/MethodHandle" ∧ M_BB_count.1.cls ≠ "java/lang/invoke/VarHandle" ∧ (parseMethodDescriptor M_BB_count.1.desc).map (fun d => d.parameters.length) = some 1) ∧ M_BB_count.2.2.1 ≤ 45 := ⟨gt_in 750 (by decide +kernel) rfl, gt_in 751 (by decide +kernel) rfl, gt_in 41 (by decide +kernel) rfl, gt_in 752 (by decide +kernel) rfl, ⟨by decide, by decide, by decide +kernel⟩, by decide⟩
theorem k_LW_149 : CallV "BlownByAllLaw" 149 M_BB_count 1 := ⟨gt_in 749 (by decide +kernel) rfl, kc_BB_count⟩
theorem kc_PE_bribedOnes : Cond.instanceMethod M_PE_bribedOnes.1 ∈ gtbl ∧ Cond.selects M_PE_bribedOnes.1.cls M_PE_bribedOnes.1 M_PE_bribedOnes.1 ∈ gtbl ∧ Cond.initialized M_PE_bribedOnes.1.cls ∈ gtbl ∧ Cond.code M_PE_bribedOnes.1 M_PE_bribedOnes.2.1 M_PE_bribedOnes.2.2.1 M_PE_bribedOnes.2.2.2 ∈ gtbl ∧ (M_PE_bribedOnes.1.cls ≠ "java/lang/invoke/MethodHandle" ∧ M_PE_bribedOnes.1.cls ≠ "java/lang/invoke/VarHandle" ∧ (parseMethodDescriptor M_PE_bribedOnes.1.desc).map (fun d => d.parameters.length) = some 0) ∧ M_PE_bribedOnes.2.2.1 ≤ 45 := ⟨gt_in 754 (by decide +kernel) rfl, gt_in 755 (by decide +kernel) rfl, gt_in 44 (by decide +kernel) rfl, gt_in 756 (by decide +kernel) rfl, ⟨by decide, by decide, by decide +kernel⟩, by decide⟩
theorem k_BB_229 : CallV "BlownByAll" 229 M_PE_bribedOnes 0 := ⟨gt_in 753 (by decide +kernel) rfl, kc_PE_bribedOnes⟩
theorem kc_MO_write : Cond.instanceMethod M_MO_write.1 ∈ gtbl ∧ Cond.selects M_MO_write.1.cls M_MO_write.1 M_MO_write.1 ∈ gtbl ∧ Cond.initialized M_MO_write.1.cls ∈ gtbl ∧ Cond.code M_MO_write.1 M_MO_write.2.1 M_MO_write.2.2.1 M_MO_write.2.2.2 ∈ gtbl ∧ (M_MO_write.1.cls ≠ "java/lang/invoke/MethodHandle" ∧ M_MO_write.1.cls ≠ "java/lang/invoke/VarHandle" ∧ (parseMethodDescriptor M_MO_write.1.desc).map (fun d => d.parameters.length) = some 2) ∧ M_MO_write.2.2.1 ≤ 45 := ⟨gt_in 858 (by decide +kernel) rfl, gt_in 859 (by decide +kernel) rfl, gt_in 50 (by decide +kernel) rfl, gt_in 860 (by decide +kernel) rfl, ⟨by decide, by decide, by decide +kernel⟩, by decide⟩
theorem k_LW_19 : CallV "BlownByAllLaw" 19 M_MO_write 2 := ⟨gt_in 857 (by decide +kernel) rfl, kc_MO_write⟩
theorem kc_MO_in : Cond.static M_MO_in.1 ∈ gtbl ∧ Cond.initialized M_MO_in.1.cls ∈ gtbl ∧ Cond.code M_MO_in.1 M_MO_in.2.1 M_MO_in.2.2.1 M_MO_in.2.2.2 ∈ gtbl ∧ (M_MO_in.1.cls ≠ "java/lang/invoke/MethodHandle" ∧ M_MO_in.1.cls ≠ "java/lang/invoke/VarHandle" ∧ (parseMethodDescriptor M_MO_in.1.desc).map (fun d => d.parameters.length) = some 3) ∧ M_MO_in.2.2.1 ≤ 45 := ⟨gt_in 863 (by decide +kernel) rfl, gt_in 50 (by decide +kernel) rfl, gt_in 864 (by decide +kernel) rfl, ⟨by decide, by decide, by decide +kernel⟩, by decide⟩
theorem k_MO_75 : CallS "BlownByAllModel" 75 M_MO_in 3 := ⟨gt_in 862 (by decide +kernel) rfl, kc_MO_in⟩
theorem kc_MO_wipe : Cond.instanceMethod M_MO_wipe.1 ∈ gtbl ∧ Cond.selects M_MO_wipe.1.cls M_MO_wipe.1 M_MO_wipe.1 ∈ gtbl ∧ Cond.initialized M_MO_wipe.1.cls ∈ gtbl ∧ Cond.code M_MO_wipe.1 M_MO_wipe.2.1 M_MO_wipe.2.2.1 M_MO_wipe.2.2.2 ∈ gtbl ∧ (M_MO_wipe.1.cls ≠ "java/lang/invoke/MethodHandle" ∧ M_MO_wipe.1.cls ≠ "java/lang/invoke/VarHandle" ∧ (parseMethodDescriptor M_MO_wipe.1.desc).map (fun d => d.parameters.length) = some 0) ∧ M_MO_wipe.2.2.1 ≤ 45 := ⟨gt_in 867 (by decide +kernel) rfl, gt_in 868 (by decide +kernel) rfl, gt_in 50 (by decide +kernel) rfl, gt_in 869 (by decide +kernel) rfl, ⟨by decide, by decide, by decide +kernel⟩, by decide⟩
theorem k_LW_24 : CallV "BlownByAllLaw" 24 M_MO_wipe 0 := ⟨gt_in 866 (by decide +kernel) rfl, kc_MO_wipe⟩
theorem kc_MO_fault : Cond.instanceMethod M_MO_fault.1 ∈ gtbl ∧ Cond.selects M_MO_fault.1.cls M_MO_fault.1 M_MO_fault.1 ∈ gtbl ∧ Cond.initialized M_MO_fault.1.cls ∈ gtbl ∧ Cond.code M_MO_fault.1 M_MO_fault.2.1 M_MO_fault.2.2.1 M_MO_fault.2.2.2 ∈ gtbl ∧ (M_MO_fault.1.cls ≠ "java/lang/invoke/MethodHandle" ∧ M_MO_fault.1.cls ≠ "java/lang/invoke/VarHandle" ∧ (parseMethodDescriptor M_MO_fault.1.desc).map (fun d => d.parameters.length) = some 0) ∧ M_MO_fault.2.2.1 ≤ 45 := ⟨gt_in 871 (by decide +kernel) rfl, gt_in 872 (by decide +kernel) rfl, gt_in 50 (by decide +kernel) rfl, gt_in 873 (by decide +kernel) rfl, ⟨by decide, by decide, by decide +kernel⟩, by decide⟩
theorem k_LW_28 : CallV "BlownByAllLaw" 28 M_MO_fault 0 := ⟨gt_in 870 (by decide +kernel) rfl, kc_MO_fault⟩
theorem kc_MO_readText : Cond.instanceMethod M_MO_readText.1 ∈ gtbl ∧ Cond.selects M_MO_readText.1.cls M_MO_readText.1 M_MO_readText.1 ∈ gtbl ∧ Cond.initialized M_MO_readText.1.cls ∈ gtbl ∧ Cond.code M_MO_readText.1 M_MO_readText.2.1 M_MO_readText.2.2.1 M_MO_readText.2.2.2 ∈ gtbl ∧ (M_MO_readText.1.cls ≠ "java/lang/invoke/MethodHandle" ∧ M_MO_readText.1.cls ≠ "java/lang/invoke/VarHandle" ∧ (parseMethodDescriptor M_MO_readText.1.desc).map (fun d => d.parameters.length) = some 0) ∧ M_MO_readText.2.2.1 ≤ 45 := ⟨gt_in 876 (by decide +kernel) rfl, gt_in 21 (by decide +kernel) rfl, gt_in 50 (by decide +kernel) rfl, gt_in 877 (by decide +kernel) rfl, ⟨by decide, by decide, by decide +kernel⟩, by decide⟩
theorem k_MO_120 : CallV "BlownByAllModel" 120 M_MO_readText 0 := ⟨gt_in 874 (by decide +kernel) rfl, kc_MO_readText⟩
theorem kc_MO_here : Cond.instanceMethod M_MO_here.1 ∈ gtbl ∧ Cond.selects M_MO_here.1.cls M_MO_here.1 M_MO_here.1 ∈ gtbl ∧ Cond.initialized M_MO_here.1.cls ∈ gtbl ∧ Cond.code M_MO_here.1 M_MO_here.2.1 M_MO_here.2.2.1 M_MO_here.2.2.2 ∈ gtbl ∧ (M_MO_here.1.cls ≠ "java/lang/invoke/MethodHandle" ∧ M_MO_here.1.cls ≠ "java/lang/invoke/VarHandle" ∧ (parseMethodDescriptor M_MO_here.1.desc).map (fun d => d.parameters.length) = some 0) ∧ M_MO_here.2.2.1 ≤ 45 := ⟨gt_in 880 (by decide +kernel) rfl, gt_in 22 (by decide +kernel) rfl, gt_in 50 (by decide +kernel) rfl, gt_in 881 (by decide +kernel) rfl, ⟨by decide, by decide, by decide +kernel⟩, by decide⟩
theorem k_MO_90 : CallV "BlownByAllModel" 90 M_MO_here 0 := ⟨gt_in 878 (by decide +kernel) rfl, kc_MO_here⟩
theorem kc_MO_figure : Cond.instanceMethod M_MO_figure.1 ∈ gtbl ∧ Cond.selects M_MO_figure.1.cls M_MO_figure.1 M_MO_figure.1 ∈ gtbl ∧ Cond.initialized M_MO_figure.1.cls ∈ gtbl ∧ Cond.code M_MO_figure.1 M_MO_figure.2.1 M_MO_figure.2.2.1 M_MO_figure.2.2.2 ∈ gtbl ∧ (M_MO_figure.1.cls ≠ "java/lang/invoke/MethodHandle" ∧ M_MO_figure.1.cls ≠ "java/lang/invoke/VarHandle" ∧ (parseMethodDescriptor M_MO_figure.1.desc).map (fun d => d.parameters.length) = some 2) ∧ M_MO_figure.2.2.1 ≤ 45 := ⟨gt_in 886 (by decide +kernel) rfl, gt_in 23 (by decide +kernel) rfl, gt_in 50 (by decide +kernel) rfl, gt_in 887 (by decide +kernel) rfl, ⟨by decide, by decide, by decide +kernel⟩, by decide⟩
theorem k_MO_112 : CallV "BlownByAllModel" 112 M_MO_figure 2 := ⟨gt_in 884 (by decide +kernel) rfl, kc_MO_figure⟩
theorem kc_MO_fail : Cond.instanceMethod M_MO_fail.1 ∈ gtbl ∧ Cond.selects M_MO_fail.1.cls M_MO_fail.1 M_MO_fail.1 ∈ gtbl ∧ Cond.initialized M_MO_fail.1.cls ∈ gtbl ∧ Cond.code M_MO_fail.1 M_MO_fail.2.1 M_MO_fail.2.2.1 M_MO_fail.2.2.2 ∈ gtbl ∧ (M_MO_fail.1.cls ≠ "java/lang/invoke/MethodHandle" ∧ M_MO_fail.1.cls ≠ "java/lang/invoke/VarHandle" ∧ (parseMethodDescriptor M_MO_fail.1.desc).map (fun d => d.parameters.length) = some 0) ∧ M_MO_fail.2.2.1 ≤ 45 := ⟨gt_in 890 (by decide +kernel) rfl, gt_in 24 (by decide +kernel) rfl, gt_in 50 (by decide +kernel) rfl, gt_in 891 (by decide +kernel) rfl, ⟨by decide, by decide, by decide +kernel⟩, by decide⟩
theorem k_MO_94 : CallV "BlownByAllModel" 94 M_MO_fail 0 := ⟨gt_in 888 (by decide +kernel) rfl, kc_MO_fail⟩
theorem kc_MO_bits : Cond.instanceMethod M_MO_bits.1 ∈ gtbl ∧ Cond.selects M_MO_bits.1.cls M_MO_bits.1 M_MO_bits.1 ∈ gtbl ∧ Cond.initialized M_MO_bits.1.cls ∈ gtbl ∧ Cond.code M_MO_bits.1 M_MO_bits.2.1 M_MO_bits.2.2.1 M_MO_bits.2.2.2 ∈ gtbl ∧ (M_MO_bits.1.cls ≠ "java/lang/invoke/MethodHandle" ∧ M_MO_bits.1.cls ≠ "java/lang/invoke/VarHandle" ∧ (parseMethodDescriptor M_MO_bits.1.desc).map (fun d => d.parameters.length) = some 1) ∧ M_MO_bits.2.2.1 ≤ 45 := ⟨gt_in 894 (by decide +kernel) rfl, gt_in 25 (by decide +kernel) rfl, gt_in 50 (by decide +kernel) rfl, gt_in 895 (by decide +kernel) rfl, ⟨by decide, by decide, by decide +kernel⟩, by decide⟩
theorem k_MO_116 : CallV "BlownByAllModel" 116 M_MO_bits 1 := ⟨gt_in 892 (by decide +kernel) rfl, kc_MO_bits⟩
theorem kc_MO_organ : Cond.instanceMethod M_MO_organ.1 ∈ gtbl ∧ Cond.selects M_MO_organ.1.cls M_MO_organ.1 M_MO_organ.1 ∈ gtbl ∧ Cond.initialized M_MO_organ.1.cls ∈ gtbl ∧ Cond.code M_MO_organ.1 M_MO_organ.2.1 M_MO_organ.2.2.1 M_MO_organ.2.2.2 ∈ gtbl ∧ (M_MO_organ.1.cls ≠ "java/lang/invoke/MethodHandle" ∧ M_MO_organ.1.cls ≠ "java/lang/invoke/VarHandle" ∧ (parseMethodDescriptor M_MO_organ.1.desc).map (fun d => d.parameters.length) = some 0) ∧ M_MO_organ.2.2.1 ≤ 45 := ⟨gt_in 898 (by decide +kernel) rfl, gt_in 899 (by decide +kernel) rfl, gt_in 50 (by decide +kernel) rfl, gt_in 900 (by decide +kernel) rfl, ⟨by decide, by decide, by decide +kernel⟩, by decide⟩
theorem k_LW_32 : CallV "BlownByAllLaw" 32 M_MO_organ 0 := ⟨gt_in 897 (by decide +kernel) rfl, kc_MO_organ⟩
theorem kc_MO_drinks : Cond.instanceMethod M_MO_drinks.1 ∈ gtbl ∧ Cond.selects M_MO_drinks.1.cls M_MO_drinks.1 M_MO_drinks.1 ∈ gtbl ∧ Cond.initialized M_MO_drinks.1.cls ∈ gtbl ∧ Cond.code M_MO_drinks.1 M_MO_drinks.2.1 M_MO_drinks.2.2.1 M_MO_drinks.2.2.2 ∈ gtbl ∧ (M_MO_drinks.1.cls ≠ "java/lang/invoke/MethodHandle" ∧ M_MO_drinks.1.cls ≠ "java/lang/invoke/VarHandle" ∧ (parseMethodDescriptor M_MO_drinks.1.desc).map (fun d => d.parameters.length) = some 1) ∧ M_MO_drinks.2.2.1 ≤ 45 := ⟨gt_in 902 (by decide +kernel) rfl, gt_in 903 (by decide +kernel) rfl, gt_in 50 (by decide +kernel) rfl, gt_in 904 (by decide +kernel) rfl, ⟨by decide, by decide, by decide +kernel⟩, by decide⟩
theorem k_LW_37 : CallV "BlownByAllLaw" 37 M_MO_drinks 1 := ⟨gt_in 901 (by decide +kernel) rfl, kc_MO_drinks⟩
theorem kc_MO_isPipe : Cond.instanceMethod M_MO_isPipe.1 ∈ gtbl ∧ Cond.selects M_MO_isPipe.1.cls M_MO_isPipe.1 M_MO_isPipe.1 ∈ gtbl ∧ Cond.initialized M_MO_isPipe.1.cls ∈ gtbl ∧ Cond.code M_MO_isPipe.1 M_MO_isPipe.2.1 M_MO_isPipe.2.2.1 M_MO_isPipe.2.2.2 ∈ gtbl ∧ (M_MO_isPipe.1.cls ≠ "java/lang/invoke/MethodHandle" ∧ M_MO_isPipe.1.cls ≠ "java/lang/invoke/VarHandle" ∧ (parseMethodDescriptor M_MO_isPipe.1.desc).map (fun d => d.parameters.length) = some 1) ∧ M_MO_isPipe.2.2.1 ≤ 45 := ⟨gt_in 907 (by decide +kernel) rfl, gt_in 26 (by decide +kernel) rfl, gt_in 50 (by decide +kernel) rfl, gt_in 908 (by decide +kernel) rfl, ⟨by decide, by decide, by decide +kernel⟩, by decide⟩
theorem k_MO_135 : CallV "BlownByAllModel" 135 M_MO_isPipe 1 := ⟨gt_in 905 (by decide +kernel) rfl, kc_MO_isPipe⟩
theorem kc_MO_sounds : Cond.instanceMethod M_MO_sounds.1 ∈ gtbl ∧ Cond.selects M_MO_sounds.1.cls M_MO_sounds.1 M_MO_sounds.1 ∈ gtbl ∧ Cond.initialized M_MO_sounds.1.cls ∈ gtbl ∧ Cond.code M_MO_sounds.1 M_MO_sounds.2.1 M_MO_sounds.2.2.1 M_MO_sounds.2.2.2 ∈ gtbl ∧ (M_MO_sounds.1.cls ≠ "java/lang/invoke/MethodHandle" ∧ M_MO_sounds.1.cls ≠ "java/lang/invoke/VarHandle" ∧ (parseMethodDescriptor M_MO_sounds.1.desc).map (fun d => d.parameters.length) = some 2) ∧ M_MO_sounds.2.2.1 ≤ 45 := ⟨gt_in 910 (by decide +kernel) rfl, gt_in 911 (by decide +kernel) rfl, gt_in 50 (by decide +kernel) rfl, gt_in 912 (by decide +kernel) rfl, ⟨by decide, by decide, by decide +kernel⟩, by decide⟩
theorem k_LW_42 : CallV "BlownByAllLaw" 42 M_MO_sounds 2 := ⟨gt_in 909 (by decide +kernel) rfl, kc_MO_sounds⟩
theorem kc_MO_isBeat : Cond.instanceMethod M_MO_isBeat.1 ∈ gtbl ∧ Cond.selects M_MO_isBeat.1.cls M_MO_isBeat.1 M_MO_isBeat.1 ∈ gtbl ∧ Cond.initialized M_MO_isBeat.1.cls ∈ gtbl ∧ Cond.code M_MO_isBeat.1 M_MO_isBeat.2.1 M_MO_isBeat.2.2.1 M_MO_isBeat.2.2.2 ∈ gtbl ∧ (M_MO_isBeat.1.cls ≠ "java/lang/invoke/MethodHandle" ∧ M_MO_isBeat.1.cls ≠ "java/lang/invoke/VarHandle" ∧ (parseMethodDescriptor M_MO_isBeat.1.desc).map (fun d => d.parameters.length) = some 1) ∧ M_MO_isBeat.2.2.1 ≤ 45 := ⟨gt_in 915 (by decide +kernel) rfl, gt_in 27 (by decide +kernel) rfl, gt_in 50 (by decide +kernel) rfl, gt_in 916 (by decide +kernel) rfl, ⟨by decide, by decide, by decide +kernel⟩, by decide⟩
theorem k_MO_139 : CallV "BlownByAllModel" 139 M_MO_isBeat 1 := ⟨gt_in 913 (by decide +kernel) rfl, kc_MO_isBeat⟩
theorem kc_MO_person : Cond.instanceMethod M_MO_person.1 ∈ gtbl ∧ Cond.selects M_MO_person.1.cls M_MO_person.1 M_MO_person.1 ∈ gtbl ∧ Cond.initialized M_MO_person.1.cls ∈ gtbl ∧ Cond.code M_MO_person.1 M_MO_person.2.1 M_MO_person.2.2.1 M_MO_person.2.2.2 ∈ gtbl ∧ (M_MO_person.1.cls ≠ "java/lang/invoke/MethodHandle" ∧ M_MO_person.1.cls ≠ "java/lang/invoke/VarHandle" ∧ (parseMethodDescriptor M_MO_person.1.desc).map (fun d => d.parameters.length) = some 2) ∧ M_MO_person.2.2.1 ≤ 45 := ⟨gt_in 918 (by decide +kernel) rfl, gt_in 919 (by decide +kernel) rfl, gt_in 50 (by decide +kernel) rfl, gt_in 920 (by decide +kernel) rfl, ⟨by decide, by decide, by decide +kernel⟩, by decide⟩
theorem k_LW_46 : CallV "BlownByAllLaw" 46 M_MO_person 2 := ⟨gt_in 917 (by decide +kernel) rfl, kc_MO_person⟩
theorem kc_MO_isPerson : Cond.instanceMethod M_MO_isPerson.1 ∈ gtbl ∧ Cond.selects M_MO_isPerson.1.cls M_MO_isPerson.1 M_MO_isPerson.1 ∈ gtbl ∧ Cond.initialized M_MO_isPerson.1.cls ∈ gtbl ∧ Cond.code M_MO_isPerson.1 M_MO_isPerson.2.1 M_MO_isPerson.2.2.1 M_MO_isPerson.2.2.2 ∈ gtbl ∧ (M_MO_isPerson.1.cls ≠ "java/lang/invoke/MethodHandle" ∧ M_MO_isPerson.1.cls ≠ "java/lang/invoke/VarHandle" ∧ (parseMethodDescriptor M_MO_isPerson.1.desc).map (fun d => d.parameters.length) = some 1) ∧ M_MO_isPerson.2.2.1 ≤ 45 := ⟨gt_in 923 (by decide +kernel) rfl, gt_in 28 (by decide +kernel) rfl, gt_in 50 (by decide +kernel) rfl, gt_in 924 (by decide +kernel) rfl, ⟨by decide, by decide, by decide +kernel⟩, by decide⟩
theorem k_MO_142 : CallV "BlownByAllModel" 142 M_MO_isPerson 1 := ⟨gt_in 921 (by decide +kernel) rfl, kc_MO_isPerson⟩
theorem kc_MO_seat : Cond.instanceMethod M_MO_seat.1 ∈ gtbl ∧ Cond.selects M_MO_seat.1.cls M_MO_seat.1 M_MO_seat.1 ∈ gtbl ∧ Cond.initialized M_MO_seat.1.cls ∈ gtbl ∧ Cond.code M_MO_seat.1 M_MO_seat.2.1 M_MO_seat.2.2.1 M_MO_seat.2.2.2 ∈ gtbl ∧ (M_MO_seat.1.cls ≠ "java/lang/invoke/MethodHandle" ∧ M_MO_seat.1.cls ≠ "java/lang/invoke/VarHandle" ∧ (parseMethodDescriptor M_MO_seat.1.desc).map (fun d => d.parameters.length) = some 2) ∧ M_MO_seat.2.2.1 ≤ 45 := ⟨gt_in 927 (by decide +kernel) rfl, gt_in 928 (by decide +kernel) rfl, gt_in 50 (by decide +kernel) rfl, gt_in 929 (by decide +kernel) rfl, ⟨by decide, by decide, by decide +kernel⟩, by decide⟩
theorem k_LW_50 : CallV "BlownByAllLaw" 50 M_MO_seat 2 := ⟨gt_in 926 (by decide +kernel) rfl, kc_MO_seat⟩
theorem kc_MO_tell : Cond.instanceMethod M_MO_tell.1 ∈ gtbl ∧ Cond.selects M_MO_tell.1.cls M_MO_tell.1 M_MO_tell.1 ∈ gtbl ∧ Cond.initialized M_MO_tell.1.cls ∈ gtbl ∧ Cond.code M_MO_tell.1 M_MO_tell.2.1 M_MO_tell.2.2.1 M_MO_tell.2.2.2 ∈ gtbl ∧ (M_MO_tell.1.cls ≠ "java/lang/invoke/MethodHandle" ∧ M_MO_tell.1.cls ≠ "java/lang/invoke/VarHandle" ∧ (parseMethodDescriptor M_MO_tell.1.desc).map (fun d => d.parameters.length) = some 2) ∧ M_MO_tell.2.2.1 ≤ 45 := ⟨gt_in 932 (by decide +kernel) rfl, gt_in 29 (by decide +kernel) rfl, gt_in 50 (by decide +kernel) rfl, gt_in 933 (by decide +kernel) rfl, ⟨by decide, by decide, by decide +kernel⟩, by decide⟩
theorem k_MO_147 : CallV "BlownByAllModel" 147 M_MO_tell 2 := ⟨gt_in 930 (by decide +kernel) rfl, kc_MO_tell⟩
theorem kc_MO_phase : Cond.instanceMethod M_MO_phase.1 ∈ gtbl ∧ Cond.selects M_MO_phase.1.cls M_MO_phase.1 M_MO_phase.1 ∈ gtbl ∧ Cond.initialized M_MO_phase.1.cls ∈ gtbl ∧ Cond.code M_MO_phase.1 M_MO_phase.2.1 M_MO_phase.2.2.1 M_MO_phase.2.2.2 ∈ gtbl ∧ (M_MO_phase.1.cls ≠ "java/lang/invoke/MethodHandle" ∧ M_MO_phase.1.cls ≠ "java/lang/invoke/VarHandle" ∧ (parseMethodDescriptor M_MO_phase.1.desc).map (fun d => d.parameters.length) = some 2) ∧ M_MO_phase.2.2.1 ≤ 45 := ⟨gt_in 935 (by decide +kernel) rfl, gt_in 936 (by decide +kernel) rfl, gt_in 50 (by decide +kernel) rfl, gt_in 937 (by decide +kernel) rfl, ⟨by decide, by decide, by decide +kernel⟩, by decide⟩
theorem k_LW_54 : CallV "BlownByAllLaw" 54 M_MO_phase 2 := ⟨gt_in 934 (by decide +kernel) rfl, kc_MO_phase⟩
theorem kc_MO_bribe : Cond.instanceMethod M_MO_bribe.1 ∈ gtbl ∧ Cond.selects M_MO_bribe.1.cls M_MO_bribe.1 M_MO_bribe.1 ∈ gtbl ∧ Cond.initialized M_MO_bribe.1.cls ∈ gtbl ∧ Cond.code M_MO_bribe.1 M_MO_bribe.2.1 M_MO_bribe.2.2.1 M_MO_bribe.2.2.2 ∈ gtbl ∧ (M_MO_bribe.1.cls ≠ "java/lang/invoke/MethodHandle" ∧ M_MO_bribe.1.cls ≠ "java/lang/invoke/VarHandle" ∧ (parseMethodDescriptor M_MO_bribe.1.desc).map (fun d => d.parameters.length) = some 2) ∧ M_MO_bribe.2.2.1 ≤ 45 := ⟨gt_in 939 (by decide +kernel) rfl, gt_in 940 (by decide +kernel) rfl, gt_in 50 (by decide +kernel) rfl, gt_in 941 (by decide +kernel) rfl, ⟨by decide, by decide, by decide +kernel⟩, by decide⟩
theorem k_LW_59 : CallV "BlownByAllLaw" 59 M_MO_bribe 2 := ⟨gt_in 938 (by decide +kernel) rfl, kc_MO_bribe⟩
theorem kc_MO_grow : Cond.instanceMethod M_MO_grow.1 ∈ gtbl ∧ Cond.selects M_MO_grow.1.cls M_MO_grow.1 M_MO_grow.1 ∈ gtbl ∧ Cond.initialized M_MO_grow.1.cls ∈ gtbl ∧ Cond.code M_MO_grow.1 M_MO_grow.2.1 M_MO_grow.2.2.1 M_MO_grow.2.2.2 ∈ gtbl ∧ (M_MO_grow.1.cls ≠ "java/lang/invoke/MethodHandle" ∧ M_MO_grow.1.cls ≠ "java/lang/invoke/VarHandle" ∧ (parseMethodDescriptor M_MO_grow.1.desc).map (fun d => d.parameters.length) = some 1) ∧ M_MO_grow.2.2.1 ≤ 45 := ⟨gt_in 943 (by decide +kernel) rfl, gt_in 944 (by decide +kernel) rfl, gt_in 50 (by decide +kernel) rfl, gt_in 945 (by decide +kernel) rfl, ⟨by decide, by decide, by decide +kernel⟩, by decide⟩
theorem k_LW_63 : CallV "BlownByAllLaw" 63 M_MO_grow 1 := ⟨gt_in 942 (by decide +kernel) rfl, kc_MO_grow⟩
theorem kc_MO_store : Cond.instanceMethod M_MO_store.1 ∈ gtbl ∧ Cond.selects M_MO_store.1.cls M_MO_store.1 M_MO_store.1 ∈ gtbl ∧ Cond.initialized M_MO_store.1.cls ∈ gtbl ∧ Cond.code M_MO_store.1 M_MO_store.2.1 M_MO_store.2.2.1 M_MO_store.2.2.2 ∈ gtbl ∧ (M_MO_store.1.cls ≠ "java/lang/invoke/MethodHandle" ∧ M_MO_store.1.cls ≠ "java/lang/invoke/VarHandle" ∧ (parseMethodDescriptor M_MO_store.1.desc).map (fun d => d.parameters.length) = some 1) ∧ M_MO_store.2.2.1 ≤ 45 := ⟨gt_in 947 (by decide +kernel) rfl, gt_in 948 (by decide +kernel) rfl, gt_in 50 (by decide +kernel) rfl, gt_in 949 (by decide +kernel) rfl, ⟨by decide, by decide, by decide +kernel⟩, by decide⟩
theorem k_LW_67 : CallV "BlownByAllLaw" 67 M_MO_store 1 := ⟨gt_in 946 (by decide +kernel) rfl, kc_MO_store⟩
theorem kc_MO_late : Cond.instanceMethod M_MO_late.1 ∈ gtbl ∧ Cond.selects M_MO_late.1.cls M_MO_late.1 M_MO_late.1 ∈ gtbl ∧ Cond.initialized M_MO_late.1.cls ∈ gtbl ∧ Cond.code M_MO_late.1 M_MO_late.2.1 M_MO_late.2.2.1 M_MO_late.2.2.2 ∈ gtbl ∧ (M_MO_late.1.cls ≠ "java/lang/invoke/MethodHandle" ∧ M_MO_late.1.cls ≠ "java/lang/invoke/VarHandle" ∧ (parseMethodDescriptor M_MO_late.1.desc).map (fun d => d.parameters.length) = some 1) ∧ M_MO_late.2.2.1 ≤ 45 := ⟨gt_in 952 (by decide +kernel) rfl, gt_in 953 (by decide +kernel) rfl, gt_in 50 (by decide +kernel) rfl, gt_in 954 (by decide +kernel) rfl, ⟨by decide, by decide, by decide +kernel⟩, by decide⟩
theorem k_LW_71 : CallV "BlownByAllLaw" 71 M_MO_late 1 := ⟨gt_in 951 (by decide +kernel) rfl, kc_MO_late⟩
theorem kc_MO_gives : Cond.instanceMethod M_MO_gives.1 ∈ gtbl ∧ Cond.selects M_MO_gives.1.cls M_MO_gives.1 M_MO_gives.1 ∈ gtbl ∧ Cond.initialized M_MO_gives.1.cls ∈ gtbl ∧ Cond.code M_MO_gives.1 M_MO_gives.2.1 M_MO_gives.2.2.1 M_MO_gives.2.2.2 ∈ gtbl ∧ (M_MO_gives.1.cls ≠ "java/lang/invoke/MethodHandle" ∧ M_MO_gives.1.cls ≠ "java/lang/invoke/VarHandle" ∧ (parseMethodDescriptor M_MO_gives.1.desc).map (fun d => d.parameters.length) = some 2) ∧ M_MO_gives.2.2.1 ≤ 45 := ⟨gt_in 957 (by decide +kernel) rfl, gt_in 958 (by decide +kernel) rfl, gt_in 50 (by decide +kernel) rfl, gt_in 959 (by decide +kernel) rfl, ⟨by decide, by decide, by decide +kernel⟩, by decide⟩
theorem k_LW_75 : CallV "BlownByAllLaw" 75 M_MO_gives 2 := ⟨gt_in 956 (by decide +kernel) rfl, kc_MO_gives⟩
theorem kc_MO_givesOf : Cond.instanceMethod M_MO_givesOf.1 ∈ gtbl ∧ Cond.selects M_MO_givesOf.1.cls M_MO_givesOf.1 M_MO_givesOf.1 ∈ gtbl ∧ Cond.initialized M_MO_givesOf.1.cls ∈ gtbl ∧ Cond.code M_MO_givesOf.1 M_MO_givesOf.2.1 M_MO_givesOf.2.2.1 M_MO_givesOf.2.2.2 ∈ gtbl ∧ (M_MO_givesOf.1.cls ≠ "java/lang/invoke/MethodHandle" ∧ M_MO_givesOf.1.cls ≠ "java/lang/invoke/VarHandle" ∧ (parseMethodDescriptor M_MO_givesOf.1.desc).map (fun d => d.parameters.length) = some 2) ∧ M_MO_givesOf.2.2.1 ≤ 45 := ⟨gt_in 962 (by decide +kernel) rfl, gt_in 30 (by decide +kernel) rfl, gt_in 50 (by decide +kernel) rfl, gt_in 963 (by decide +kernel) rfl, ⟨by decide, by decide, by decide +kernel⟩, by decide⟩
theorem k_MO_154 : CallV "BlownByAllModel" 154 M_MO_givesOf 2 := ⟨gt_in 960 (by decide +kernel) rfl, kc_MO_givesOf⟩
theorem kc_MO_air : Cond.instanceMethod M_MO_air.1 ∈ gtbl ∧ Cond.selects M_MO_air.1.cls M_MO_air.1 M_MO_air.1 ∈ gtbl ∧ Cond.initialized M_MO_air.1.cls ∈ gtbl ∧ Cond.code M_MO_air.1 M_MO_air.2.1 M_MO_air.2.2.1 M_MO_air.2.2.2 ∈ gtbl ∧ (M_MO_air.1.cls ≠ "java/lang/invoke/MethodHandle" ∧ M_MO_air.1.cls ≠ "java/lang/invoke/VarHandle" ∧ (parseMethodDescriptor M_MO_air.1.desc).map (fun d => d.parameters.length) = some 2) ∧ M_MO_air.2.2.1 ≤ 45 := ⟨gt_in 965 (by decide +kernel) rfl, gt_in 966 (by decide +kernel) rfl, gt_in 50 (by decide +kernel) rfl, gt_in 967 (by decide +kernel) rfl, ⟨by decide, by decide, by decide +kernel⟩, by decide⟩
theorem k_LW_79 : CallV "BlownByAllLaw" 79 M_MO_air 2 := ⟨gt_in 964 (by decide +kernel) rfl, kc_MO_air⟩
theorem kc_MO_sitters : Cond.instanceMethod M_MO_sitters.1 ∈ gtbl ∧ Cond.selects M_MO_sitters.1.cls M_MO_sitters.1 M_MO_sitters.1 ∈ gtbl ∧ Cond.initialized M_MO_sitters.1.cls ∈ gtbl ∧ Cond.code M_MO_sitters.1 M_MO_sitters.2.1 M_MO_sitters.2.2.1 M_MO_sitters.2.2.2 ∈ gtbl ∧ (M_MO_sitters.1.cls ≠ "java/lang/invoke/MethodHandle" ∧ M_MO_sitters.1.cls ≠ "java/lang/invoke/VarHandle" ∧ (parseMethodDescriptor M_MO_sitters.1.desc).map (fun d => d.parameters.length) = some 1) ∧ M_MO_sitters.2.2.1 ≤ 45 := ⟨gt_in 970 (by decide +kernel) rfl, gt_in 31 (by decide +kernel) rfl, gt_in 50 (by decide +kernel) rfl, gt_in 971 (by decide +kernel) rfl, ⟨by decide, by decide, by decide +kernel⟩, by decide⟩
theorem k_MO_160 : CallV "BlownByAllModel" 160 M_MO_sitters 1 := ⟨gt_in 968 (by decide +kernel) rfl, kc_MO_sitters⟩
theorem kc_MO_airOf : Cond.instanceMethod M_MO_airOf.1 ∈ gtbl ∧ Cond.selects M_MO_airOf.1.cls M_MO_airOf.1 M_MO_airOf.1 ∈ gtbl ∧ Cond.initialized M_MO_airOf.1.cls ∈ gtbl ∧ Cond.code M_MO_airOf.1 M_MO_airOf.2.1 M_MO_airOf.2.2.1 M_MO_airOf.2.2.2 ∈ gtbl ∧ (M_MO_airOf.1.cls ≠ "java/lang/invoke/MethodHandle" ∧ M_MO_airOf.1.cls ≠ "java/lang/invoke/VarHandle" ∧ (parseMethodDescriptor M_MO_airOf.1.desc).map (fun d => d.parameters.length) = some 2) ∧ M_MO_airOf.2.2.1 ≤ 45 := ⟨gt_in 974 (by decide +kernel) rfl, gt_in 32 (by decide +kernel) rfl, gt_in 50 (by decide +kernel) rfl, gt_in 975 (by decide +kernel) rfl, ⟨by decide, by decide, by decide +kernel⟩, by decide⟩
theorem k_MO_157 : CallV "BlownByAllModel" 157 M_MO_airOf 2 := ⟨gt_in 972 (by decide +kernel) rfl, kc_MO_airOf⟩
theorem kc_MO_stored : Cond.instanceMethod M_MO_stored.1 ∈ gtbl ∧ Cond.selects M_MO_stored.1.cls M_MO_stored.1 M_MO_stored.1 ∈ gtbl ∧ Cond.initialized M_MO_stored.1.cls ∈ gtbl ∧ Cond.code M_MO_stored.1 M_MO_stored.2.1 M_MO_stored.2.2.1 M_MO_stored.2.2.2 ∈ gtbl ∧ (M_MO_stored.1.cls ≠ "java/lang/invoke/MethodHandle" ∧ M_MO_stored.1.cls ≠ "java/lang/invoke/VarHandle" ∧ (parseMethodDescriptor M_MO_stored.1.desc).map (fun d => d.parameters.length) = some 2) ∧ M_MO_stored.2.2.1 ≤ 45 := ⟨gt_in 977 (by decide +kernel) rfl, gt_in 978 (by decide +kernel) rfl, gt_in 50 (by decide +kernel) rfl, gt_in 979 (by decide +kernel) rfl, ⟨by decide, by decide, by decide +kernel⟩, by decide⟩
theorem k_LW_83 : CallV "BlownByAllLaw" 83 M_MO_stored 2 := ⟨gt_in 976 (by decide +kernel) rfl, kc_MO_stored⟩
theorem kc_MO_blow : Cond.instanceMethod M_MO_blow.1 ∈ gtbl ∧ Cond.selects M_MO_blow.1.cls M_MO_blow.1 M_MO_blow.1 ∈ gtbl ∧ Cond.initialized M_MO_blow.1.cls ∈ gtbl ∧ Cond.code M_MO_blow.1 M_MO_blow.2.1 M_MO_blow.2.2.1 M_MO_blow.2.2.2 ∈ gtbl ∧ (M_MO_blow.1.cls ≠ "java/lang/invoke/MethodHandle" ∧ M_MO_blow.1.cls ≠ "java/lang/invoke/VarHandle" ∧ (parseMethodDescriptor M_MO_blow.1.desc).map (fun d => d.parameters.length) = some 2) ∧ M_MO_blow.2.2.1 ≤ 45 := ⟨gt_in 982 (by decide +kernel) rfl, gt_in 33 (by decide +kernel) rfl, gt_in 50 (by decide +kernel) rfl, gt_in 983 (by decide +kernel) rfl, ⟨by decide, by decide, by decide +kernel⟩, by decide⟩
theorem k_MO_163 : CallV "BlownByAllModel" 163 M_MO_blow 2 := ⟨gt_in 980 (by decide +kernel) rfl, kc_MO_blow⟩
theorem kc_MO_sags : Cond.instanceMethod M_MO_sags.1 ∈ gtbl ∧ Cond.selects M_MO_sags.1.cls M_MO_sags.1 M_MO_sags.1 ∈ gtbl ∧ Cond.initialized M_MO_sags.1.cls ∈ gtbl ∧ Cond.code M_MO_sags.1 M_MO_sags.2.1 M_MO_sags.2.2.1 M_MO_sags.2.2.2 ∈ gtbl ∧ (M_MO_sags.1.cls ≠ "java/lang/invoke/MethodHandle" ∧ M_MO_sags.1.cls ≠ "java/lang/invoke/VarHandle" ∧ (parseMethodDescriptor M_MO_sags.1.desc).map (fun d => d.parameters.length) = some 2) ∧ M_MO_sags.2.2.1 ≤ 45 := ⟨gt_in 985 (by decide +kernel) rfl, gt_in 986 (by decide +kernel) rfl, gt_in 50 (by decide +kernel) rfl, gt_in 987 (by decide +kernel) rfl, ⟨by decide, by decide, by decide +kernel⟩, by decide⟩
theorem k_LW_87 : CallV "BlownByAllLaw" 87 M_MO_sags 2 := ⟨gt_in 984 (by decide +kernel) rfl, kc_MO_sags⟩
theorem kc_MO_total : Cond.instanceMethod M_MO_total.1 ∈ gtbl ∧ Cond.selects M_MO_total.1.cls M_MO_total.1 M_MO_total.1 ∈ gtbl ∧ Cond.initialized M_MO_total.1.cls ∈ gtbl ∧ Cond.code M_MO_total.1 M_MO_total.2.1 M_MO_total.2.2.1 M_MO_total.2.2.2 ∈ gtbl ∧ (M_MO_total.1.cls ≠ "java/lang/invoke/MethodHandle" ∧ M_MO_total.1.cls ≠ "java/lang/invoke/VarHandle" ∧ (parseMethodDescriptor M_MO_total.1.desc).map (fun d => d.parameters.length) = some 0) ∧ M_MO_total.2.2.1 ≤ 45 := ⟨gt_in 989 (by decide +kernel) rfl, gt_in 990 (by decide +kernel) rfl, gt_in 50 (by decide +kernel) rfl, gt_in 991 (by decide +kernel) rfl, ⟨by decide, by decide, by decide +kernel⟩, by decide⟩
theorem k_LW_91 : CallV "BlownByAllLaw" 91 M_MO_total 0 := ⟨gt_in 988 (by decide +kernel) rfl, kc_MO_total⟩
theorem kc_MO_totalOf : Cond.instanceMethod M_MO_totalOf.1 ∈ gtbl ∧ Cond.selects M_MO_totalOf.1.cls M_MO_totalOf.1 M_MO_totalOf.1 ∈ gtbl ∧ Cond.initialized M_MO_totalOf.1.cls ∈ gtbl ∧ Cond.code M_MO_totalOf.1 M_MO_totalOf.2.1 M_MO_totalOf.2.2.1 M_MO_totalOf.2.2.2 ∈ gtbl ∧ (M_MO_totalOf.1.cls ≠ "java/lang/invoke/MethodHandle" ∧ M_MO_totalOf.1.cls ≠ "java/lang/invoke/VarHandle" ∧ (parseMethodDescriptor M_MO_totalOf.1.desc).map (fun d => d.parameters.length) = some 0) ∧ M_MO_totalOf.2.2.1 ≤ 45 := ⟨gt_in 994 (by decide +kernel) rfl, gt_in 34 (by decide +kernel) rfl, gt_in 50 (by decide +kernel) rfl, gt_in 995 (by decide +kernel) rfl, ⟨by decide, by decide, by decide +kernel⟩, by decide⟩
theorem k_MO_166 : CallV "BlownByAllModel" 166 M_MO_totalOf 0 := ⟨gt_in 992 (by decide +kernel) rfl, kc_MO_totalOf⟩
theorem kc_MO_first : Cond.instanceMethod M_MO_first.1 ∈ gtbl ∧ Cond.selects M_MO_first.1.cls M_MO_first.1 M_MO_first.1 ∈ gtbl ∧ Cond.initialized M_MO_first.1.cls ∈ gtbl ∧ Cond.code M_MO_first.1 M_MO_first.2.1 M_MO_first.2.2.1 M_MO_first.2.2.2 ∈ gtbl ∧ (M_MO_first.1.cls ≠ "java/lang/invoke/MethodHandle" ∧ M_MO_first.1.cls ≠ "java/lang/invoke/VarHandle" ∧ (parseMethodDescriptor M_MO_first.1.desc).map (fun d => d.parameters.length) = some 0) ∧ M_MO_first.2.2.1 ≤ 45 := ⟨gt_in 997 (by decide +kernel) rfl, gt_in 998 (by decide +kernel) rfl, gt_in 50 (by decide +kernel) rfl, gt_in 999 (by decide +kernel) rfl, ⟨by decide, by decide, by decide +kernel⟩, by decide⟩
theorem k_LW_95 : CallV "BlownByAllLaw" 95 M_MO_first 0 := ⟨gt_in 996 (by decide +kernel) rfl, kc_MO_first⟩
theorem kc_MO_worst : Cond.instanceMethod M_MO_worst.1 ∈ gtbl ∧ Cond.selects M_MO_worst.1.cls M_MO_worst.1 M_MO_worst.1 ∈ gtbl ∧ Cond.initialized M_MO_worst.1.cls ∈ gtbl ∧ Cond.code M_MO_worst.1 M_MO_worst.2.1 M_MO_worst.2.2.1 M_MO_worst.2.2.2 ∈ gtbl ∧ (M_MO_worst.1.cls ≠ "java/lang/invoke/MethodHandle" ∧ M_MO_worst.1.cls ≠ "java/lang/invoke/VarHandle" ∧ (parseMethodDescriptor M_MO_worst.1.desc).map (fun d => d.parameters.length) = some 0) ∧ M_MO_worst.2.2.1 ≤ 45 := ⟨gt_in 1001 (by decide +kernel) rfl, gt_in 1002 (by decide +kernel) rfl, gt_in 50 (by decide +kernel) rfl, gt_in 1003 (by decide +kernel) rfl, ⟨by decide, by decide, by decide +kernel⟩, by decide⟩
theorem k_LW_99 : CallV "BlownByAllLaw" 99 M_MO_worst 0 := ⟨gt_in 1000 (by decide +kernel) rfl, kc_MO_worst⟩
theorem kc_MO_bestLate : Cond.instanceMethod M_MO_bestLate.1 ∈ gtbl ∧ Cond.selects M_MO_bestLate.1.cls M_MO_bestLate.1 M_MO_bestLate.1 ∈ gtbl ∧ Cond.initialized M_MO_bestLate.1.cls ∈ gtbl ∧ Cond.code M_MO_bestLate.1 M_MO_bestLate.2.1 M_MO_bestLate.2.2.1 M_MO_bestLate.2.2.2 ∈ gtbl ∧ (M_MO_bestLate.1.cls ≠ "java/lang/invoke/MethodHandle" ∧ M_MO_bestLate.1.cls ≠ "java/lang/invoke/VarHandle" ∧ (parseMethodDescriptor M_MO_bestLate.1.desc).map (fun d => d.parameters.length) = some 0) ∧ M_MO_bestLate.2.2.1 ≤ 45 := ⟨gt_in 1005 (by decide +kernel) rfl, gt_in 1006 (by decide +kernel) rfl, gt_in 50 (by decide +kernel) rfl, gt_in 1007 (by decide +kernel) rfl, ⟨by decide, by decide, by decide +kernel⟩, by decide⟩
theorem k_LW_103 : CallV "BlownByAllLaw" 103 M_MO_bestLate 0 := ⟨gt_in 1004 (by decide +kernel) rfl, kc_MO_bestLate⟩
theorem kc_MO_phases : Cond.instanceMethod M_MO_phases.1 ∈ gtbl ∧ Cond.selects M_MO_phases.1.cls M_MO_phases.1 M_MO_phases.1 ∈ gtbl ∧ Cond.initialized M_MO_phases.1.cls ∈ gtbl ∧ Cond.code M_MO_phases.1 M_MO_phases.2.1 M_MO_phases.2.2.1 M_MO_phases.2.2.2 ∈ gtbl ∧ (M_MO_phases.1.cls ≠ "java/lang/invoke/MethodHandle" ∧ M_MO_phases.1.cls ≠ "java/lang/invoke/VarHandle" ∧ (parseMethodDescriptor M_MO_phases.1.desc).map (fun d => d.parameters.length) = some 1) ∧ M_MO_phases.2.2.1 ≤ 45 := ⟨gt_in 1009 (by decide +kernel) rfl, gt_in 1010 (by decide +kernel) rfl, gt_in 50 (by decide +kernel) rfl, gt_in 1011 (by decide +kernel) rfl, ⟨by decide, by decide, by decide +kernel⟩, by decide⟩
theorem k_LW_107 : CallV "BlownByAllLaw" 107 M_MO_phases 1 := ⟨gt_in 1008 (by decide +kernel) rfl, kc_MO_phases⟩
theorem kc_MO_ones : Cond.static M_MO_ones.1 ∈ gtbl ∧ Cond.initialized M_MO_ones.1.cls ∈ gtbl ∧ Cond.code M_MO_ones.1 M_MO_ones.2.1 M_MO_ones.2.2.1 M_MO_ones.2.2.2 ∈ gtbl ∧ (M_MO_ones.1.cls ≠ "java/lang/invoke/MethodHandle" ∧ M_MO_ones.1.cls ≠ "java/lang/invoke/VarHandle" ∧ (parseMethodDescriptor M_MO_ones.1.desc).map (fun d => d.parameters.length) = some 1) ∧ M_MO_ones.2.2.1 ≤ 45 := ⟨gt_in 1013 (by decide +kernel) rfl, gt_in 50 (by decide +kernel) rfl, gt_in 1014 (by decide +kernel) rfl, ⟨by decide, by decide, by decide +kernel⟩, by decide⟩
theorem k_MO_169 : CallS "BlownByAllModel" 169 M_MO_ones 1 := ⟨gt_in 1012 (by decide +kernel) rfl, kc_MO_ones⟩
theorem kc_MO_layPhases : Cond.instanceMethod M_MO_layPhases.1 ∈ gtbl ∧ Cond.selects M_MO_layPhases.1.cls M_MO_layPhases.1 M_MO_layPhases.1 ∈ gtbl ∧ Cond.initialized M_MO_layPhases.1.cls ∈ gtbl ∧ Cond.code M_MO_layPhases.1 M_MO_layPhases.2.1 M_MO_layPhases.2.2.1 M_MO_layPhases.2.2.2 ∈ gtbl ∧ (M_MO_layPhases.1.cls ≠ "java/lang/invoke/MethodHandle" ∧ M_MO_layPhases.1.cls ≠ "java/lang/invoke/VarHandle" ∧ (parseMethodDescriptor M_MO_layPhases.1.desc).map (fun d => d.parameters.length) = some 1) ∧ M_MO_layPhases.2.2.1 ≤ 45 := ⟨gt_in 1017 (by decide +kernel) rfl, gt_in 35 (by decide +kernel) rfl, gt_in 50 (by decide +kernel) rfl, gt_in 1018 (by decide +kernel) rfl, ⟨by decide, by decide, by decide +kernel⟩, by decide⟩
theorem k_MO_175 : CallV "BlownByAllModel" 175 M_MO_layPhases 1 := ⟨gt_in 1015 (by decide +kernel) rfl, kc_MO_layPhases⟩
theorem kc_MO_member : Cond.static M_MO_member.1 ∈ gtbl ∧ Cond.initialized M_MO_member.1.cls ∈ gtbl ∧ Cond.code M_MO_member.1 M_MO_member.2.1 M_MO_member.2.2.1 M_MO_member.2.2.2 ∈ gtbl ∧ (M_MO_member.1.cls ≠ "java/lang/invoke/MethodHandle" ∧ M_MO_member.1.cls ≠ "java/lang/invoke/VarHandle" ∧ (parseMethodDescriptor M_MO_member.1.desc).map (fun d => d.parameters.length) = some 2) ∧ M_MO_member.2.2.1 ≤ 45 := ⟨gt_in 1020 (by decide +kernel) rfl, gt_in 50 (by decide +kernel) rfl, gt_in 1021 (by decide +kernel) rfl, ⟨by decide, by decide, by decide +kernel⟩, by decide⟩
theorem k_MO_172 : CallS "BlownByAllModel" 172 M_MO_member 2 := ⟨gt_in 1019 (by decide +kernel) rfl, kc_MO_member⟩
theorem kc_MO_phaseAt : Cond.instanceMethod M_MO_phaseAt.1 ∈ gtbl ∧ Cond.selects M_MO_phaseAt.1.cls M_MO_phaseAt.1 M_MO_phaseAt.1 ∈ gtbl ∧ Cond.initialized M_MO_phaseAt.1.cls ∈ gtbl ∧ Cond.code M_MO_phaseAt.1 M_MO_phaseAt.2.1 M_MO_phaseAt.2.2.1 M_MO_phaseAt.2.2.2 ∈ gtbl ∧ (M_MO_phaseAt.1.cls ≠ "java/lang/invoke/MethodHandle" ∧ M_MO_phaseAt.1.cls ≠ "java/lang/invoke/VarHandle" ∧ (parseMethodDescriptor M_MO_phaseAt.1.desc).map (fun d => d.parameters.length) = some 2) ∧ M_MO_phaseAt.2.2.1 ≤ 45 := ⟨gt_in 1023 (by decide +kernel) rfl, gt_in 1024 (by decide +kernel) rfl, gt_in 50 (by decide +kernel) rfl, gt_in 1025 (by decide +kernel) rfl, ⟨by decide, by decide, by decide +kernel⟩, by decide⟩
theorem k_LW_111 : CallV "BlownByAllLaw" 111 M_MO_phaseAt 2 := ⟨gt_in 1022 (by decide +kernel) rfl, kc_MO_phaseAt⟩
theorem kc_MO_seats : Cond.instanceMethod M_MO_seats.1 ∈ gtbl ∧ Cond.selects M_MO_seats.1.cls M_MO_seats.1 M_MO_seats.1 ∈ gtbl ∧ Cond.initialized M_MO_seats.1.cls ∈ gtbl ∧ Cond.code M_MO_seats.1 M_MO_seats.2.1 M_MO_seats.2.2.1 M_MO_seats.2.2.2 ∈ gtbl ∧ (M_MO_seats.1.cls ≠ "java/lang/invoke/MethodHandle" ∧ M_MO_seats.1.cls ≠ "java/lang/invoke/VarHandle" ∧ (parseMethodDescriptor M_MO_seats.1.desc).map (fun d => d.parameters.length) = some 0) ∧ M_MO_seats.2.2.1 ≤ 45 := ⟨gt_in 1027 (by decide +kernel) rfl, gt_in 1028 (by decide +kernel) rfl, gt_in 50 (by decide +kernel) rfl, gt_in 1029 (by decide +kernel) rfl, ⟨by decide, by decide, by decide +kernel⟩, by decide⟩
theorem k_LW_115 : CallV "BlownByAllLaw" 115 M_MO_seats 0 := ⟨gt_in 1026 (by decide +kernel) rfl, kc_MO_seats⟩
theorem kc_MO_laySeats : Cond.instanceMethod M_MO_laySeats.1 ∈ gtbl ∧ Cond.selects M_MO_laySeats.1.cls M_MO_laySeats.1 M_MO_laySeats.1 ∈ gtbl ∧ Cond.initialized M_MO_laySeats.1.cls ∈ gtbl ∧ Cond.code M_MO_laySeats.1 M_MO_laySeats.2.1 M_MO_laySeats.2.2.1 M_MO_laySeats.2.2.2 ∈ gtbl ∧ (M_MO_laySeats.1.cls ≠ "java/lang/invoke/MethodHandle" ∧ M_MO_laySeats.1.cls ≠ "java/lang/invoke/VarHandle" ∧ (parseMethodDescriptor M_MO_laySeats.1.desc).map (fun d => d.parameters.length) = some 0) ∧ M_MO_laySeats.2.2.1 ≤ 45 := ⟨gt_in 1032 (by decide +kernel) rfl, gt_in 36 (by decide +kernel) rfl, gt_in 50 (by decide +kernel) rfl, gt_in 1033 (by decide +kernel) rfl, ⟨by decide, by decide, by decide +kernel⟩, by decide⟩
theorem k_MO_178 : CallV "BlownByAllModel" 178 M_MO_laySeats 0 := ⟨gt_in 1030 (by decide +kernel) rfl, kc_MO_laySeats⟩
theorem kc_MO_seatAt : Cond.instanceMethod M_MO_seatAt.1 ∈ gtbl ∧ Cond.selects M_MO_seatAt.1.cls M_MO_seatAt.1 M_MO_seatAt.1 ∈ gtbl ∧ Cond.initialized M_MO_seatAt.1.cls ∈ gtbl ∧ Cond.code M_MO_seatAt.1 M_MO_seatAt.2.1 M_MO_seatAt.2.2.1 M_MO_seatAt.2.2.2 ∈ gtbl ∧ (M_MO_seatAt.1.cls ≠ "java/lang/invoke/MethodHandle" ∧ M_MO_seatAt.1.cls ≠ "java/lang/invoke/VarHandle" ∧ (parseMethodDescriptor M_MO_seatAt.1.desc).map (fun d => d.parameters.length) = some 1) ∧ M_MO_seatAt.2.2.1 ≤ 45 := ⟨gt_in 1035 (by decide +kernel) rfl, gt_in 1036 (by decide +kernel) rfl, gt_in 50 (by decide +kernel) rfl, gt_in 1037 (by decide +kernel) rfl, ⟨by decide, by decide, by decide +kernel⟩, by decide⟩
theorem k_LW_119 : CallV "BlownByAllLaw" 119 M_MO_seatAt 1 := ⟨gt_in 1034 (by decide +kernel) rfl, kc_MO_seatAt⟩
theorem kc_MO_bribes : Cond.instanceMethod M_MO_bribes.1 ∈ gtbl ∧ Cond.selects M_MO_bribes.1.cls M_MO_bribes.1 M_MO_bribes.1 ∈ gtbl ∧ Cond.initialized M_MO_bribes.1.cls ∈ gtbl ∧ Cond.code M_MO_bribes.1 M_MO_bribes.2.1 M_MO_bribes.2.2.1 M_MO_bribes.2.2.2 ∈ gtbl ∧ (M_MO_bribes.1.cls ≠ "java/lang/invoke/MethodHandle" ∧ M_MO_bribes.1.cls ≠ "java/lang/invoke/VarHandle" ∧ (parseMethodDescriptor M_MO_bribes.1.desc).map (fun d => d.parameters.length) = some 0) ∧ M_MO_bribes.2.2.1 ≤ 45 := ⟨gt_in 1039 (by decide +kernel) rfl, gt_in 1040 (by decide +kernel) rfl, gt_in 50 (by decide +kernel) rfl, gt_in 1041 (by decide +kernel) rfl, ⟨by decide, by decide, by decide +kernel⟩, by decide⟩
theorem k_LW_123 : CallV "BlownByAllLaw" 123 M_MO_bribes 0 := ⟨gt_in 1038 (by decide +kernel) rfl, kc_MO_bribes⟩
theorem kc_MO_isSteady : Cond.instanceMethod M_MO_isSteady.1 ∈ gtbl ∧ Cond.selects M_MO_isSteady.1.cls M_MO_isSteady.1 M_MO_isSteady.1 ∈ gtbl ∧ Cond.initialized M_MO_isSteady.1.cls ∈ gtbl ∧ Cond.code M_MO_isSteady.1 M_MO_isSteady.2.1 M_MO_isSteady.2.2.1 M_MO_isSteady.2.2.2 ∈ gtbl ∧ (M_MO_isSteady.1.cls ≠ "java/lang/invoke/MethodHandle" ∧ M_MO_isSteady.1.cls ≠ "java/lang/invoke/VarHandle" ∧ (parseMethodDescriptor M_MO_isSteady.1.desc).map (fun d => d.parameters.length) = some 1) ∧ M_MO_isSteady.2.2.1 ≤ 45 := ⟨gt_in 1044 (by decide +kernel) rfl, gt_in 37 (by decide +kernel) rfl, gt_in 50 (by decide +kernel) rfl, gt_in 1045 (by decide +kernel) rfl, ⟨by decide, by decide, by decide +kernel⟩, by decide⟩
theorem k_MO_181 : CallV "BlownByAllModel" 181 M_MO_isSteady 1 := ⟨gt_in 1042 (by decide +kernel) rfl, kc_MO_isSteady⟩
theorem kc_MO_needed : Cond.instanceMethod M_MO_needed.1 ∈ gtbl ∧ Cond.selects M_MO_needed.1.cls M_MO_needed.1 M_MO_needed.1 ∈ gtbl ∧ Cond.initialized M_MO_needed.1.cls ∈ gtbl ∧ Cond.code M_MO_needed.1 M_MO_needed.2.1 M_MO_needed.2.2.1 M_MO_needed.2.2.2 ∈ gtbl ∧ (M_MO_needed.1.cls ≠ "java/lang/invoke/MethodHandle" ∧ M_MO_needed.1.cls ≠ "java/lang/invoke/VarHandle" ∧ (parseMethodDescriptor M_MO_needed.1.desc).map (fun d => d.parameters.length) = some 1) ∧ M_MO_needed.2.2.1 ≤ 45 := ⟨gt_in 1047 (by decide +kernel) rfl, gt_in 1048 (by decide +kernel) rfl, gt_in 50 (by decide +kernel) rfl, gt_in 1049 (by decide +kernel) rfl, ⟨by decide, by decide, by decide +kernel⟩, by decide⟩
theorem k_LW_127 : CallV "BlownByAllLaw" 127 M_MO_needed 1 := ⟨gt_in 1046 (by decide +kernel) rfl, kc_MO_needed⟩
theorem kc_MO_never : Cond.instanceMethod M_MO_never.1 ∈ gtbl ∧ Cond.selects M_MO_never.1.cls M_MO_never.1 M_MO_never.1 ∈ gtbl ∧ Cond.initialized M_MO_never.1.cls ∈ gtbl ∧ Cond.code M_MO_never.1 M_MO_never.2.1 M_MO_never.2.2.1 M_MO_never.2.2.2 ∈ gtbl ∧ (M_MO_never.1.cls ≠ "java/lang/invoke/MethodHandle" ∧ M_MO_never.1.cls ≠ "java/lang/invoke/VarHandle" ∧ (parseMethodDescriptor M_MO_never.1.desc).map (fun d => d.parameters.length) = some 0) ∧ M_MO_never.2.2.1 ≤ 45 := ⟨gt_in 1051 (by decide +kernel) rfl, gt_in 1052 (by decide +kernel) rfl, gt_in 50 (by decide +kernel) rfl, gt_in 1053 (by decide +kernel) rfl, ⟨by decide, by decide, by decide +kernel⟩, by decide⟩
theorem k_LW_131 : CallV "BlownByAllLaw" 131 M_MO_never 0 := ⟨gt_in 1050 (by decide +kernel) rfl, kc_MO_never⟩
theorem kc_MO_steady : Cond.instanceMethod M_MO_steady.1 ∈ gtbl ∧ Cond.selects M_MO_steady.1.cls M_MO_steady.1 M_MO_steady.1 ∈ gtbl ∧ Cond.initialized M_MO_steady.1.cls ∈ gtbl ∧ Cond.code M_MO_steady.1 M_MO_steady.2.1 M_MO_steady.2.2.1 M_MO_steady.2.2.2 ∈ gtbl ∧ (M_MO_steady.1.cls ≠ "java/lang/invoke/MethodHandle" ∧ M_MO_steady.1.cls ≠ "java/lang/invoke/VarHandle" ∧ (parseMethodDescriptor M_MO_steady.1.desc).map (fun d => d.parameters.length) = some 4) ∧ M_MO_steady.2.2.1 ≤ 45 := ⟨gt_in 1055 (by decide +kernel) rfl, gt_in 1056 (by decide +kernel) rfl, gt_in 50 (by decide +kernel) rfl, gt_in 1057 (by decide +kernel) rfl, ⟨by decide, by decide, by decide +kernel⟩, by decide⟩
theorem k_LW_136 : CallV "BlownByAllLaw" 136 M_MO_steady 4 := ⟨gt_in 1054 (by decide +kernel) rfl, kc_MO_steady⟩
theorem kc_MO_layWays : Cond.instanceMethod M_MO_layWays.1 ∈ gtbl ∧ Cond.selects M_MO_layWays.1.cls M_MO_layWays.1 M_MO_layWays.1 ∈ gtbl ∧ Cond.initialized M_MO_layWays.1.cls ∈ gtbl ∧ Cond.code M_MO_layWays.1 M_MO_layWays.2.1 M_MO_layWays.2.2.1 M_MO_layWays.2.2.2 ∈ gtbl ∧ (M_MO_layWays.1.cls ≠ "java/lang/invoke/MethodHandle" ∧ M_MO_layWays.1.cls ≠ "java/lang/invoke/VarHandle" ∧ (parseMethodDescriptor M_MO_layWays.1.desc).map (fun d => d.parameters.length) = some 3) ∧ M_MO_layWays.2.2.1 ≤ 45 := ⟨gt_in 1063 (by decide +kernel) rfl, gt_in 38 (by decide +kernel) rfl, gt_in 50 (by decide +kernel) rfl, gt_in 1064 (by decide +kernel) rfl, ⟨by decide, by decide, by decide +kernel⟩, by decide⟩
theorem k_MO_194 : CallV "BlownByAllModel" 194 M_MO_layWays 3 := ⟨gt_in 1061 (by decide +kernel) rfl, kc_MO_layWays⟩
theorem kc_MO_less : Cond.instanceMethod M_MO_less.1 ∈ gtbl ∧ Cond.selects M_MO_less.1.cls M_MO_less.1 M_MO_less.1 ∈ gtbl ∧ Cond.initialized M_MO_less.1.cls ∈ gtbl ∧ Cond.code M_MO_less.1 M_MO_less.2.1 M_MO_less.2.2.1 M_MO_less.2.2.2 ∈ gtbl ∧ (M_MO_less.1.cls ≠ "java/lang/invoke/MethodHandle" ∧ M_MO_less.1.cls ≠ "java/lang/invoke/VarHandle" ∧ (parseMethodDescriptor M_MO_less.1.desc).map (fun d => d.parameters.length) = some 1) ∧ M_MO_less.2.2.1 ≤ 45 := ⟨gt_in 1067 (by decide +kernel) rfl, gt_in 39 (by decide +kernel) rfl, gt_in 50 (by decide +kernel) rfl, gt_in 1068 (by decide +kernel) rfl, ⟨by decide, by decide, by decide +kernel⟩, by decide⟩
theorem k_MO_198 : CallV "BlownByAllModel" 198 M_MO_less 1 := ⟨gt_in 1065 (by decide +kernel) rfl, kc_MO_less⟩
theorem kc_MO_part : Cond.static M_MO_part.1 ∈ gtbl ∧ Cond.initialized M_MO_part.1.cls ∈ gtbl ∧ Cond.code M_MO_part.1 M_MO_part.2.1 M_MO_part.2.2.1 M_MO_part.2.2.2 ∈ gtbl ∧ (M_MO_part.1.cls ≠ "java/lang/invoke/MethodHandle" ∧ M_MO_part.1.cls ≠ "java/lang/invoke/VarHandle" ∧ (parseMethodDescriptor M_MO_part.1.desc).map (fun d => d.parameters.length) = some 3) ∧ M_MO_part.2.2.1 ≤ 45 := ⟨gt_in 1070 (by decide +kernel) rfl, gt_in 50 (by decide +kernel) rfl, gt_in 1071 (by decide +kernel) rfl, ⟨by decide, by decide, by decide +kernel⟩, by decide⟩
theorem k_MO_202 : CallS "BlownByAllModel" 202 M_MO_part 3 := ⟨gt_in 1069 (by decide +kernel) rfl, kc_MO_part⟩
theorem kc_MO_blame : Cond.instanceMethod M_MO_blame.1 ∈ gtbl ∧ Cond.selects M_MO_blame.1.cls M_MO_blame.1 M_MO_blame.1 ∈ gtbl ∧ Cond.initialized M_MO_blame.1.cls ∈ gtbl ∧ Cond.code M_MO_blame.1 M_MO_blame.2.1 M_MO_blame.2.2.1 M_MO_blame.2.2.2 ∈ gtbl ∧ (M_MO_blame.1.cls ≠ "java/lang/invoke/MethodHandle" ∧ M_MO_blame.1.cls ≠ "java/lang/invoke/VarHandle" ∧ (parseMethodDescriptor M_MO_blame.1.desc).map (fun d => d.parameters.length) = some 4) ∧ M_MO_blame.2.2.1 ≤ 45 := ⟨gt_in 1073 (by decide +kernel) rfl, gt_in 1074 (by decide +kernel) rfl, gt_in 50 (by decide +kernel) rfl, gt_in 1075 (by decide +kernel) rfl, ⟨by decide, by decide, by decide +kernel⟩, by decide⟩
theorem k_LW_140 : CallV "BlownByAllLaw" 140 M_MO_blame 4 := ⟨gt_in 1072 (by decide +kernel) rfl, kc_MO_blame⟩
theorem kc_MO_keep : Cond.instanceMethod M_MO_keep.1 ∈ gtbl ∧ Cond.selects M_MO_keep.1.cls M_MO_keep.1 M_MO_keep.1 ∈ gtbl ∧ Cond.initialized M_MO_keep.1.cls ∈ gtbl ∧ Cond.code M_MO_keep.1 M_MO_keep.2.1 M_MO_keep.2.2.1 M_MO_keep.2.2.2 ∈ gtbl ∧ (M_MO_keep.1.cls ≠ "java/lang/invoke/MethodHandle" ∧ M_MO_keep.1.cls ≠ "java/lang/invoke/VarHandle" ∧ (parseMethodDescriptor M_MO_keep.1.desc).map (fun d => d.parameters.length) = some 1) ∧ M_MO_keep.2.2.1 ≤ 45 := ⟨gt_in 1078 (by decide +kernel) rfl, gt_in 1079 (by decide +kernel) rfl, gt_in 50 (by decide +kernel) rfl, gt_in 1080 (by decide +kernel) rfl, ⟨by decide, by decide, by decide +kernel⟩, by decide⟩
theorem k_LW_144 : CallV "BlownByAllLaw" 144 M_MO_keep 1 := ⟨gt_in 1077 (by decide +kernel) rfl, kc_MO_keep⟩
theorem kc_MO_again : Cond.instanceMethod M_MO_again.1 ∈ gtbl ∧ Cond.selects M_MO_again.1.cls M_MO_again.1 M_MO_again.1 ∈ gtbl ∧ Cond.initialized M_MO_again.1.cls ∈ gtbl ∧ Cond.code M_MO_again.1 M_MO_again.2.1 M_MO_again.2.2.1 M_MO_again.2.2.2 ∈ gtbl ∧ (M_MO_again.1.cls ≠ "java/lang/invoke/MethodHandle" ∧ M_MO_again.1.cls ≠ "java/lang/invoke/VarHandle" ∧ (parseMethodDescriptor M_MO_again.1.desc).map (fun d => d.parameters.length) = some 1) ∧ M_MO_again.2.2.1 ≤ 45 := ⟨gt_in 1082 (by decide +kernel) rfl, gt_in 1083 (by decide +kernel) rfl, gt_in 50 (by decide +kernel) rfl, gt_in 1084 (by decide +kernel) rfl, ⟨by decide, by decide, by decide +kernel⟩, by decide⟩
theorem k_LW_148 : CallV "BlownByAllLaw" 148 M_MO_again 1 := ⟨gt_in 1081 (by decide +kernel) rfl, kc_MO_again⟩
theorem kc_MO_count : Cond.instanceMethod M_MO_count.1 ∈ gtbl ∧ Cond.selects M_MO_count.1.cls M_MO_count.1 M_MO_count.1 ∈ gtbl ∧ Cond.initialized M_MO_count.1.cls ∈ gtbl ∧ Cond.code M_MO_count.1 M_MO_count.2.1 M_MO_count.2.2.1 M_MO_count.2.2.2 ∈ gtbl ∧ (M_MO_count.1.cls ≠ "java/lang/invoke/MethodHandle" ∧ M_MO_count.1.cls ≠ "java/lang/invoke/VarHandle" ∧ (parseMethodDescriptor M_MO_count.1.desc).map (fun d => d.parameters.length) = some 1) ∧ M_MO_count.2.2.1 ≤ 45 := ⟨gt_in 1086 (by decide +kernel) rfl, gt_in 1087 (by decide +kernel) rfl, gt_in 50 (by decide +kernel) rfl, gt_in 1088 (by decide +kernel) rfl, ⟨by decide, by decide, by decide +kernel⟩, by decide⟩
theorem k_LW_152 : CallV "BlownByAllLaw" 152 M_MO_count 1 := ⟨gt_in 1085 (by decide +kernel) rfl, kc_MO_count⟩
theorem cs_IG_265 : Cond.constant "java/lang/Integer" 265 (1431655765) ∈ gtbl := gt_in 571 (by decide +kernel) rfl
theorem cs_IG_266 : Cond.constant "java/lang/Integer" 266 (858993459) ∈ gtbl := gt_in 572 (by decide +kernel) rfl
theorem cs_IG_267 : Cond.constant "java/lang/Integer" 267 (252645135) ∈ gtbl := gt_in 573 (by decide +kernel) rfl
theorem cs_PH_62 : Cond.constant "BlownByAll$PhasePlan" 62 (2147483647) ∈ gtbl := gt_in 592 (by decide +kernel) rfl
theorem cs_SE_63 : Cond.constant "BlownByAll$SeatPlan" 63 (46656) ∈ gtbl := gt_in 643 (by decide +kernel) rfl
theorem cs_SE_69 : Cond.constant "BlownByAll$SeatPlan" 69 (2147483647) ∈ gtbl := gt_in 648 (by decide +kernel) rfl
theorem cs_BB_201 : Cond.constantLong "BlownByAll" 201 (-1) ∈ gtbl := gt_in 703 (by decide +kernel) rfl
theorem cs_BB_203 : Cond.constantLong "BlownByAll" 203 (-2) ∈ gtbl := gt_in 704 (by decide +kernel) rfl
theorem cs_SN_69 : Cond.constantLong "BlownByAll$Sneezes" 69 (10) ∈ gtbl := gt_in 719 (by decide +kernel) rfl
theorem cs_BB_220 : Cond.constantLong "BlownByAll" 220 (-3) ∈ gtbl := gt_in 736 (by decide +kernel) rfl
theorem cs_MO_73 : Cond.constantLong "BlownByAllModel" 73 (8) ∈ gtbl := gt_in 861 (by decide +kernel) rfl
theorem cs_MO_82 : Cond.constantLong "BlownByAllModel" 82 (255) ∈ gtbl := gt_in 865 (by decide +kernel) rfl
theorem cs_MO_108 : Cond.constantLong "BlownByAllModel" 108 (49) ∈ gtbl := gt_in 882 (by decide +kernel) rfl
theorem cs_MO_110 : Cond.constantLong "BlownByAllModel" 110 (57) ∈ gtbl := gt_in 883 (by decide +kernel) rfl
theorem cs_MO_97 : Cond.constantLong "BlownByAllModel" 97 (7) ∈ gtbl := gt_in 896 (by decide +kernel) rfl
theorem cs_MO_145 : Cond.constantLong "BlownByAllModel" 145 (4) ∈ gtbl := gt_in 925 (by decide +kernel) rfl
theorem cs_MO_150 : Cond.constantLong "BlownByAllModel" 150 (9) ∈ gtbl := gt_in 950 (by decide +kernel) rfl
theorem cs_MO_152 : Cond.constantLong "BlownByAllModel" 152 (99) ∈ gtbl := gt_in 955 (by decide +kernel) rfl
theorem cs_MO_190 : Cond.constantLong "BlownByAllModel" 190 (-1) ∈ gtbl := gt_in 1058 (by decide +kernel) rfl
theorem cs_MO_188 : Cond.constantLong "BlownByAllModel" 188 (10) ∈ gtbl := gt_in 1059 (by decide +kernel) rfl
theorem cs_MO_192 : Cond.constantLong "BlownByAllModel" 192 (-2) ∈ gtbl := gt_in 1060 (by decide +kernel) rfl
theorem cs_MO_206 : Cond.constantLong "BlownByAllModel" 206 (-3) ∈ gtbl := gt_in 1076 (by decide +kernel) rfl
theorem cs_LW_13 : Cond.constantLong "BlownByAllLaw" 13 (4294967295) ∈ gtbl := gt_in 1089 (by decide +kernel) rfl
end
