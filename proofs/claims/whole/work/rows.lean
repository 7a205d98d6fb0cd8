section
-- ===== PART A: goes FIRST, ahead of the names: the tables' words, and 'selects' of the private methods out of them =====
/-- a private method of a class that the tables say can be made, by its rows of tables_1 -/
def lw_okq (q : MethodName × Nat) : Prop := (q.1.cls ≠ "java/lang/invoke/MethodHandle" ∧ q.1.cls ≠ "java/lang/invoke/VarHandle") ∧ Cond.instantiable q.1.cls q.2 ∈ tables_1 ∧ Cond.privateMethod q.1 ∈ tables_1 ∧ Cond.instanceMethod q.1 ∈ tables_1
theorem lw_p0 : lw_okq (⟨"BlownByAll$Script", "takeSign", "(C)Z"⟩, 6) := ⟨⟨by decide +kernel, by decide +kernel⟩, List.mem_of_getElem? (i := 22) (by decide +kernel), List.mem_of_getElem? (i := 333) (by decide +kernel), List.mem_of_getElem? (i := 334) (by decide +kernel)⟩
theorem lw_p1 : lw_okq (⟨"BlownByAll$Script", "signAt", "(I)I"⟩, 6) := ⟨⟨by decide +kernel, by decide +kernel⟩, List.mem_of_getElem? (i := 22) (by decide +kernel), List.mem_of_getElem? (i := 337) (by decide +kernel), List.mem_of_getElem? (i := 338) (by decide +kernel)⟩
theorem lw_p2 : lw_okq (⟨"BlownByAll$Script", "takePipes", "()Z"⟩, 6) := ⟨⟨by decide +kernel, by decide +kernel⟩, List.mem_of_getElem? (i := 22) (by decide +kernel), List.mem_of_getElem? (i := 341) (by decide +kernel), List.mem_of_getElem? (i := 342) (by decide +kernel)⟩
theorem lw_p3 : lw_okq (⟨"BlownByAll$Script", "takeFigure", "(II)Z"⟩, 6) := ⟨⟨by decide +kernel, by decide +kernel⟩, List.mem_of_getElem? (i := 22) (by decide +kernel), List.mem_of_getElem? (i := 345) (by decide +kernel), List.mem_of_getElem? (i := 346) (by decide +kernel)⟩
theorem lw_p4 : lw_okq (⟨"BlownByAll$Script", "figureAt", "(I)I"⟩, 6) := ⟨⟨by decide +kernel, by decide +kernel⟩, List.mem_of_getElem? (i := 22) (by decide +kernel), List.mem_of_getElem? (i := 349) (by decide +kernel), List.mem_of_getElem? (i := 350) (by decide +kernel)⟩
theorem lw_p5 : lw_okq (⟨"BlownByAll$Script", "takePeople", "()Z"⟩, 6) := ⟨⟨by decide +kernel, by decide +kernel⟩, List.mem_of_getElem? (i := 22) (by decide +kernel), List.mem_of_getElem? (i := 353) (by decide +kernel), List.mem_of_getElem? (i := 354) (by decide +kernel)⟩
theorem lw_p6 : lw_okq (⟨"BlownByAll$Script", "takeHymn", "()Z"⟩, 6) := ⟨⟨by decide +kernel, by decide +kernel⟩, List.mem_of_getElem? (i := 22) (by decide +kernel), List.mem_of_getElem? (i := 357) (by decide +kernel), List.mem_of_getElem? (i := 358) (by decide +kernel)⟩
theorem lw_p7 : lw_okq (⟨"BlownByAll$PhasePlan", "list", "(I)V"⟩, 9) := ⟨⟨by decide +kernel, by decide +kernel⟩, List.mem_of_getElem? (i := 163) (by decide +kernel), List.mem_of_getElem? (i := 535) (by decide +kernel), List.mem_of_getElem? (i := 536) (by decide +kernel)⟩
theorem lw_p8 : lw_okq (⟨"BlownByAll$PhasePlan", "foresee", "()V"⟩, 9) := ⟨⟨by decide +kernel, by decide +kernel⟩, List.mem_of_getElem? (i := 163) (by decide +kernel), List.mem_of_getElem? (i := 544) (by decide +kernel), List.mem_of_getElem? (i := 545) (by decide +kernel)⟩
theorem lw_p9 : lw_okq (⟨"BlownByAll$PhasePlan", "leastAlone", "(I)I"⟩, 9) := ⟨⟨by decide +kernel, by decide +kernel⟩, List.mem_of_getElem? (i := 163) (by decide +kernel), List.mem_of_getElem? (i := 549) (by decide +kernel), List.mem_of_getElem? (i := 550) (by decide +kernel)⟩
theorem lw_p10 : lw_okq (⟨"BlownByAll$PhasePlan", "lastPhase", "(I)I"⟩, 9) := ⟨⟨by decide +kernel, by decide +kernel⟩, List.mem_of_getElem? (i := 163) (by decide +kernel), List.mem_of_getElem? (i := 554) (by decide +kernel), List.mem_of_getElem? (i := 555) (by decide +kernel)⟩
theorem lw_p11 : lw_okq (⟨"BlownByAll$PhasePlan", "breath", "(I)I"⟩, 9) := ⟨⟨by decide +kernel, by decide +kernel⟩, List.mem_of_getElem? (i := 163) (by decide +kernel), List.mem_of_getElem? (i := 558) (by decide +kernel), List.mem_of_getElem? (i := 559) (by decide +kernel)⟩
theorem lw_p12 : lw_okq (⟨"BlownByAll$PhasePlan", "settle", "(I)V"⟩, 9) := ⟨⟨by decide +kernel, by decide +kernel⟩, List.mem_of_getElem? (i := 163) (by decide +kernel), List.mem_of_getElem? (i := 573) (by decide +kernel), List.mem_of_getElem? (i := 574) (by decide +kernel)⟩
theorem lw_p13 : lw_okq (⟨"BlownByAll$SeatPlan", "setPrices", "(I)V"⟩, 5) := ⟨⟨by decide +kernel, by decide +kernel⟩, List.mem_of_getElem? (i := 198) (by decide +kernel), List.mem_of_getElem? (i := 593) (by decide +kernel), List.mem_of_getElem? (i := 594) (by decide +kernel)⟩
theorem lw_p14 : lw_okq (⟨"BlownByAll$SeatPlan", "bestWith", "(II)I"⟩, 5) := ⟨⟨by decide +kernel, by decide +kernel⟩, List.mem_of_getElem? (i := 198) (by decide +kernel), List.mem_of_getElem? (i := 605) (by decide +kernel), List.mem_of_getElem? (i := 606) (by decide +kernel)⟩
theorem lw_p15 : lw_okq (⟨"BlownByAll$SeatPlan", "plan", "()I"⟩, 5) := ⟨⟨by decide +kernel, by decide +kernel⟩, List.mem_of_getElem? (i := 198) (by decide +kernel), List.mem_of_getElem? (i := 615) (by decide +kernel), List.mem_of_getElem? (i := 616) (by decide +kernel)⟩
def lw_privs_1 : List (MethodName × Nat) := [(⟨"BlownByAll$Script", "takeSign", "(C)Z"⟩, 6), (⟨"BlownByAll$Script", "signAt", "(I)I"⟩, 6), (⟨"BlownByAll$Script", "takePipes", "()Z"⟩, 6), (⟨"BlownByAll$Script", "takeFigure", "(II)Z"⟩, 6), (⟨"BlownByAll$Script", "figureAt", "(I)I"⟩, 6), (⟨"BlownByAll$Script", "takePeople", "()Z"⟩, 6), (⟨"BlownByAll$Script", "takeHymn", "()Z"⟩, 6), (⟨"BlownByAll$PhasePlan", "list", "(I)V"⟩, 9), (⟨"BlownByAll$PhasePlan", "foresee", "()V"⟩, 9), (⟨"BlownByAll$PhasePlan", "leastAlone", "(I)I"⟩, 9), (⟨"BlownByAll$PhasePlan", "lastPhase", "(I)I"⟩, 9), (⟨"BlownByAll$PhasePlan", "breath", "(I)I"⟩, 9), (⟨"BlownByAll$PhasePlan", "settle", "(I)V"⟩, 9), (⟨"BlownByAll$SeatPlan", "setPrices", "(I)V"⟩, 5), (⟨"BlownByAll$SeatPlan", "bestWith", "(II)I"⟩, 5), (⟨"BlownByAll$SeatPlan", "plan", "()I"⟩, 5)]
theorem lw_r1 : ∀ q ∈ lw_privs_1, lw_okq q := List.forall_mem_cons.mpr ⟨lw_p0, List.forall_mem_cons.mpr ⟨lw_p1, List.forall_mem_cons.mpr ⟨lw_p2, List.forall_mem_cons.mpr ⟨lw_p3, List.forall_mem_cons.mpr ⟨lw_p4, List.forall_mem_cons.mpr ⟨lw_p5, List.forall_mem_cons.mpr ⟨lw_p6, List.forall_mem_cons.mpr ⟨lw_p7, List.forall_mem_cons.mpr ⟨lw_p8, List.forall_mem_cons.mpr ⟨lw_p9, List.forall_mem_cons.mpr ⟨lw_p10, List.forall_mem_cons.mpr ⟨lw_p11, List.forall_mem_cons.mpr ⟨lw_p12, List.forall_mem_cons.mpr ⟨lw_p13, List.forall_mem_cons.mpr ⟨lw_p14, List.forall_mem_cons.mpr ⟨lw_p15, fun _ h => absurd h List.not_mem_nil⟩⟩⟩⟩⟩⟩⟩⟩⟩⟩⟩⟩⟩⟩⟩⟩
theorem lw_p16 : lw_okq (⟨"BlownByAll$BribePlan", "nextToDecide", "(I)I"⟩, 6) := ⟨⟨by decide +kernel, by decide +kernel⟩, List.mem_of_getElem? (i := 220) (by decide +kernel), List.mem_of_getElem? (i := 644) (by decide +kernel), List.mem_of_getElem? (i := 645) (by decide +kernel)⟩
theorem lw_p17 : lw_okq (⟨"BlownByAll$Sneezes", "spread", "(III)V"⟩, 6) := ⟨⟨by decide +kernel, by decide +kernel⟩, List.mem_of_getElem? (i := 245) (by decide +kernel), List.mem_of_getElem? (i := 671) (by decide +kernel), List.mem_of_getElem? (i := 672) (by decide +kernel)⟩
theorem lw_p18 : lw_okq (⟨"BlownByAll$Sneezes", "admit", "(II)V"⟩, 6) := ⟨⟨by decide +kernel, by decide +kernel⟩, List.mem_of_getElem? (i := 245) (by decide +kernel), List.mem_of_getElem? (i := 676) (by decide +kernel), List.mem_of_getElem? (i := 677) (by decide +kernel)⟩
theorem lw_p19 : lw_okq (⟨"BlownByAll$Sneezes", "casesUnder", "(I)J"⟩, 6) := ⟨⟨by decide +kernel, by decide +kernel⟩, List.mem_of_getElem? (i := 245) (by decide +kernel), List.mem_of_getElem? (i := 681) (by decide +kernel), List.mem_of_getElem? (i := 682) (by decide +kernel)⟩
theorem lw_p20 : lw_okq (⟨"BlownByAll$Sneezes", "reduce", "(JJ)V"⟩, 6) := ⟨⟨by decide +kernel, by decide +kernel⟩, List.mem_of_getElem? (i := 245) (by decide +kernel), List.mem_of_getElem? (i := 685) (by decide +kernel), List.mem_of_getElem? (i := 686) (by decide +kernel)⟩
theorem lw_p21 : lw_okq (⟨"BlownByAllModel", "readText", "()I"⟩, 31) := ⟨⟨by decide +kernel, by decide +kernel⟩, List.mem_of_getElem? (i := 718) (by decide +kernel), List.mem_of_getElem? (i := 835) (by decide +kernel), List.mem_of_getElem? (i := 836) (by decide +kernel)⟩
theorem lw_p22 : lw_okq (⟨"BlownByAllModel", "here", "()I"⟩, 31) := ⟨⟨by decide +kernel, by decide +kernel⟩, List.mem_of_getElem? (i := 718) (by decide +kernel), List.mem_of_getElem? (i := 839) (by decide +kernel), List.mem_of_getElem? (i := 840) (by decide +kernel)⟩
theorem lw_p23 : lw_okq (⟨"BlownByAllModel", "figure", "(II)I"⟩, 31) := ⟨⟨by decide +kernel, by decide +kernel⟩, List.mem_of_getElem? (i := 718) (by decide +kernel), List.mem_of_getElem? (i := 845) (by decide +kernel), List.mem_of_getElem? (i := 846) (by decide +kernel)⟩
theorem lw_p24 : lw_okq (⟨"BlownByAllModel", "fail", "()V"⟩, 31) := ⟨⟨by decide +kernel, by decide +kernel⟩, List.mem_of_getElem? (i := 718) (by decide +kernel), List.mem_of_getElem? (i := 849) (by decide +kernel), List.mem_of_getElem? (i := 850) (by decide +kernel)⟩
theorem lw_p25 : lw_okq (⟨"BlownByAllModel", "bits", "(I)I"⟩, 31) := ⟨⟨by decide +kernel, by decide +kernel⟩, List.mem_of_getElem? (i := 718) (by decide +kernel), List.mem_of_getElem? (i := 853) (by decide +kernel), List.mem_of_getElem? (i := 854) (by decide +kernel)⟩
theorem lw_p26 : lw_okq (⟨"BlownByAllModel", "isPipe", "(I)Z"⟩, 31) := ⟨⟨by decide +kernel, by decide +kernel⟩, List.mem_of_getElem? (i := 718) (by decide +kernel), List.mem_of_getElem? (i := 866) (by decide +kernel), List.mem_of_getElem? (i := 867) (by decide +kernel)⟩
theorem lw_p27 : lw_okq (⟨"BlownByAllModel", "isBeat", "(I)Z"⟩, 31) := ⟨⟨by decide +kernel, by decide +kernel⟩, List.mem_of_getElem? (i := 718) (by decide +kernel), List.mem_of_getElem? (i := 874) (by decide +kernel), List.mem_of_getElem? (i := 875) (by decide +kernel)⟩
theorem lw_p28 : lw_okq (⟨"BlownByAllModel", "isPerson", "(I)Z"⟩, 31) := ⟨⟨by decide +kernel, by decide +kernel⟩, List.mem_of_getElem? (i := 718) (by decide +kernel), List.mem_of_getElem? (i := 882) (by decide +kernel), List.mem_of_getElem? (i := 883) (by decide +kernel)⟩
theorem lw_p29 : lw_okq (⟨"BlownByAllModel", "tell", "(II)I"⟩, 31) := ⟨⟨by decide +kernel, by decide +kernel⟩, List.mem_of_getElem? (i := 718) (by decide +kernel), List.mem_of_getElem? (i := 891) (by decide +kernel), List.mem_of_getElem? (i := 892) (by decide +kernel)⟩
theorem lw_p30 : lw_okq (⟨"BlownByAllModel", "givesOf", "(II)I"⟩, 31) := ⟨⟨by decide +kernel, by decide +kernel⟩, List.mem_of_getElem? (i := 718) (by decide +kernel), List.mem_of_getElem? (i := 921) (by decide +kernel), List.mem_of_getElem? (i := 922) (by decide +kernel)⟩
theorem lw_p31 : lw_okq (⟨"BlownByAllModel", "sitters", "(I)I"⟩, 31) := ⟨⟨by decide +kernel, by decide +kernel⟩, List.mem_of_getElem? (i := 718) (by decide +kernel), List.mem_of_getElem? (i := 929) (by decide +kernel), List.mem_of_getElem? (i := 930) (by decide +kernel)⟩
def lw_privs_2 : List (MethodName × Nat) := [(⟨"BlownByAll$BribePlan", "nextToDecide", "(I)I"⟩, 6), (⟨"BlownByAll$Sneezes", "spread", "(III)V"⟩, 6), (⟨"BlownByAll$Sneezes", "admit", "(II)V"⟩, 6), (⟨"BlownByAll$Sneezes", "casesUnder", "(I)J"⟩, 6), (⟨"BlownByAll$Sneezes", "reduce", "(JJ)V"⟩, 6), (⟨"BlownByAllModel", "readText", "()I"⟩, 31), (⟨"BlownByAllModel", "here", "()I"⟩, 31), (⟨"BlownByAllModel", "figure", "(II)I"⟩, 31), (⟨"BlownByAllModel", "fail", "()V"⟩, 31), (⟨"BlownByAllModel", "bits", "(I)I"⟩, 31), (⟨"BlownByAllModel", "isPipe", "(I)Z"⟩, 31), (⟨"BlownByAllModel", "isBeat", "(I)Z"⟩, 31), (⟨"BlownByAllModel", "isPerson", "(I)Z"⟩, 31), (⟨"BlownByAllModel", "tell", "(II)I"⟩, 31), (⟨"BlownByAllModel", "givesOf", "(II)I"⟩, 31), (⟨"BlownByAllModel", "sitters", "(I)I"⟩, 31)]
theorem lw_r2 : ∀ q ∈ lw_privs_2, lw_okq q := List.forall_mem_cons.mpr ⟨lw_p16, List.forall_mem_cons.mpr ⟨lw_p17, List.forall_mem_cons.mpr ⟨lw_p18, List.forall_mem_cons.mpr ⟨lw_p19, List.forall_mem_cons.mpr ⟨lw_p20, List.forall_mem_cons.mpr ⟨lw_p21, List.forall_mem_cons.mpr ⟨lw_p22, List.forall_mem_cons.mpr ⟨lw_p23, List.forall_mem_cons.mpr ⟨lw_p24, List.forall_mem_cons.mpr ⟨lw_p25, List.forall_mem_cons.mpr ⟨lw_p26, List.forall_mem_cons.mpr ⟨lw_p27, List.forall_mem_cons.mpr ⟨lw_p28, List.forall_mem_cons.mpr ⟨lw_p29, List.forall_mem_cons.mpr ⟨lw_p30, List.forall_mem_cons.mpr ⟨lw_p31, fun _ h => absurd h List.not_mem_nil⟩⟩⟩⟩⟩⟩⟩⟩⟩⟩⟩⟩⟩⟩⟩⟩
theorem lw_p32 : lw_okq (⟨"BlownByAllModel", "airOf", "(II)I"⟩, 31) := ⟨⟨by decide +kernel, by decide +kernel⟩, List.mem_of_getElem? (i := 718) (by decide +kernel), List.mem_of_getElem? (i := 933) (by decide +kernel), List.mem_of_getElem? (i := 934) (by decide +kernel)⟩
theorem lw_p33 : lw_okq (⟨"BlownByAllModel", "blow", "(II)I"⟩, 31) := ⟨⟨by decide +kernel, by decide +kernel⟩, List.mem_of_getElem? (i := 718) (by decide +kernel), List.mem_of_getElem? (i := 941) (by decide +kernel), List.mem_of_getElem? (i := 942) (by decide +kernel)⟩
theorem lw_p34 : lw_okq (⟨"BlownByAllModel", "totalOf", "()I"⟩, 31) := ⟨⟨by decide +kernel, by decide +kernel⟩, List.mem_of_getElem? (i := 718) (by decide +kernel), List.mem_of_getElem? (i := 953) (by decide +kernel), List.mem_of_getElem? (i := 954) (by decide +kernel)⟩
theorem lw_p35 : lw_okq (⟨"BlownByAllModel", "layPhases", "(I)I"⟩, 31) := ⟨⟨by decide +kernel, by decide +kernel⟩, List.mem_of_getElem? (i := 718) (by decide +kernel), List.mem_of_getElem? (i := 976) (by decide +kernel), List.mem_of_getElem? (i := 977) (by decide +kernel)⟩
theorem lw_p36 : lw_okq (⟨"BlownByAllModel", "laySeats", "()I"⟩, 31) := ⟨⟨by decide +kernel, by decide +kernel⟩, List.mem_of_getElem? (i := 718) (by decide +kernel), List.mem_of_getElem? (i := 991) (by decide +kernel), List.mem_of_getElem? (i := 992) (by decide +kernel)⟩
theorem lw_p37 : lw_okq (⟨"BlownByAllModel", "isSteady", "(I)Z"⟩, 31) := ⟨⟨by decide +kernel, by decide +kernel⟩, List.mem_of_getElem? (i := 718) (by decide +kernel), List.mem_of_getElem? (i := 1003) (by decide +kernel), List.mem_of_getElem? (i := 1004) (by decide +kernel)⟩
theorem lw_p38 : lw_okq (⟨"BlownByAllModel", "layWays", "(III)V"⟩, 31) := ⟨⟨by decide +kernel, by decide +kernel⟩, List.mem_of_getElem? (i := 718) (by decide +kernel), List.mem_of_getElem? (i := 1022) (by decide +kernel), List.mem_of_getElem? (i := 1023) (by decide +kernel)⟩
theorem lw_p39 : lw_okq (⟨"BlownByAllModel", "less", "(I)J"⟩, 31) := ⟨⟨by decide +kernel, by decide +kernel⟩, List.mem_of_getElem? (i := 718) (by decide +kernel), List.mem_of_getElem? (i := 1026) (by decide +kernel), List.mem_of_getElem? (i := 1027) (by decide +kernel)⟩
def lw_privs_3 : List (MethodName × Nat) := [(⟨"BlownByAllModel", "airOf", "(II)I"⟩, 31), (⟨"BlownByAllModel", "blow", "(II)I"⟩, 31), (⟨"BlownByAllModel", "totalOf", "()I"⟩, 31), (⟨"BlownByAllModel", "layPhases", "(I)I"⟩, 31), (⟨"BlownByAllModel", "laySeats", "()I"⟩, 31), (⟨"BlownByAllModel", "isSteady", "(I)Z"⟩, 31), (⟨"BlownByAllModel", "layWays", "(III)V"⟩, 31), (⟨"BlownByAllModel", "less", "(I)J"⟩, 31)]
theorem lw_r3 : ∀ q ∈ lw_privs_3, lw_okq q := List.forall_mem_cons.mpr ⟨lw_p32, List.forall_mem_cons.mpr ⟨lw_p33, List.forall_mem_cons.mpr ⟨lw_p34, List.forall_mem_cons.mpr ⟨lw_p35, List.forall_mem_cons.mpr ⟨lw_p36, List.forall_mem_cons.mpr ⟨lw_p37, List.forall_mem_cons.mpr ⟨lw_p38, List.forall_mem_cons.mpr ⟨lw_p39, fun _ h => absurd h List.not_mem_nil⟩⟩⟩⟩⟩⟩⟩⟩
def lw_privs : List (MethodName × Nat) := lw_privs_1 ++ (lw_privs_2 ++ (lw_privs_3))
def lw_tbl : List Cond := k2_sels lw_privs ++ tables_1
theorem lw_privs_ok : ∀ q ∈ lw_privs, lw_okq q := by
  show ∀ q ∈ lw_privs_1 ++ (lw_privs_2 ++ (lw_privs_3)), lw_okq q
  exact List.forall_mem_append.mpr ⟨lw_r1, List.forall_mem_append.mpr ⟨lw_r2, lw_r3⟩⟩
end
section
/-! names of the classes, their fields by slots, the methods, the cells of the world -/
def R_BP : String := "BlownByAll$BribePlan"
def F_BP : u_T := fun k => match k with
  | 0 => ("BlownByAll$BribePlan", "pipes", "LBlownByAll$Pipes;", true)
  | 1 => ("BlownByAll$BribePlan", "people", "LBlownByAll$People;", true)
  | 2 => ("BlownByAll$BribePlan", "mass", "LBlownByAll$Mass;", true)
  | 3 => ("BlownByAll$BribePlan", "pipe", "I", false)
  | 4 => ("BlownByAll$BribePlan", "fewest", "I", false)
  | _ => ("BlownByAll$BribePlan", "bits", "I", false)
def t_BP : Nat → FieldType := fun k => match k with
  | 0 => .object "BlownByAll$Pipes"
  | 1 => .object "BlownByAll$People"
  | 2 => .object "BlownByAll$Mass"
  | 3 => .int
  | 4 => .int
  | _ => .int
theorem n_BP : ∀ a, a < 6 → ∀ b, b < 6 → a ≠ b → (F_BP a).2.1 ≠ (F_BP b).2.1 := by decide +kernel
theorem t_BP_ok : ∀ k, k < 6 → parseFieldDescriptor (F_BP k).2.2.1 = some (t_BP k) := by decide +kernel
theorem i_BP : ∀ w ∈ u_ws R_BP F_BP 6, w ∈ lw_tbl := by decide +kernel
def R_MA : String := "BlownByAll$Mass"
def F_MA : u_T := fun k => match k with
  | 0 => ("BlownByAll$Mass", "pipes", "LBlownByAll$Pipes;", true)
  | 1 => ("BlownByAll$Mass", "people", "LBlownByAll$People;", true)
  | 2 => ("BlownByAll$Mass", "wind", "[I", true)
  | 3 => ("BlownByAll$Mass", "held", "[I", true)
  | _ => ("BlownByAll$Mass", "missing", "[I", true)
def t_MA : Nat → FieldType := fun k => match k with
  | 0 => .object "BlownByAll$Pipes"
  | 1 => .object "BlownByAll$People"
  | 2 => .array .int
  | 3 => .array .int
  | _ => .array .int
theorem n_MA : ∀ a, a < 5 → ∀ b, b < 5 → a ≠ b → (F_MA a).2.1 ≠ (F_MA b).2.1 := by decide +kernel
theorem t_MA_ok : ∀ k, k < 5 → parseFieldDescriptor (F_MA k).2.2.1 = some (t_MA k) := by decide +kernel
theorem i_MA : ∀ w ∈ u_ws R_MA F_MA 5, w ∈ lw_tbl := by decide +kernel
def R_PE : String := "BlownByAll$People"
def F_PE : u_T := fun k => match k with
  | 0 => ("BlownByAll$People", "count", "I", false)
  | 1 => ("BlownByAll$People", "late", "I", false)
  | 2 => ("BlownByAll$People", "room", "I", false)
  | 3 => ("BlownByAll$People", "lungs", "[I", true)
  | 4 => ("BlownByAll$People", "force", "[I", true)
  | 5 => ("BlownByAll$People", "place", "[I", true)
  | 6 => ("BlownByAll$People", "phase", "[I", true)
  | _ => ("BlownByAll$People", "bribed", "[Z", true)
def t_PE : Nat → FieldType := fun k => match k with
  | 0 => .int
  | 1 => .int
  | 2 => .int
  | 3 => .array .int
  | 4 => .array .int
  | 5 => .array .int
  | 6 => .array .int
  | _ => .array .boolean
theorem n_PE : ∀ a, a < 8 → ∀ b, b < 8 → a ≠ b → (F_PE a).2.1 ≠ (F_PE b).2.1 := by decide +kernel
theorem t_PE_ok : ∀ k, k < 8 → parseFieldDescriptor (F_PE k).2.2.1 = some (t_PE k) := by decide +kernel
theorem i_PE : ∀ w ∈ u_ws R_PE F_PE 8, w ∈ lw_tbl := by decide +kernel
def R_PH : String := "BlownByAll$PhasePlan"
def F_PH : u_T := fun k => match k with
  | 0 => ("BlownByAll$PhasePlan", "people", "LBlownByAll$People;", true)
  | 1 => ("BlownByAll$PhasePlan", "mass", "LBlownByAll$Mass;", true)
  | 2 => ("BlownByAll$PhasePlan", "sitters", "[I", true)
  | 3 => ("BlownByAll$PhasePlan", "tried", "[I", true)
  | 4 => ("BlownByAll$PhasePlan", "best", "[I", true)
  | 5 => ("BlownByAll$PhasePlan", "toCome", "[I", true)
  | 6 => ("BlownByAll$PhasePlan", "pipe", "I", false)
  | 7 => ("BlownByAll$PhasePlan", "sitting", "I", false)
  | _ => ("BlownByAll$PhasePlan", "least", "I", false)
def t_PH : Nat → FieldType := fun k => match k with
  | 0 => .object "BlownByAll$People"
  | 1 => .object "BlownByAll$Mass"
  | 2 => .array .int
  | 3 => .array .int
  | 4 => .array .int
  | 5 => .array .int
  | 6 => .int
  | 7 => .int
  | _ => .int
theorem n_PH : ∀ a, a < 9 → ∀ b, b < 9 → a ≠ b → (F_PH a).2.1 ≠ (F_PH b).2.1 := by decide +kernel
theorem t_PH_ok : ∀ k, k < 9 → parseFieldDescriptor (F_PH k).2.2.1 = some (t_PH k) := by decide +kernel
theorem i_PH : ∀ w ∈ u_ws R_PH F_PH 9, w ∈ lw_tbl := by decide +kernel
def R_PI : String := "BlownByAll$Pipes"
def F_PI : u_T := fun k => match k with
  | 0 => ("BlownByAll$Pipes", "count", "I", false)
  | 1 => ("BlownByAll$Pipes", "beats", "I", false)
  | 2 => ("BlownByAll$Pipes", "thirst", "[I", true)
  | _ => ("BlownByAll$Pipes", "sounding", "[I", true)
def t_PI : Nat → FieldType := fun k => match k with
  | 0 => .int
  | 1 => .int
  | 2 => .array .int
  | _ => .array .int
theorem n_PI : ∀ a, a < 4 → ∀ b, b < 4 → a ≠ b → (F_PI a).2.1 ≠ (F_PI b).2.1 := by decide +kernel
theorem t_PI_ok : ∀ k, k < 4 → parseFieldDescriptor (F_PI k).2.2.1 = some (t_PI k) := by decide +kernel
theorem i_PI : ∀ w ∈ u_ws R_PI F_PI 4, w ∈ lw_tbl := by decide +kernel
def R_SC : String := "BlownByAll$Script"
def F_SC : u_T := fun k => match k with
  | 0 => ("BlownByAll$Script", "signs", "[B", true)
  | 1 => ("BlownByAll$Script", "length", "I", false)
  | 2 => ("BlownByAll$Script", "at", "I", false)
  | 3 => ("BlownByAll$Script", "pipesRead", "I", false)
  | 4 => ("BlownByAll$Script", "peopleRead", "I", false)
  | _ => ("BlownByAll$Script", "beatsRead", "I", false)
def t_SC : Nat → FieldType := fun k => match k with
  | 0 => .array .byte
  | 1 => .int
  | 2 => .int
  | 3 => .int
  | 4 => .int
  | _ => .int
theorem n_SC : ∀ a, a < 6 → ∀ b, b < 6 → a ≠ b → (F_SC a).2.1 ≠ (F_SC b).2.1 := by decide +kernel
theorem t_SC_ok : ∀ k, k < 6 → parseFieldDescriptor (F_SC k).2.2.1 = some (t_SC k) := by decide +kernel
theorem i_SC : ∀ w ∈ u_ws R_SC F_SC 6, w ∈ lw_tbl := by decide +kernel
def R_SE : String := "BlownByAll$SeatPlan"
def F_SE : u_T := fun k => match k with
  | 0 => ("BlownByAll$SeatPlan", "pipes", "LBlownByAll$Pipes;", true)
  | 1 => ("BlownByAll$SeatPlan", "people", "LBlownByAll$People;", true)
  | 2 => ("BlownByAll$SeatPlan", "mass", "LBlownByAll$Mass;", true)
  | 3 => ("BlownByAll$SeatPlan", "price", "[I", true)
  | _ => ("BlownByAll$SeatPlan", "best", "[I", true)
def t_SE : Nat → FieldType := fun k => match k with
  | 0 => .object "BlownByAll$Pipes"
  | 1 => .object "BlownByAll$People"
  | 2 => .object "BlownByAll$Mass"
  | 3 => .array .int
  | _ => .array .int
theorem n_SE : ∀ a, a < 5 → ∀ b, b < 5 → a ≠ b → (F_SE a).2.1 ≠ (F_SE b).2.1 := by decide +kernel
theorem t_SE_ok : ∀ k, k < 5 → parseFieldDescriptor (F_SE k).2.2.1 = some (t_SE k) := by decide +kernel
theorem i_SE : ∀ w ∈ u_ws R_SE F_SE 5, w ∈ lw_tbl := by decide +kernel
def R_SN : String := "BlownByAll$Sneezes"
def F_SN : u_T := fun k => match k with
  | 0 => ("BlownByAll$Sneezes", "pipes", "LBlownByAll$Pipes;", true)
  | 1 => ("BlownByAll$Sneezes", "people", "LBlownByAll$People;", true)
  | 2 => ("BlownByAll$Sneezes", "cases", "[J", true)
  | 3 => ("BlownByAll$Sneezes", "all", "J", false)
  | 4 => ("BlownByAll$Sneezes", "above", "J", false)
  | _ => ("BlownByAll$Sneezes", "below", "J", false)
def t_SN : Nat → FieldType := fun k => match k with
  | 0 => .object "BlownByAll$Pipes"
  | 1 => .object "BlownByAll$People"
  | 2 => .array .long
  | 3 => .long
  | 4 => .long
  | _ => .long
theorem n_SN : ∀ a, a < 6 → ∀ b, b < 6 → a ≠ b → (F_SN a).2.1 ≠ (F_SN b).2.1 := by decide +kernel
theorem t_SN_ok : ∀ k, k < 6 → parseFieldDescriptor (F_SN k).2.2.1 = some (t_SN k) := by decide +kernel
theorem i_SN : ∀ w ∈ u_ws R_SN F_SN 6, w ∈ lw_tbl := by decide +kernel
def R_BB : String := "BlownByAll"
def F_BB : u_T := fun k => match k with
  | 0 => ("BlownByAll", "script", "LBlownByAll$Script;", true)
  | 1 => ("BlownByAll", "pipes", "LBlownByAll$Pipes;", true)
  | 2 => ("BlownByAll", "people", "LBlownByAll$People;", true)
  | 3 => ("BlownByAll", "mass", "LBlownByAll$Mass;", true)
  | 4 => ("BlownByAll", "phasePlan", "LBlownByAll$PhasePlan;", true)
  | 5 => ("BlownByAll", "seatPlan", "LBlownByAll$SeatPlan;", true)
  | 6 => ("BlownByAll", "bribePlan", "LBlownByAll$BribePlan;", true)
  | 7 => ("BlownByAll", "sneezes", "LBlownByAll$Sneezes;", true)
  | 8 => ("BlownByAll", "slots", "[LBlownByAll$People;", true)
  | _ => ("BlownByAll", "kept", "[Z", true)
def t_BB : Nat → FieldType := fun k => match k with
  | 0 => .object "BlownByAll$Script"
  | 1 => .object "BlownByAll$Pipes"
  | 2 => .object "BlownByAll$People"
  | 3 => .object "BlownByAll$Mass"
  | 4 => .object "BlownByAll$PhasePlan"
  | 5 => .object "BlownByAll$SeatPlan"
  | 6 => .object "BlownByAll$BribePlan"
  | 7 => .object "BlownByAll$Sneezes"
  | 8 => .array (.object "BlownByAll$People")
  | _ => .array .boolean
theorem n_BB : ∀ a, a < 10 → ∀ b, b < 10 → a ≠ b → (F_BB a).2.1 ≠ (F_BB b).2.1 := by decide +kernel
theorem t_BB_ok : ∀ k, k < 10 → parseFieldDescriptor (F_BB k).2.2.1 = some (t_BB k) := by decide +kernel
theorem i_BB : ∀ w ∈ u_ws R_BB F_BB 10, w ∈ lw_tbl := by decide +kernel
def R_MO : String := "BlownByAllModel"
def F_MO : u_T := fun k => match k with
  | 0 => ("BlownByAllModel", "readDrinks", "[I", true)
  | 1 => ("BlownByAllModel", "readPeople", "[I", true)
  | 2 => ("BlownByAllModel", "readBeats", "[I", true)
  | 3 => ("BlownByAllModel", "readPipes", "I", false)
  | 4 => ("BlownByAllModel", "readMany", "I", false)
  | 5 => ("BlownByAllModel", "readLong", "I", false)
  | 6 => ("BlownByAllModel", "drinks", "[I", true)
  | 7 => ("BlownByAllModel", "people", "[I", true)
  | 8 => ("BlownByAllModel", "beats", "[I", true)
  | 9 => ("BlownByAllModel", "pipes", "I", false)
  | 10 => ("BlownByAllModel", "many", "I", false)
  | 11 => ("BlownByAllModel", "beatMany", "I", false)
  | 12 => ("BlownByAllModel", "late", "I", false)
  | 13 => ("BlownByAllModel", "most", "I", false)
  | 14 => ("BlownByAllModel", "text", "[I", true)
  | 15 => ("BlownByAllModel", "length", "I", false)
  | 16 => ("BlownByAllModel", "at", "I", false)
  | 17 => ("BlownByAllModel", "faultAt", "I", false)
  | 18 => ("BlownByAllModel", "lacks", "[I", true)
  | 19 => ("BlownByAllModel", "stores", "[I", true)
  | 20 => ("BlownByAllModel", "wasPhase", "[I", true)
  | 21 => ("BlownByAllModel", "bestPhase", "[I", true)
  | 22 => ("BlownByAllModel", "lacking", "[I", true)
  | 23 => ("BlownByAllModel", "bestSeat", "[I", true)
  | 24 => ("BlownByAllModel", "sets", "[I", true)
  | 25 => ("BlownByAllModel", "wasBribed", "[I", true)
  | 26 => ("BlownByAllModel", "ways", "[J", true)
  | 27 => ("BlownByAllModel", "whole", "J", false)
  | 28 => ("BlownByAllModel", "isKept", "[Z", true)
  | 29 => ("BlownByAllModel", "keptPeople", "[I", true)
  | _ => ("BlownByAllModel", "keptRest", "[I", true)
def t_MO : Nat → FieldType := fun k => match k with
  | 0 => .array .int
  | 1 => .array .int
  | 2 => .array .int
  | 3 => .int
  | 4 => .int
  | 5 => .int
  | 6 => .array .int
  | 7 => .array .int
  | 8 => .array .int
  | 9 => .int
  | 10 => .int
  | 11 => .int
  | 12 => .int
  | 13 => .int
  | 14 => .array .int
  | 15 => .int
  | 16 => .int
  | 17 => .int
  | 18 => .array .int
  | 19 => .array .int
  | 20 => .array .int
  | 21 => .array .int
  | 22 => .array .int
  | 23 => .array .int
  | 24 => .array .int
  | 25 => .array .int
  | 26 => .array .long
  | 27 => .long
  | 28 => .array .boolean
  | 29 => .array .int
  | _ => .array .int
theorem n_MO : ∀ a, a < 31 → ∀ b, b < 31 → a ≠ b → (F_MO a).2.1 ≠ (F_MO b).2.1 := by decide +kernel
theorem t_MO_ok : ∀ k, k < 31 → parseFieldDescriptor (F_MO k).2.2.1 = some (t_MO k) := by decide +kernel
theorem i_MO : ∀ w ∈ u_ws R_MO F_MO 31, w ∈ lw_tbl := by decide +kernel
abbrev classes : List vw_C := [(R_BP, F_BP, 6), (R_MA, F_MA, 5), (R_PE, F_PE, 8), (R_PH, F_PH, 9), (R_PI, F_PI, 4), (R_SC, F_SC, 6), (R_SE, F_SE, 5), (R_SN, F_SN, 6), (R_BB, F_BB, 10), (R_MO, F_MO, 31)]
abbrev MD : Type := MethodName × ByteArray × Nat × Option FieldType
abbrev M_BP_init : MD := (⟨"BlownByAll$BribePlan", "<init>", "(LBlownByAll$Pipes;LBlownByAll$People;LBlownByAll$Mass;)V"⟩, prog_2_method_1_code, 4, none)
abbrev M_BP_find : MD := (⟨"BlownByAll$BribePlan", "find", "(I)I"⟩, prog_2_method_2_code, 2, some .int)
abbrev M_BP_decideFrom : MD := (⟨"BlownByAll$BribePlan", "decideFrom", "(LBlownByAll$BribePlan;II)V"⟩, prog_2_method_3_code, 7, none)
abbrev M_BP_nextToDecide : MD := (⟨"BlownByAll$BribePlan", "nextToDecide", "(I)I"⟩, prog_2_method_4_code, 3, some .int)
abbrev M_MA_init : MD := (⟨"BlownByAll$Mass", "<init>", "(LBlownByAll$Pipes;LBlownByAll$People;)V"⟩, prog_3_method_1_code, 3, none)
abbrev M_MA_gather : MD := (⟨"BlownByAll$Mass", "gather", "(II)V"⟩, prog_3_method_2_code, 5, none)
abbrev M_MA_fill : MD := (⟨"BlownByAll$Mass", "fill", "(I)V"⟩, prog_3_method_3_code, 3, none)
abbrev M_MA_addAtBreaths : MD := (⟨"BlownByAll$Mass", "addAtBreaths", "(III)V"⟩, prog_3_method_4_code, 7, none)
abbrev M_MA_blow : MD := (⟨"BlownByAll$Mass", "blow", "(I)I"⟩, prog_3_method_5_code, 6, some .int)
abbrev M_MA_play : MD := (⟨"BlownByAll$Mass", "play", "(II)I"⟩, prog_3_method_6_code, 3, some .int)
abbrev M_MA_playAll : MD := (⟨"BlownByAll$Mass", "playAll", "(I)I"⟩, prog_3_method_7_code, 4, some .int)
abbrev M_MA_firstMissing : MD := (⟨"BlownByAll$Mass", "firstMissing", "()I"⟩, prog_3_method_8_code, 2, some .int)
abbrev M_PE_init : MD := (⟨"BlownByAll$People", "<init>", "()V"⟩, prog_4_method_1_code, 1, none)
abbrev M_PE_takeFrom : MD := (⟨"BlownByAll$People", "takeFrom", "(LBlownByAll$Script;)V"⟩, prog_4_method_2_code, 3, none)
abbrev M_PE_copyFrom : MD := (⟨"BlownByAll$People", "copyFrom", "(LBlownByAll$People;)V"⟩, prog_4_method_3_code, 3, none)
abbrev M_PE_has : MD := (⟨"BlownByAll$People", "has", "(I)Z"⟩, prog_4_method_4_code, 2, some .boolean)
abbrev M_PE_givenAt : MD := (⟨"BlownByAll$People", "givenAt", "(II)I"⟩, prog_4_method_5_code, 4, some .int)
abbrev M_PE_sittingAt : MD := (⟨"BlownByAll$People", "sittingAt", "(I)I"⟩, prog_4_method_6_code, 4, some .int)
abbrev M_PE_forceOf : MD := (⟨"BlownByAll$People", "forceOf", "(I)I"⟩, prog_4_method_7_code, 4, some .int)
abbrev M_PE_bribedOnes : MD := (⟨"BlownByAll$People", "bribedOnes", "()I"⟩, prog_4_method_8_code, 3, some .int)
abbrev M_PH_init : MD := (⟨"BlownByAll$PhasePlan", "<init>", "(LBlownByAll$People;LBlownByAll$Mass;)V"⟩, prog_5_method_1_code, 3, none)
abbrev M_PH_find : MD := (⟨"BlownByAll$PhasePlan", "find", "(I)Z"⟩, prog_5_method_2_code, 3, some .boolean)
abbrev M_PH_list : MD := (⟨"BlownByAll$PhasePlan", "list", "(I)V"⟩, prog_5_method_3_code, 3, none)
abbrev M_PH_foresee : MD := (⟨"BlownByAll$PhasePlan", "foresee", "()V"⟩, prog_5_method_4_code, 3, none)
abbrev M_PH_leastAlone : MD := (⟨"BlownByAll$PhasePlan", "leastAlone", "(I)I"⟩, prog_5_method_5_code, 4, some .int)
abbrev M_PH_lastPhase : MD := (⟨"BlownByAll$PhasePlan", "lastPhase", "(I)I"⟩, prog_5_method_6_code, 2, some .int)
abbrev M_PH_breath : MD := (⟨"BlownByAll$PhasePlan", "breath", "(I)I"⟩, prog_5_method_7_code, 2, some .int)
abbrev M_PH_tryFrom : MD := (⟨"BlownByAll$PhasePlan", "tryFrom", "(LBlownByAll$PhasePlan;I)V"⟩, prog_5_method_8_code, 5, none)
abbrev M_PH_settle : MD := (⟨"BlownByAll$PhasePlan", "settle", "(I)V"⟩, prog_5_method_9_code, 3, none)
abbrev M_PH_phaseOf : MD := (⟨"BlownByAll$PhasePlan", "phaseOf", "(I)I"⟩, prog_5_method_10_code, 2, some .int)
abbrev M_PI_init : MD := (⟨"BlownByAll$Pipes", "<init>", "()V"⟩, prog_6_method_1_code, 1, none)
abbrev M_PI_takeFrom : MD := (⟨"BlownByAll$Pipes", "takeFrom", "(LBlownByAll$Script;)V"⟩, prog_6_method_2_code, 3, none)
abbrev M_PI_has : MD := (⟨"BlownByAll$Pipes", "has", "(I)Z"⟩, prog_6_method_3_code, 2, some .boolean)
abbrev M_PI_hasBeat : MD := (⟨"BlownByAll$Pipes", "hasBeat", "(I)Z"⟩, prog_6_method_4_code, 2, some .boolean)
abbrev M_PI_hasBoth : MD := (⟨"BlownByAll$Pipes", "hasBoth", "(II)Z"⟩, prog_6_method_5_code, 3, some .boolean)
abbrev M_PI_isSounding : MD := (⟨"BlownByAll$Pipes", "isSounding", "(II)Z"⟩, prog_6_method_6_code, 3, some .boolean)
abbrev M_SC_init : MD := (⟨"BlownByAll$Script", "<init>", "()V"⟩, prog_7_method_1_code, 1, none)
abbrev M_SC_hasRoom : MD := (⟨"BlownByAll$Script", "hasRoom", "(I)Z"⟩, prog_7_method_2_code, 2, some .boolean)
abbrev M_SC_append : MD := (⟨"BlownByAll$Script", "append", "(IJ)I"⟩, prog_7_method_3_code, 5, some .int)
abbrev M_SC_clear : MD := (⟨"BlownByAll$Script", "clear", "()I"⟩, prog_7_method_4_code, 2, some .int)
abbrev M_SC_read : MD := (⟨"BlownByAll$Script", "read", "()I"⟩, prog_7_method_5_code, 2, some .int)
abbrev M_SC_signAt : MD := (⟨"BlownByAll$Script", "signAt", "(I)I"⟩, prog_7_method_6_code, 2, some .int)
abbrev M_SC_figureAt : MD := (⟨"BlownByAll$Script", "figureAt", "(I)I"⟩, prog_7_method_7_code, 2, some .int)
abbrev M_SC_takeSign : MD := (⟨"BlownByAll$Script", "takeSign", "(C)Z"⟩, prog_7_method_8_code, 2, some .boolean)
abbrev M_SC_takeFigure : MD := (⟨"BlownByAll$Script", "takeFigure", "(II)Z"⟩, prog_7_method_9_code, 4, some .boolean)
abbrev M_SC_takePipes : MD := (⟨"BlownByAll$Script", "takePipes", "()Z"⟩, prog_7_method_10_code, 2, some .boolean)
abbrev M_SC_takePeople : MD := (⟨"BlownByAll$Script", "takePeople", "()Z"⟩, prog_7_method_11_code, 2, some .boolean)
abbrev M_SC_takeHymn : MD := (⟨"BlownByAll$Script", "takeHymn", "()Z"⟩, prog_7_method_12_code, 4, some .boolean)
abbrev M_SC_thirstRead : MD := (⟨"BlownByAll$Script", "thirstRead", "(I)I"⟩, prog_7_method_13_code, 2, some .int)
abbrev M_SC_personRead : MD := (⟨"BlownByAll$Script", "personRead", "(II)I"⟩, prog_7_method_14_code, 3, some .int)
abbrev M_SC_beatRead : MD := (⟨"BlownByAll$Script", "beatRead", "(I)I"⟩, prog_7_method_15_code, 3, some .int)
abbrev M_SE_init : MD := (⟨"BlownByAll$SeatPlan", "<init>", "(LBlownByAll$Pipes;LBlownByAll$People;LBlownByAll$Mass;)V"⟩, prog_8_method_1_code, 4, none)
abbrev M_SE_find : MD := (⟨"BlownByAll$SeatPlan", "find", "()Z"⟩, prog_8_method_2_code, 4, some .boolean)
abbrev M_SE_setPrices : MD := (⟨"BlownByAll$SeatPlan", "setPrices", "(I)V"⟩, prog_8_method_3_code, 4, none)
abbrev M_SE_seatsOf : MD := (⟨"BlownByAll$SeatPlan", "seatsOf", "(I)I"⟩, prog_8_method_4_code, 3, some .int)
abbrev M_SE_bestWith : MD := (⟨"BlownByAll$SeatPlan", "bestWith", "(II)I"⟩, prog_8_method_5_code, 5, some .int)
abbrev M_SE_plan : MD := (⟨"BlownByAll$SeatPlan", "plan", "()I"⟩, prog_8_method_6_code, 1, some .int)
abbrev M_SE_least : MD := (⟨"BlownByAll$SeatPlan", "least", "()I"⟩, prog_8_method_7_code, 1, some .int)
abbrev M_SE_placeOf : MD := (⟨"BlownByAll$SeatPlan", "placeOf", "(I)I"⟩, prog_8_method_8_code, 2, some .int)
abbrev M_SN_init : MD := (⟨"BlownByAll$Sneezes", "<init>", "(LBlownByAll$Pipes;LBlownByAll$People;)V"⟩, prog_9_method_1_code, 3, none)
abbrev M_SN_weighEnough : MD := (⟨"BlownByAll$Sneezes", "weighEnough", "(III)V"⟩, prog_9_method_2_code, 4, none)
abbrev M_SN_weighGuilt : MD := (⟨"BlownByAll$Sneezes", "weighGuilt", "(III)Z"⟩, prog_9_method_3_code, 11, some .boolean)
abbrev M_SN_spread : MD := (⟨"BlownByAll$Sneezes", "spread", "(III)V"⟩, prog_9_method_4_code, 6, none)
abbrev M_SN_admit : MD := (⟨"BlownByAll$Sneezes", "admit", "(II)V"⟩, prog_9_method_5_code, 6, none)
abbrev M_SN_casesUnder : MD := (⟨"BlownByAll$Sneezes", "casesUnder", "(I)J"⟩, prog_9_method_6_code, 5, some .long)
abbrev M_SN_reduce : MD := (⟨"BlownByAll$Sneezes", "reduce", "(JJ)V"⟩, prog_9_method_7_code, 12, none)
abbrev M_BB_init : MD := (⟨"BlownByAll", "<init>", "()V"⟩, prog_1_method_1_code, 2, none)
abbrev M_BB_write : MD := (⟨"BlownByAll", "write", "(IJ)I"⟩, prog_1_method_2_code, 4, some .int)
abbrev M_BB_wipe : MD := (⟨"BlownByAll", "wipe", "()I"⟩, prog_1_method_3_code, 1, some .int)
abbrev M_BB_fault : MD := (⟨"BlownByAll", "fault", "()I"⟩, prog_1_method_4_code, 1, some .int)
abbrev M_BB_organ : MD := (⟨"BlownByAll", "organ", "()I"⟩, prog_1_method_5_code, 2, some .int)
abbrev M_BB_drinks : MD := (⟨"BlownByAll", "drinks", "(I)I"⟩, prog_1_method_6_code, 2, some .int)
abbrev M_BB_sounds : MD := (⟨"BlownByAll", "sounds", "(II)I"⟩, prog_1_method_7_code, 3, some .int)
abbrev M_BB_person : MD := (⟨"BlownByAll", "person", "(II)I"⟩, prog_1_method_8_code, 3, some .int)
abbrev M_BB_seat : MD := (⟨"BlownByAll", "seat", "(II)I"⟩, prog_1_method_9_code, 4, some .int)
abbrev M_BB_phase : MD := (⟨"BlownByAll", "phase", "(II)I"⟩, prog_1_method_10_code, 4, some .int)
abbrev M_BB_bribe : MD := (⟨"BlownByAll", "bribe", "(IZ)I"⟩, prog_1_method_11_code, 4, some .int)
abbrev M_BB_grow : MD := (⟨"BlownByAll", "grow", "(I)I"⟩, prog_1_method_12_code, 2, some .int)
abbrev M_BB_store : MD := (⟨"BlownByAll", "store", "(I)I"⟩, prog_1_method_13_code, 3, some .int)
abbrev M_BB_late : MD := (⟨"BlownByAll", "late", "(I)I"⟩, prog_1_method_14_code, 3, some .int)
abbrev M_BB_gives : MD := (⟨"BlownByAll", "gives", "(II)I"⟩, prog_1_method_15_code, 3, some .int)
abbrev M_BB_air : MD := (⟨"BlownByAll", "air", "(II)I"⟩, prog_1_method_16_code, 3, some .int)
abbrev M_BB_stored : MD := (⟨"BlownByAll", "stored", "(II)I"⟩, prog_1_method_17_code, 3, some .int)
abbrev M_BB_sags : MD := (⟨"BlownByAll", "sags", "(II)I"⟩, prog_1_method_18_code, 3, some .int)
abbrev M_BB_total : MD := (⟨"BlownByAll", "total", "()I"⟩, prog_1_method_19_code, 1, some .int)
abbrev M_BB_first : MD := (⟨"BlownByAll", "first", "()I"⟩, prog_1_method_20_code, 4, some .int)
abbrev M_BB_worst : MD := (⟨"BlownByAll", "worst", "()I"⟩, prog_1_method_21_code, 5, some .int)
abbrev M_BB_bestLate : MD := (⟨"BlownByAll", "bestLate", "()I"⟩, prog_1_method_22_code, 5, some .int)
abbrev M_BB_phases : MD := (⟨"BlownByAll", "phases", "(I)I"⟩, prog_1_method_23_code, 2, some .int)
abbrev M_BB_phaseAt : MD := (⟨"BlownByAll", "phaseAt", "(II)I"⟩, prog_1_method_24_code, 3, some .int)
abbrev M_BB_seats : MD := (⟨"BlownByAll", "seats", "()I"⟩, prog_1_method_25_code, 1, some .int)
abbrev M_BB_seatAt : MD := (⟨"BlownByAll", "seatAt", "(I)I"⟩, prog_1_method_26_code, 2, some .int)
abbrev M_BB_bribes : MD := (⟨"BlownByAll", "bribes", "()I"⟩, prog_1_method_27_code, 4, some .int)
abbrev M_BB_needed : MD := (⟨"BlownByAll", "needed", "(I)I"⟩, prog_1_method_28_code, 4, some .int)
abbrev M_BB_never : MD := (⟨"BlownByAll", "never", "()I"⟩, prog_1_method_29_code, 4, some .int)
abbrev M_BB_steady : MD := (⟨"BlownByAll", "steady", "(IIIZ)J"⟩, prog_1_method_30_code, 5, some .long)
abbrev M_BB_blame : MD := (⟨"BlownByAll", "blame", "(IIIZ)J"⟩, prog_1_method_31_code, 5, some .long)
abbrev M_BB_keep : MD := (⟨"BlownByAll", "keep", "(I)I"⟩, prog_1_method_32_code, 2, some .int)
abbrev M_BB_again : MD := (⟨"BlownByAll", "again", "(I)I"⟩, prog_1_method_33_code, 2, some .int)
abbrev M_BB_count : MD := (⟨"BlownByAll", "count", "(I)I"⟩, prog_1_method_34_code, 2, some .int)
abbrev M_MO_init : MD := (⟨"BlownByAllModel", "<init>", "()V"⟩, prog_11_method_1_code, 1, none)
abbrev M_MO_in : MD := (⟨"BlownByAllModel", "in", "(JJJ)Z"⟩, prog_11_method_3_code, 6, some .boolean)
abbrev M_MO_write : MD := (⟨"BlownByAllModel", "write", "(IJ)I"⟩, prog_11_method_4_code, 5, some .int)
abbrev M_MO_wipe : MD := (⟨"BlownByAllModel", "wipe", "()I"⟩, prog_11_method_5_code, 2, some .int)
abbrev M_MO_here : MD := (⟨"BlownByAllModel", "here", "()I"⟩, prog_11_method_6_code, 1, some .int)
abbrev M_MO_fail : MD := (⟨"BlownByAllModel", "fail", "()V"⟩, prog_11_method_7_code, 1, none)
abbrev M_MO_figure : MD := (⟨"BlownByAllModel", "figure", "(II)I"⟩, prog_11_method_8_code, 4, some .int)
abbrev M_MO_bits : MD := (⟨"BlownByAllModel", "bits", "(I)I"⟩, prog_11_method_9_code, 3, some .int)
abbrev M_MO_readText : MD := (⟨"BlownByAllModel", "readText", "()I"⟩, prog_11_method_10_code, 3, some .int)
abbrev M_MO_fault : MD := (⟨"BlownByAllModel", "fault", "()I"⟩, prog_11_method_11_code, 1, some .int)
abbrev M_MO_organ : MD := (⟨"BlownByAllModel", "organ", "()I"⟩, prog_11_method_12_code, 2, some .int)
abbrev M_MO_isPipe : MD := (⟨"BlownByAllModel", "isPipe", "(I)Z"⟩, prog_11_method_13_code, 2, some .boolean)
abbrev M_MO_isPerson : MD := (⟨"BlownByAllModel", "isPerson", "(I)Z"⟩, prog_11_method_14_code, 2, some .boolean)
abbrev M_MO_isBeat : MD := (⟨"BlownByAllModel", "isBeat", "(I)Z"⟩, prog_11_method_15_code, 2, some .boolean)
abbrev M_MO_drinks : MD := (⟨"BlownByAllModel", "drinks", "(I)I"⟩, prog_11_method_16_code, 2, some .int)
abbrev M_MO_sounds : MD := (⟨"BlownByAllModel", "sounds", "(II)I"⟩, prog_11_method_17_code, 3, some .int)
abbrev M_MO_person : MD := (⟨"BlownByAllModel", "person", "(II)I"⟩, prog_11_method_18_code, 3, some .int)
abbrev M_MO_tell : MD := (⟨"BlownByAllModel", "tell", "(II)I"⟩, prog_11_method_19_code, 4, some .int)
abbrev M_MO_seat : MD := (⟨"BlownByAllModel", "seat", "(II)I"⟩, prog_11_method_20_code, 3, some .int)
abbrev M_MO_phase : MD := (⟨"BlownByAllModel", "phase", "(II)I"⟩, prog_11_method_21_code, 3, some .int)
abbrev M_MO_bribe : MD := (⟨"BlownByAllModel", "bribe", "(IZ)I"⟩, prog_11_method_22_code, 3, some .int)
abbrev M_MO_grow : MD := (⟨"BlownByAllModel", "grow", "(I)I"⟩, prog_11_method_23_code, 2, some .int)
abbrev M_MO_store : MD := (⟨"BlownByAllModel", "store", "(I)I"⟩, prog_11_method_24_code, 3, some .int)
abbrev M_MO_late : MD := (⟨"BlownByAllModel", "late", "(I)I"⟩, prog_11_method_25_code, 3, some .int)
abbrev M_MO_givesOf : MD := (⟨"BlownByAllModel", "givesOf", "(II)I"⟩, prog_11_method_26_code, 6, some .int)
abbrev M_MO_gives : MD := (⟨"BlownByAllModel", "gives", "(II)I"⟩, prog_11_method_27_code, 3, some .int)
abbrev M_MO_airOf : MD := (⟨"BlownByAllModel", "airOf", "(II)I"⟩, prog_11_method_28_code, 5, some .int)
abbrev M_MO_sitters : MD := (⟨"BlownByAllModel", "sitters", "(I)I"⟩, prog_11_method_29_code, 4, some .int)
abbrev M_MO_blow : MD := (⟨"BlownByAllModel", "blow", "(II)I"⟩, prog_11_method_30_code, 9, some .int)
abbrev M_MO_air : MD := (⟨"BlownByAllModel", "air", "(II)I"⟩, prog_11_method_31_code, 3, some .int)
abbrev M_MO_stored : MD := (⟨"BlownByAllModel", "stored", "(II)I"⟩, prog_11_method_32_code, 3, some .int)
abbrev M_MO_sags : MD := (⟨"BlownByAllModel", "sags", "(II)I"⟩, prog_11_method_33_code, 3, some .int)
abbrev M_MO_totalOf : MD := (⟨"BlownByAllModel", "totalOf", "()I"⟩, prog_11_method_34_code, 3, some .int)
abbrev M_MO_total : MD := (⟨"BlownByAllModel", "total", "()I"⟩, prog_11_method_35_code, 1, some .int)
abbrev M_MO_first : MD := (⟨"BlownByAllModel", "first", "()I"⟩, prog_11_method_36_code, 4, some .int)
abbrev M_MO_worst : MD := (⟨"BlownByAllModel", "worst", "()I"⟩, prog_11_method_37_code, 5, some .int)
abbrev M_MO_bestLate : MD := (⟨"BlownByAllModel", "bestLate", "()I"⟩, prog_11_method_38_code, 6, some .int)
abbrev M_MO_ones : MD := (⟨"BlownByAllModel", "ones", "(I)I"⟩, prog_11_method_39_code, 3, some .int)
abbrev M_MO_member : MD := (⟨"BlownByAllModel", "member", "(II)I"⟩, prog_11_method_40_code, 4, some .int)
abbrev M_MO_layPhases : MD := (⟨"BlownByAllModel", "layPhases", "(I)I"⟩, prog_11_method_41_code, 10, some .int)
abbrev M_MO_phases : MD := (⟨"BlownByAllModel", "phases", "(I)I"⟩, prog_11_method_42_code, 2, some .int)
abbrev M_MO_phaseAt : MD := (⟨"BlownByAllModel", "phaseAt", "(II)I"⟩, prog_11_method_43_code, 4, some .int)
abbrev M_MO_laySeats : MD := (⟨"BlownByAllModel", "laySeats", "()I"⟩, prog_11_method_44_code, 8, some .int)
abbrev M_MO_seats : MD := (⟨"BlownByAllModel", "seats", "()I"⟩, prog_11_method_45_code, 1, some .int)
abbrev M_MO_seatAt : MD := (⟨"BlownByAllModel", "seatAt", "(I)I"⟩, prog_11_method_46_code, 2, some .int)
abbrev M_MO_isSteady : MD := (⟨"BlownByAllModel", "isSteady", "(I)Z"⟩, prog_11_method_47_code, 3, some .boolean)
abbrev M_MO_bribes : MD := (⟨"BlownByAllModel", "bribes", "()I"⟩, prog_11_method_48_code, 5, some .int)
abbrev M_MO_needed : MD := (⟨"BlownByAllModel", "needed", "(I)I"⟩, prog_11_method_49_code, 4, some .int)
abbrev M_MO_never : MD := (⟨"BlownByAllModel", "never", "()I"⟩, prog_11_method_50_code, 5, some .int)
abbrev M_MO_layWays : MD := (⟨"BlownByAllModel", "layWays", "(III)V"⟩, prog_11_method_51_code, 7, none)
abbrev M_MO_less : MD := (⟨"BlownByAllModel", "less", "(I)J"⟩, prog_11_method_52_code, 5, some .long)
abbrev M_MO_part : MD := (⟨"BlownByAllModel", "part", "(JJZ)J"⟩, prog_11_method_53_code, 11, some .long)
abbrev M_MO_steady : MD := (⟨"BlownByAllModel", "steady", "(IIIZ)J"⟩, prog_11_method_54_code, 5, some .long)
abbrev M_MO_blame : MD := (⟨"BlownByAllModel", "blame", "(IIIZ)J"⟩, prog_11_method_55_code, 8, some .long)
abbrev M_MO_keep : MD := (⟨"BlownByAllModel", "keep", "(I)I"⟩, prog_11_method_56_code, 3, some .int)
abbrev M_MO_again : MD := (⟨"BlownByAllModel", "again", "(I)I"⟩, prog_11_method_57_code, 3, some .int)
abbrev M_MO_count : MD := (⟨"BlownByAllModel", "count", "(I)I"⟩, prog_11_method_58_code, 4, some .int)
abbrev M_IG_bitCount : MD := (⟨"java/lang/Integer", "bitCount", "(I)I"⟩, prog_12_method_49_code, 1, some .int)
abbrev M_MT_floorMod : MD := (⟨"java/lang/Math", "floorMod", "(II)I"⟩, prog_13_method_50_code, 3, some .int)
abbrev M_MT_max : MD := (⟨"java/lang/Math", "max", "(II)I"⟩, prog_13_method_65_code, 2, some .int)
abbrev M_MT_min : MD := (⟨"java/lang/Math", "min", "(II)I"⟩, prog_13_method_69_code, 2, some .int)
abbrev M_LW_law : MD := (⟨"BlownByAllLaw", "law", "([I)Z"⟩, code, 4, some .boolean)
/-- what a cell is: an array (type, length), or an object (class, its fields: an int, a long, a cell) -/
abbrev Sh : Type := (Nat × Nat) ⊕ (Nat × List (Option (Option Nat)))
def shapes : List Sh := [
  .inr (8, [some (some 1), some (some 3), some (some 6), some (some 24), some (some 28), some (some 33), some (some 36), some (some 37), some (some 39), some (some 40)]),
  .inr (5, [some (some 2), none, none, none, none, none]),
  .inl (1, 104),
  .inr (4, [none, none, some (some 4), some (some 5)]),
  .inl (0, 6),
  .inl (0, 24),
  .inr (2, [none, none, none, some (some 7), some (some 8), some (some 9), some (some 10), some (some 11)]),
  .inl (0, 12),
  .inl (0, 12),
  .inl (0, 12),
  .inl (0, 12),
  .inl (2, 12),
  .inr (2, [none, none, none, some (some 13), some (some 14), some (some 15), some (some 16), some (some 17)]),
  .inl (0, 12),
  .inl (0, 12),
  .inl (0, 12),
  .inl (0, 12),
  .inl (2, 12),
  .inr (2, [none, none, none, some (some 19), some (some 20), some (some 21), some (some 22), some (some 23)]),
  .inl (0, 12),
  .inl (0, 12),
  .inl (0, 12),
  .inl (0, 12),
  .inl (2, 12),
  .inr (1, [some (some 3), some (some 6), some (some 25), some (some 26), some (some 27)]),
  .inl (0, 24),
  .inl (0, 24),
  .inl (0, 24),
  .inr (3, [some (some 6), some (some 24), some (some 29), some (some 30), some (some 31), some (some 32), none, none, none]),
  .inl (0, 4),
  .inl (0, 4),
  .inl (0, 4),
  .inl (0, 5),
  .inr (6, [some (some 3), some (some 6), some (some 24), some (some 34), some (some 35)]),
  .inl (0, 384),
  .inl (0, 64),
  .inr (0, [some (some 3), some (some 6), some (some 24), none, none, none]),
  .inr (7, [some (some 3), some (some 6), some (some 38), some none, some none, some none]),
  .inl (3, 37),
  .inl (4, 2),
  .inl (2, 2),
  .inr (9, [some (some 42), some (some 43), some (some 44), none, none, none, some (some 45), some (some 46), some (some 47), none, none, none, none, none, some (some 48), none, none, none, some (some 49), some (some 50), some (some 51), some (some 52), some (some 53), some (some 54), some (some 55), some (some 56), some (some 57), some none, some (some 58), some (some 59), some (some 60)]),
  .inl (0, 6),
  .inl (0, 60),
  .inl (0, 24),
  .inl (0, 6),
  .inl (0, 60),
  .inl (0, 24),
  .inl (0, 104),
  .inl (0, 24),
  .inl (0, 24),
  .inl (0, 12),
  .inl (0, 12),
  .inl (0, 384),
  .inl (0, 6),
  .inl (0, 6),
  .inl (0, 12),
  .inl (3, 40),
  .inl (2, 2),
  .inl (0, 120),
  .inl (0, 4)]
abbrev c_BB : Nat := 0
abbrev c_SC : Nat := 1
abbrev c_signs : Nat := 2
abbrev c_PI : Nat := 3
abbrev c_thirst : Nat := 4
abbrev c_sounding : Nat := 5
abbrev c_PE : Nat := 6
abbrev c_lungs : Nat := 7
abbrev c_force : Nat := 8
abbrev c_place : Nat := 9
abbrev c_phase : Nat := 10
abbrev c_bribed : Nat := 11
abbrev c_P0 : Nat := 12
abbrev c_lungs0 : Nat := 13
abbrev c_force0 : Nat := 14
abbrev c_place0 : Nat := 15
abbrev c_phase0 : Nat := 16
abbrev c_bribed0 : Nat := 17
abbrev c_P1 : Nat := 18
abbrev c_lungs1 : Nat := 19
abbrev c_force1 : Nat := 20
abbrev c_place1 : Nat := 21
abbrev c_phase1 : Nat := 22
abbrev c_bribed1 : Nat := 23
abbrev c_MA : Nat := 24
abbrev c_wind : Nat := 25
abbrev c_held : Nat := 26
abbrev c_missing : Nat := 27
abbrev c_PH : Nat := 28
abbrev c_sitters : Nat := 29
abbrev c_tried : Nat := 30
abbrev c_phBest : Nat := 31
abbrev c_toCome : Nat := 32
abbrev c_SE : Nat := 33
abbrev c_price : Nat := 34
abbrev c_seBest : Nat := 35
abbrev c_BP : Nat := 36
abbrev c_SN : Nat := 37
abbrev c_cases : Nat := 38
abbrev c_slots : Nat := 39
abbrev c_kept : Nat := 40
abbrev c_MO : Nat := 41
abbrev c_m_readDrinks : Nat := 42
abbrev c_m_readPeople : Nat := 43
abbrev c_m_readBeats : Nat := 44
abbrev c_m_drinks : Nat := 45
abbrev c_m_people : Nat := 46
abbrev c_m_beats : Nat := 47
abbrev c_m_text : Nat := 48
abbrev c_m_lacks : Nat := 49
abbrev c_m_stores : Nat := 50
abbrev c_m_wasPhase : Nat := 51
abbrev c_m_bestPhase : Nat := 52
abbrev c_m_lacking : Nat := 53
abbrev c_m_bestSeat : Nat := 54
abbrev c_m_sets : Nat := 55
abbrev c_m_wasBribed : Nat := 56
abbrev c_m_ways : Nat := 57
abbrev c_m_isKept : Nat := 58
abbrev c_m_keptPeople : Nat := 59
abbrev c_m_keptRest : Nat := 60
end
section
/-! decode rows -/
theorem d_BP_init_0 : decode prog_2_method_1_code 0 = .ok (.aload_n 0, 1) := by decide +kernel
theorem d_BP_init_1 : decode prog_2_method_1_code 1 = .ok (.invokespecial 3, 3) := by decide +kernel
theorem d_BP_init_4 : decode prog_2_method_1_code 4 = .ok (.aload_n 0, 1) := by decide +kernel
theorem d_BP_init_5 : decode prog_2_method_1_code 5 = .ok (.aload_n 1, 1) := by decide +kernel
theorem d_BP_init_6 : decode prog_2_method_1_code 6 = .ok (.putfield 9, 3) := by decide +kernel
theorem d_BP_init_9 : decode prog_2_method_1_code 9 = .ok (.aload_n 0, 1) := by decide +kernel
theorem d_BP_init_10 : decode prog_2_method_1_code 10 = .ok (.aload_n 2, 1) := by decide +kernel
theorem d_BP_init_11 : decode prog_2_method_1_code 11 = .ok (.putfield 15, 3) := by decide +kernel
theorem d_BP_init_14 : decode prog_2_method_1_code 14 = .ok (.aload_n 0, 1) := by decide +kernel
theorem d_BP_init_15 : decode prog_2_method_1_code 15 = .ok (.aload_n 3, 1) := by decide +kernel
theorem d_BP_init_16 : decode prog_2_method_1_code 16 = .ok (.putfield 19, 3) := by decide +kernel
theorem d_BP_init_19 : decode prog_2_method_1_code 19 = .ok (.return_, 1) := by decide +kernel
theorem d_BP_find_0 : decode prog_2_method_2_code 0 = .ok (.aload_n 0, 1) := by decide +kernel
theorem d_BP_find_1 : decode prog_2_method_2_code 1 = .ok (.getfield 9, 3) := by decide +kernel
theorem d_BP_find_4 : decode prog_2_method_2_code 4 = .ok (.iload_n 1, 1) := by decide +kernel
theorem d_BP_find_5 : decode prog_2_method_2_code 5 = .ok (.invokevirtual 23, 3) := by decide +kernel
theorem d_BP_find_8 : decode prog_2_method_2_code 8 = .ok (.ifCond .ne 6, 3) := by decide +kernel
theorem d_BP_find_11 : decode prog_2_method_2_code 11 = .ok (.bipush (-9), 2) := by decide +kernel
theorem d_BP_find_13 : decode prog_2_method_2_code 13 = .ok (.ireturn, 1) := by decide +kernel
theorem d_BP_find_14 : decode prog_2_method_2_code 14 = .ok (.aload_n 0, 1) := by decide +kernel
theorem d_BP_find_15 : decode prog_2_method_2_code 15 = .ok (.iload_n 1, 1) := by decide +kernel
theorem d_BP_find_16 : decode prog_2_method_2_code 16 = .ok (.putfield 29, 3) := by decide +kernel
theorem d_BP_find_19 : decode prog_2_method_2_code 19 = .ok (.aload_n 0, 1) := by decide +kernel
theorem d_BP_find_20 : decode prog_2_method_2_code 20 = .ok (.bipush 13, 2) := by decide +kernel
theorem d_BP_find_22 : decode prog_2_method_2_code 22 = .ok (.putfield 33, 3) := by decide +kernel
theorem d_BP_find_25 : decode prog_2_method_2_code 25 = .ok (.aload_n 0, 1) := by decide +kernel
theorem d_BP_find_26 : decode prog_2_method_2_code 26 = .ok (.bipush (-9), 2) := by decide +kernel
theorem d_BP_find_28 : decode prog_2_method_2_code 28 = .ok (.putfield 36, 3) := by decide +kernel
theorem d_BP_find_31 : decode prog_2_method_2_code 31 = .ok (.aload_n 0, 1) := by decide +kernel
theorem d_BP_find_32 : decode prog_2_method_2_code 32 = .ok (.getfield 19, 3) := by decide +kernel
theorem d_BP_find_35 : decode prog_2_method_2_code 35 = .ok (.aload_n 0, 1) := by decide +kernel
theorem d_BP_find_36 : decode prog_2_method_2_code 36 = .ok (.getfield 15, 3) := by decide +kernel
theorem d_BP_find_39 : decode prog_2_method_2_code 39 = .ok (.aload_n 0, 1) := by decide +kernel
theorem d_BP_find_40 : decode prog_2_method_2_code 40 = .ok (.getfield 15, 3) := by decide +kernel
theorem d_BP_find_43 : decode prog_2_method_2_code 43 = .ok (.aload_n 0, 1) := by decide +kernel
theorem d_BP_find_44 : decode prog_2_method_2_code 44 = .ok (.getfield 29, 3) := by decide +kernel
theorem d_BP_find_47 : decode prog_2_method_2_code 47 = .ok (.invokevirtual 39, 3) := by decide +kernel
theorem d_BP_find_50 : decode prog_2_method_2_code 50 = .ok (.invokevirtual 45, 3) := by decide +kernel
theorem d_BP_find_53 : decode prog_2_method_2_code 53 = .ok (.invokevirtual 48, 3) := by decide +kernel
theorem d_BP_find_56 : decode prog_2_method_2_code 56 = .ok (.aload_n 0, 1) := by decide +kernel
theorem d_BP_find_57 : decode prog_2_method_2_code 57 = .ok (.aload_n 0, 1) := by decide +kernel
theorem d_BP_find_58 : decode prog_2_method_2_code 58 = .ok (.getfield 15, 3) := by decide +kernel
theorem d_BP_find_61 : decode prog_2_method_2_code 61 = .ok (.getfield 54, 3) := by decide +kernel
theorem d_BP_find_64 : decode prog_2_method_2_code 64 = .ok (.iconst 1, 1) := by decide +kernel
theorem d_BP_find_65 : decode prog_2_method_2_code 65 = .ok (.isub, 1) := by decide +kernel
theorem d_BP_find_66 : decode prog_2_method_2_code 66 = .ok (.iconst 0, 1) := by decide +kernel
theorem d_BP_find_67 : decode prog_2_method_2_code 67 = .ok (.invokestatic 57, 3) := by decide +kernel
theorem d_BP_find_70 : decode prog_2_method_2_code 70 = .ok (.aload_n 0, 1) := by decide +kernel
theorem d_BP_find_71 : decode prog_2_method_2_code 71 = .ok (.getfield 36, 3) := by decide +kernel
theorem d_BP_find_74 : decode prog_2_method_2_code 74 = .ok (.ireturn, 1) := by decide +kernel
theorem d_BP_decideFrom_0 : decode prog_2_method_3_code 0 = .ok (.iload_n 2, 1) := by decide +kernel
theorem d_BP_decideFrom_1 : decode prog_2_method_3_code 1 = .ok (.invokestatic 61, 3) := by decide +kernel
theorem d_BP_decideFrom_4 : decode prog_2_method_3_code 4 = .ok (.istore_n 3, 1) := by decide +kernel
theorem d_BP_decideFrom_5 : decode prog_2_method_3_code 5 = .ok (.iload_n 3, 1) := by decide +kernel
theorem d_BP_decideFrom_6 : decode prog_2_method_3_code 6 = .ok (.aload_n 0, 1) := by decide +kernel
theorem d_BP_decideFrom_7 : decode prog_2_method_3_code 7 = .ok (.getfield 33, 3) := by decide +kernel
theorem d_BP_decideFrom_10 : decode prog_2_method_3_code 10 = .ok (.if_icmp .ge 17, 3) := by decide +kernel
theorem d_BP_decideFrom_13 : decode prog_2_method_3_code 13 = .ok (.aload_n 0, 1) := by decide +kernel
theorem d_BP_decideFrom_14 : decode prog_2_method_3_code 14 = .ok (.getfield 19, 3) := by decide +kernel
theorem d_BP_decideFrom_17 : decode prog_2_method_3_code 17 = .ok (.aload_n 0, 1) := by decide +kernel
theorem d_BP_decideFrom_18 : decode prog_2_method_3_code 18 = .ok (.getfield 29, 3) := by decide +kernel
theorem d_BP_decideFrom_21 : decode prog_2_method_3_code 21 = .ok (.invokevirtual 66, 3) := by decide +kernel
theorem d_BP_decideFrom_24 : decode prog_2_method_3_code 24 = .ok (.ifCond .le 4, 3) := by decide +kernel
theorem d_BP_decideFrom_27 : decode prog_2_method_3_code 27 = .ok (.return_, 1) := by decide +kernel
theorem d_BP_decideFrom_28 : decode prog_2_method_3_code 28 = .ok (.aload_n 0, 1) := by decide +kernel
theorem d_BP_decideFrom_29 : decode prog_2_method_3_code 29 = .ok (.iload_n 1, 1) := by decide +kernel
theorem d_BP_decideFrom_30 : decode prog_2_method_3_code 30 = .ok (.invokevirtual 69, 3) := by decide +kernel
theorem d_BP_decideFrom_33 : decode prog_2_method_3_code 33 = .ok (.istore 4, 2) := by decide +kernel
theorem d_BP_decideFrom_35 : decode prog_2_method_3_code 35 = .ok (.iload 4, 2) := by decide +kernel
theorem d_BP_decideFrom_37 : decode prog_2_method_3_code 37 = .ok (.iconst (-1), 1) := by decide +kernel
theorem d_BP_decideFrom_38 : decode prog_2_method_3_code 38 = .ok (.if_icmp .ne 14, 3) := by decide +kernel
theorem d_BP_decideFrom_41 : decode prog_2_method_3_code 41 = .ok (.aload_n 0, 1) := by decide +kernel
theorem d_BP_decideFrom_42 : decode prog_2_method_3_code 42 = .ok (.iload_n 3, 1) := by decide +kernel
theorem d_BP_decideFrom_43 : decode prog_2_method_3_code 43 = .ok (.putfield 33, 3) := by decide +kernel
theorem d_BP_decideFrom_46 : decode prog_2_method_3_code 46 = .ok (.aload_n 0, 1) := by decide +kernel
theorem d_BP_decideFrom_47 : decode prog_2_method_3_code 47 = .ok (.iload_n 2, 1) := by decide +kernel
theorem d_BP_decideFrom_48 : decode prog_2_method_3_code 48 = .ok (.putfield 36, 3) := by decide +kernel
theorem d_BP_decideFrom_51 : decode prog_2_method_3_code 51 = .ok (.return_, 1) := by decide +kernel
theorem d_BP_decideFrom_52 : decode prog_2_method_3_code 52 = .ok (.aload_n 0, 1) := by decide +kernel
theorem d_BP_decideFrom_53 : decode prog_2_method_3_code 53 = .ok (.getfield 15, 3) := by decide +kernel
theorem d_BP_decideFrom_56 : decode prog_2_method_3_code 56 = .ok (.getfield 72, 3) := by decide +kernel
theorem d_BP_decideFrom_59 : decode prog_2_method_3_code 59 = .ok (.iload 4, 2) := by decide +kernel
theorem d_BP_decideFrom_61 : decode prog_2_method_3_code 61 = .ok (.iaload, 1) := by decide +kernel
theorem d_BP_decideFrom_62 : decode prog_2_method_3_code 62 = .ok (.istore 5, 2) := by decide +kernel
theorem d_BP_decideFrom_64 : decode prog_2_method_3_code 64 = .ok (.aload_n 0, 1) := by decide +kernel
theorem d_BP_decideFrom_65 : decode prog_2_method_3_code 65 = .ok (.getfield 15, 3) := by decide +kernel
theorem d_BP_decideFrom_68 : decode prog_2_method_3_code 68 = .ok (.getfield 76, 3) := by decide +kernel
theorem d_BP_decideFrom_71 : decode prog_2_method_3_code 71 = .ok (.iload 4, 2) := by decide +kernel
theorem d_BP_decideFrom_73 : decode prog_2_method_3_code 73 = .ok (.iaload, 1) := by decide +kernel
theorem d_BP_decideFrom_74 : decode prog_2_method_3_code 74 = .ok (.istore 6, 2) := by decide +kernel
theorem d_BP_decideFrom_76 : decode prog_2_method_3_code 76 = .ok (.aload_n 0, 1) := by decide +kernel
theorem d_BP_decideFrom_77 : decode prog_2_method_3_code 77 = .ok (.getfield 19, 3) := by decide +kernel
theorem d_BP_decideFrom_80 : decode prog_2_method_3_code 80 = .ok (.iload 4, 2) := by decide +kernel
theorem d_BP_decideFrom_82 : decode prog_2_method_3_code 82 = .ok (.iload 6, 2) := by decide +kernel
theorem d_BP_decideFrom_84 : decode prog_2_method_3_code 84 = .ok (.iload 5, 2) := by decide +kernel
theorem d_BP_decideFrom_86 : decode prog_2_method_3_code 86 = .ok (.ineg, 1) := by decide +kernel
theorem d_BP_decideFrom_87 : decode prog_2_method_3_code 87 = .ok (.invokevirtual 79, 3) := by decide +kernel
theorem d_BP_decideFrom_90 : decode prog_2_method_3_code 90 = .ok (.aload_n 0, 1) := by decide +kernel
theorem d_BP_decideFrom_91 : decode prog_2_method_3_code 91 = .ok (.iload 4, 2) := by decide +kernel
theorem d_BP_decideFrom_93 : decode prog_2_method_3_code 93 = .ok (.iconst 1, 1) := by decide +kernel
theorem d_BP_decideFrom_94 : decode prog_2_method_3_code 94 = .ok (.isub, 1) := by decide +kernel
theorem d_BP_decideFrom_95 : decode prog_2_method_3_code 95 = .ok (.iload_n 2, 1) := by decide +kernel
theorem d_BP_decideFrom_96 : decode prog_2_method_3_code 96 = .ok (.invokestatic 57, 3) := by decide +kernel
theorem d_BP_decideFrom_99 : decode prog_2_method_3_code 99 = .ok (.aload_n 0, 1) := by decide +kernel
theorem d_BP_decideFrom_100 : decode prog_2_method_3_code 100 = .ok (.getfield 19, 3) := by decide +kernel
theorem d_BP_decideFrom_103 : decode prog_2_method_3_code 103 = .ok (.iload 4, 2) := by decide +kernel
theorem d_BP_decideFrom_105 : decode prog_2_method_3_code 105 = .ok (.iload 6, 2) := by decide +kernel
theorem d_BP_decideFrom_107 : decode prog_2_method_3_code 107 = .ok (.iload 5, 2) := by decide +kernel
theorem d_BP_decideFrom_109 : decode prog_2_method_3_code 109 = .ok (.invokevirtual 79, 3) := by decide +kernel
theorem d_BP_decideFrom_112 : decode prog_2_method_3_code 112 = .ok (.aload_n 0, 1) := by decide +kernel
theorem d_BP_decideFrom_113 : decode prog_2_method_3_code 113 = .ok (.iload 4, 2) := by decide +kernel
theorem d_BP_decideFrom_115 : decode prog_2_method_3_code 115 = .ok (.iconst 1, 1) := by decide +kernel
theorem d_BP_decideFrom_116 : decode prog_2_method_3_code 116 = .ok (.isub, 1) := by decide +kernel
theorem d_BP_decideFrom_117 : decode prog_2_method_3_code 117 = .ok (.iload_n 2, 1) := by decide +kernel
theorem d_BP_decideFrom_118 : decode prog_2_method_3_code 118 = .ok (.iconst 1, 1) := by decide +kernel
theorem d_BP_decideFrom_119 : decode prog_2_method_3_code 119 = .ok (.iload 4, 2) := by decide +kernel
theorem d_BP_decideFrom_121 : decode prog_2_method_3_code 121 = .ok (.ishl, 1) := by decide +kernel
theorem d_BP_decideFrom_122 : decode prog_2_method_3_code 122 = .ok (.ior, 1) := by decide +kernel
theorem d_BP_decideFrom_123 : decode prog_2_method_3_code 123 = .ok (.invokestatic 57, 3) := by decide +kernel
theorem d_BP_decideFrom_126 : decode prog_2_method_3_code 126 = .ok (.return_, 1) := by decide +kernel
theorem d_BP_nextToDecide_0 : decode prog_2_method_4_code 0 = .ok (.iload_n 1, 1) := by decide +kernel
theorem d_BP_nextToDecide_1 : decode prog_2_method_4_code 1 = .ok (.aload_n 0, 1) := by decide +kernel
theorem d_BP_nextToDecide_2 : decode prog_2_method_4_code 2 = .ok (.getfield 15, 3) := by decide +kernel
theorem d_BP_nextToDecide_5 : decode prog_2_method_4_code 5 = .ok (.getfield 54, 3) := by decide +kernel
theorem d_BP_nextToDecide_8 : decode prog_2_method_4_code 8 = .ok (.iconst 1, 1) := by decide +kernel
theorem d_BP_nextToDecide_9 : decode prog_2_method_4_code 9 = .ok (.isub, 1) := by decide +kernel
theorem d_BP_nextToDecide_10 : decode prog_2_method_4_code 10 = .ok (.invokestatic 83, 3) := by decide +kernel
theorem d_BP_nextToDecide_13 : decode prog_2_method_4_code 13 = .ok (.istore_n 2, 1) := by decide +kernel
theorem d_BP_nextToDecide_14 : decode prog_2_method_4_code 14 = .ok (.iload_n 2, 1) := by decide +kernel
theorem d_BP_nextToDecide_15 : decode prog_2_method_4_code 15 = .ok (.ifCond .lt 39, 3) := by decide +kernel
theorem d_BP_nextToDecide_18 : decode prog_2_method_4_code 18 = .ok (.aload_n 0, 1) := by decide +kernel
theorem d_BP_nextToDecide_19 : decode prog_2_method_4_code 19 = .ok (.getfield 15, 3) := by decide +kernel
theorem d_BP_nextToDecide_22 : decode prog_2_method_4_code 22 = .ok (.getfield 89, 3) := by decide +kernel
theorem d_BP_nextToDecide_25 : decode prog_2_method_4_code 25 = .ok (.iload_n 2, 1) := by decide +kernel
theorem d_BP_nextToDecide_26 : decode prog_2_method_4_code 26 = .ok (.iaload, 1) := by decide +kernel
theorem d_BP_nextToDecide_27 : decode prog_2_method_4_code 27 = .ok (.aload_n 0, 1) := by decide +kernel
theorem d_BP_nextToDecide_28 : decode prog_2_method_4_code 28 = .ok (.getfield 29, 3) := by decide +kernel
theorem d_BP_nextToDecide_31 : decode prog_2_method_4_code 31 = .ok (.if_icmp .ne 17, 3) := by decide +kernel
theorem d_BP_nextToDecide_34 : decode prog_2_method_4_code 34 = .ok (.aload_n 0, 1) := by decide +kernel
theorem d_BP_nextToDecide_35 : decode prog_2_method_4_code 35 = .ok (.getfield 15, 3) := by decide +kernel
theorem d_BP_nextToDecide_38 : decode prog_2_method_4_code 38 = .ok (.getfield 92, 3) := by decide +kernel
theorem d_BP_nextToDecide_41 : decode prog_2_method_4_code 41 = .ok (.iload_n 2, 1) := by decide +kernel
theorem d_BP_nextToDecide_42 : decode prog_2_method_4_code 42 = .ok (.baload, 1) := by decide +kernel
theorem d_BP_nextToDecide_43 : decode prog_2_method_4_code 43 = .ok (.ifCond .ne 5, 3) := by decide +kernel
theorem d_BP_nextToDecide_46 : decode prog_2_method_4_code 46 = .ok (.iload_n 2, 1) := by decide +kernel
theorem d_BP_nextToDecide_47 : decode prog_2_method_4_code 47 = .ok (.ireturn, 1) := by decide +kernel
theorem d_BP_nextToDecide_48 : decode prog_2_method_4_code 48 = .ok (.iinc 2 (-1), 3) := by decide +kernel
theorem d_BP_nextToDecide_51 : decode prog_2_method_4_code 51 = .ok (.goto (-37), 3) := by decide +kernel
theorem d_BP_nextToDecide_54 : decode prog_2_method_4_code 54 = .ok (.iconst (-1), 1) := by decide +kernel
theorem d_BP_nextToDecide_55 : decode prog_2_method_4_code 55 = .ok (.ireturn, 1) := by decide +kernel
theorem d_MA_init_0 : decode prog_3_method_1_code 0 = .ok (.aload_n 0, 1) := by decide +kernel
theorem d_MA_init_1 : decode prog_3_method_1_code 1 = .ok (.invokespecial 3, 3) := by decide +kernel
theorem d_MA_init_4 : decode prog_3_method_1_code 4 = .ok (.aload_n 0, 1) := by decide +kernel
theorem d_MA_init_5 : decode prog_3_method_1_code 5 = .ok (.aload_n 1, 1) := by decide +kernel
theorem d_MA_init_6 : decode prog_3_method_1_code 6 = .ok (.putfield 9, 3) := by decide +kernel
theorem d_MA_init_9 : decode prog_3_method_1_code 9 = .ok (.aload_n 0, 1) := by decide +kernel
theorem d_MA_init_10 : decode prog_3_method_1_code 10 = .ok (.aload_n 2, 1) := by decide +kernel
theorem d_MA_init_11 : decode prog_3_method_1_code 11 = .ok (.putfield 15, 3) := by decide +kernel
theorem d_MA_init_14 : decode prog_3_method_1_code 14 = .ok (.aload_n 0, 1) := by decide +kernel
theorem d_MA_init_15 : decode prog_3_method_1_code 15 = .ok (.bipush 24, 2) := by decide +kernel
theorem d_MA_init_17 : decode prog_3_method_1_code 17 = .ok (.newarray .int, 2) := by decide +kernel
theorem d_MA_init_19 : decode prog_3_method_1_code 19 = .ok (.putfield 19, 3) := by decide +kernel
theorem d_MA_init_22 : decode prog_3_method_1_code 22 = .ok (.aload_n 0, 1) := by decide +kernel
theorem d_MA_init_23 : decode prog_3_method_1_code 23 = .ok (.bipush 24, 2) := by decide +kernel
theorem d_MA_init_25 : decode prog_3_method_1_code 25 = .ok (.newarray .int, 2) := by decide +kernel
theorem d_MA_init_27 : decode prog_3_method_1_code 27 = .ok (.putfield 23, 3) := by decide +kernel
theorem d_MA_init_30 : decode prog_3_method_1_code 30 = .ok (.aload_n 0, 1) := by decide +kernel
theorem d_MA_init_31 : decode prog_3_method_1_code 31 = .ok (.bipush 24, 2) := by decide +kernel
theorem d_MA_init_33 : decode prog_3_method_1_code 33 = .ok (.newarray .int, 2) := by decide +kernel
theorem d_MA_init_35 : decode prog_3_method_1_code 35 = .ok (.putfield 26, 3) := by decide +kernel
theorem d_MA_init_38 : decode prog_3_method_1_code 38 = .ok (.return_, 1) := by decide +kernel
theorem d_MA_gather_0 : decode prog_3_method_2_code 0 = .ok (.aload_n 0, 1) := by decide +kernel
theorem d_MA_gather_1 : decode prog_3_method_2_code 1 = .ok (.iconst 0, 1) := by decide +kernel
theorem d_MA_gather_2 : decode prog_3_method_2_code 2 = .ok (.invokevirtual 29, 3) := by decide +kernel
theorem d_MA_gather_5 : decode prog_3_method_2_code 5 = .ok (.iconst 0, 1) := by decide +kernel
theorem d_MA_gather_6 : decode prog_3_method_2_code 6 = .ok (.istore_n 3, 1) := by decide +kernel
theorem d_MA_gather_7 : decode prog_3_method_2_code 7 = .ok (.iload_n 3, 1) := by decide +kernel
theorem d_MA_gather_8 : decode prog_3_method_2_code 8 = .ok (.aload_n 0, 1) := by decide +kernel
theorem d_MA_gather_9 : decode prog_3_method_2_code 9 = .ok (.getfield 15, 3) := by decide +kernel
theorem d_MA_gather_12 : decode prog_3_method_2_code 12 = .ok (.getfield 33, 3) := by decide +kernel
theorem d_MA_gather_15 : decode prog_3_method_2_code 15 = .ok (.if_icmp .ge 63, 3) := by decide +kernel
theorem d_MA_gather_18 : decode prog_3_method_2_code 18 = .ok (.iload_n 1, 1) := by decide +kernel
theorem d_MA_gather_19 : decode prog_3_method_2_code 19 = .ok (.iload_n 3, 1) := by decide +kernel
theorem d_MA_gather_20 : decode prog_3_method_2_code 20 = .ok (.ishr, 1) := by decide +kernel
theorem d_MA_gather_21 : decode prog_3_method_2_code 21 = .ok (.iconst 1, 1) := by decide +kernel
theorem d_MA_gather_22 : decode prog_3_method_2_code 22 = .ok (.iand, 1) := by decide +kernel
theorem d_MA_gather_23 : decode prog_3_method_2_code 23 = .ok (.ifCond .ne 6, 3) := by decide +kernel
theorem d_MA_gather_26 : decode prog_3_method_2_code 26 = .ok (.goto 46, 3) := by decide +kernel
theorem d_MA_gather_29 : decode prog_3_method_2_code 29 = .ok (.iconst 0, 1) := by decide +kernel
theorem d_MA_gather_30 : decode prog_3_method_2_code 30 = .ok (.istore 4, 2) := by decide +kernel
theorem d_MA_gather_32 : decode prog_3_method_2_code 32 = .ok (.iload 4, 2) := by decide +kernel
theorem d_MA_gather_34 : decode prog_3_method_2_code 34 = .ok (.aload_n 0, 1) := by decide +kernel
theorem d_MA_gather_35 : decode prog_3_method_2_code 35 = .ok (.getfield 9, 3) := by decide +kernel
theorem d_MA_gather_38 : decode prog_3_method_2_code 38 = .ok (.getfield 39, 3) := by decide +kernel
theorem d_MA_gather_41 : decode prog_3_method_2_code 41 = .ok (.if_icmp .ge 31, 3) := by decide +kernel
theorem d_MA_gather_44 : decode prog_3_method_2_code 44 = .ok (.aload_n 0, 1) := by decide +kernel
theorem d_MA_gather_45 : decode prog_3_method_2_code 45 = .ok (.getfield 19, 3) := by decide +kernel
theorem d_MA_gather_48 : decode prog_3_method_2_code 48 = .ok (.iload 4, 2) := by decide +kernel
theorem d_MA_gather_50 : decode prog_3_method_2_code 50 = .ok (.dup2, 1) := by decide +kernel
theorem d_MA_gather_51 : decode prog_3_method_2_code 51 = .ok (.iaload, 1) := by decide +kernel
theorem d_MA_gather_52 : decode prog_3_method_2_code 52 = .ok (.aload_n 0, 1) := by decide +kernel
theorem d_MA_gather_53 : decode prog_3_method_2_code 53 = .ok (.getfield 15, 3) := by decide +kernel
theorem d_MA_gather_56 : decode prog_3_method_2_code 56 = .ok (.iload_n 3, 1) := by decide +kernel
theorem d_MA_gather_57 : decode prog_3_method_2_code 57 = .ok (.iload 4, 2) := by decide +kernel
theorem d_MA_gather_59 : decode prog_3_method_2_code 59 = .ok (.iload_n 2, 1) := by decide +kernel
theorem d_MA_gather_60 : decode prog_3_method_2_code 60 = .ok (.iadd, 1) := by decide +kernel
theorem d_MA_gather_61 : decode prog_3_method_2_code 61 = .ok (.invokevirtual 44, 3) := by decide +kernel
theorem d_MA_gather_64 : decode prog_3_method_2_code 64 = .ok (.iadd, 1) := by decide +kernel
theorem d_MA_gather_65 : decode prog_3_method_2_code 65 = .ok (.iastore, 1) := by decide +kernel
theorem d_MA_gather_66 : decode prog_3_method_2_code 66 = .ok (.iinc 4 1, 3) := by decide +kernel
theorem d_MA_gather_69 : decode prog_3_method_2_code 69 = .ok (.goto (-37), 3) := by decide +kernel
theorem d_MA_gather_72 : decode prog_3_method_2_code 72 = .ok (.iinc 3 1, 3) := by decide +kernel
theorem d_MA_gather_75 : decode prog_3_method_2_code 75 = .ok (.goto (-68), 3) := by decide +kernel
theorem d_MA_gather_78 : decode prog_3_method_2_code 78 = .ok (.return_, 1) := by decide +kernel
theorem d_MA_fill_0 : decode prog_3_method_3_code 0 = .ok (.iconst 0, 1) := by decide +kernel
theorem d_MA_fill_1 : decode prog_3_method_3_code 1 = .ok (.istore_n 2, 1) := by decide +kernel
theorem d_MA_fill_2 : decode prog_3_method_3_code 2 = .ok (.iload_n 2, 1) := by decide +kernel
theorem d_MA_fill_3 : decode prog_3_method_3_code 3 = .ok (.aload_n 0, 1) := by decide +kernel
theorem d_MA_fill_4 : decode prog_3_method_3_code 4 = .ok (.getfield 9, 3) := by decide +kernel
theorem d_MA_fill_7 : decode prog_3_method_3_code 7 = .ok (.getfield 39, 3) := by decide +kernel
theorem d_MA_fill_10 : decode prog_3_method_3_code 10 = .ok (.if_icmp .ge 16, 3) := by decide +kernel
theorem d_MA_fill_13 : decode prog_3_method_3_code 13 = .ok (.aload_n 0, 1) := by decide +kernel
theorem d_MA_fill_14 : decode prog_3_method_3_code 14 = .ok (.getfield 19, 3) := by decide +kernel
theorem d_MA_fill_17 : decode prog_3_method_3_code 17 = .ok (.iload_n 2, 1) := by decide +kernel
theorem d_MA_fill_18 : decode prog_3_method_3_code 18 = .ok (.iload_n 1, 1) := by decide +kernel
theorem d_MA_fill_19 : decode prog_3_method_3_code 19 = .ok (.iastore, 1) := by decide +kernel
theorem d_MA_fill_20 : decode prog_3_method_3_code 20 = .ok (.iinc 2 1, 3) := by decide +kernel
theorem d_MA_fill_23 : decode prog_3_method_3_code 23 = .ok (.goto (-21), 3) := by decide +kernel
theorem d_MA_fill_26 : decode prog_3_method_3_code 26 = .ok (.return_, 1) := by decide +kernel
theorem d_MA_addAtBreaths_0 : decode prog_3_method_4_code 0 = .ok (.aload_n 0, 1) := by decide +kernel
theorem d_MA_addAtBreaths_1 : decode prog_3_method_4_code 1 = .ok (.getfield 15, 3) := by decide +kernel
theorem d_MA_addAtBreaths_4 : decode prog_3_method_4_code 4 = .ok (.getfield 48, 3) := by decide +kernel
theorem d_MA_addAtBreaths_7 : decode prog_3_method_4_code 7 = .ok (.iload_n 1, 1) := by decide +kernel
theorem d_MA_addAtBreaths_8 : decode prog_3_method_4_code 8 = .ok (.iaload, 1) := by decide +kernel
theorem d_MA_addAtBreaths_9 : decode prog_3_method_4_code 9 = .ok (.iconst 1, 1) := by decide +kernel
theorem d_MA_addAtBreaths_10 : decode prog_3_method_4_code 10 = .ok (.iadd, 1) := by decide +kernel
theorem d_MA_addAtBreaths_11 : decode prog_3_method_4_code 11 = .ok (.istore 4, 2) := by decide +kernel
theorem d_MA_addAtBreaths_13 : decode prog_3_method_4_code 13 = .ok (.aload_n 0, 1) := by decide +kernel
theorem d_MA_addAtBreaths_14 : decode prog_3_method_4_code 14 = .ok (.getfield 15, 3) := by decide +kernel
theorem d_MA_addAtBreaths_17 : decode prog_3_method_4_code 17 = .ok (.getfield 48, 3) := by decide +kernel
theorem d_MA_addAtBreaths_20 : decode prog_3_method_4_code 20 = .ok (.iload_n 1, 1) := by decide +kernel
theorem d_MA_addAtBreaths_21 : decode prog_3_method_4_code 21 = .ok (.iaload, 1) := by decide +kernel
theorem d_MA_addAtBreaths_22 : decode prog_3_method_4_code 22 = .ok (.iload_n 2, 1) := by decide +kernel
theorem d_MA_addAtBreaths_23 : decode prog_3_method_4_code 23 = .ok (.isub, 1) := by decide +kernel
theorem d_MA_addAtBreaths_24 : decode prog_3_method_4_code 24 = .ok (.aload_n 0, 1) := by decide +kernel
theorem d_MA_addAtBreaths_25 : decode prog_3_method_4_code 25 = .ok (.getfield 15, 3) := by decide +kernel
theorem d_MA_addAtBreaths_28 : decode prog_3_method_4_code 28 = .ok (.getfield 51, 3) := by decide +kernel
theorem d_MA_addAtBreaths_31 : decode prog_3_method_4_code 31 = .ok (.isub, 1) := by decide +kernel
theorem d_MA_addAtBreaths_32 : decode prog_3_method_4_code 32 = .ok (.iload 4, 2) := by decide +kernel
theorem d_MA_addAtBreaths_34 : decode prog_3_method_4_code 34 = .ok (.invokestatic 54, 3) := by decide +kernel
theorem d_MA_addAtBreaths_37 : decode prog_3_method_4_code 37 = .ok (.istore 5, 2) := by decide +kernel
theorem d_MA_addAtBreaths_39 : decode prog_3_method_4_code 39 = .ok (.iload 5, 2) := by decide +kernel
theorem d_MA_addAtBreaths_41 : decode prog_3_method_4_code 41 = .ok (.istore 6, 2) := by decide +kernel
theorem d_MA_addAtBreaths_43 : decode prog_3_method_4_code 43 = .ok (.iload 6, 2) := by decide +kernel
theorem d_MA_addAtBreaths_45 : decode prog_3_method_4_code 45 = .ok (.aload_n 0, 1) := by decide +kernel
theorem d_MA_addAtBreaths_46 : decode prog_3_method_4_code 46 = .ok (.getfield 9, 3) := by decide +kernel
theorem d_MA_addAtBreaths_49 : decode prog_3_method_4_code 49 = .ok (.getfield 39, 3) := by decide +kernel
theorem d_MA_addAtBreaths_52 : decode prog_3_method_4_code 52 = .ok (.if_icmp .ge 24, 3) := by decide +kernel
theorem d_MA_addAtBreaths_55 : decode prog_3_method_4_code 55 = .ok (.aload_n 0, 1) := by decide +kernel
theorem d_MA_addAtBreaths_56 : decode prog_3_method_4_code 56 = .ok (.getfield 19, 3) := by decide +kernel
theorem d_MA_addAtBreaths_59 : decode prog_3_method_4_code 59 = .ok (.iload 6, 2) := by decide +kernel
theorem d_MA_addAtBreaths_61 : decode prog_3_method_4_code 61 = .ok (.dup2, 1) := by decide +kernel
theorem d_MA_addAtBreaths_62 : decode prog_3_method_4_code 62 = .ok (.iaload, 1) := by decide +kernel
theorem d_MA_addAtBreaths_63 : decode prog_3_method_4_code 63 = .ok (.iload_n 3, 1) := by decide +kernel
theorem d_MA_addAtBreaths_64 : decode prog_3_method_4_code 64 = .ok (.iadd, 1) := by decide +kernel
theorem d_MA_addAtBreaths_65 : decode prog_3_method_4_code 65 = .ok (.iastore, 1) := by decide +kernel
theorem d_MA_addAtBreaths_66 : decode prog_3_method_4_code 66 = .ok (.iload 6, 2) := by decide +kernel
theorem d_MA_addAtBreaths_68 : decode prog_3_method_4_code 68 = .ok (.iload 4, 2) := by decide +kernel
theorem d_MA_addAtBreaths_70 : decode prog_3_method_4_code 70 = .ok (.iadd, 1) := by decide +kernel
theorem d_MA_addAtBreaths_71 : decode prog_3_method_4_code 71 = .ok (.istore 6, 2) := by decide +kernel
theorem d_MA_addAtBreaths_73 : decode prog_3_method_4_code 73 = .ok (.goto (-30), 3) := by decide +kernel
theorem d_MA_addAtBreaths_76 : decode prog_3_method_4_code 76 = .ok (.return_, 1) := by decide +kernel
theorem d_MA_blow_0 : decode prog_3_method_5_code 0 = .ok (.iconst 0, 1) := by decide +kernel
theorem d_MA_blow_1 : decode prog_3_method_5_code 1 = .ok (.istore_n 2, 1) := by decide +kernel
theorem d_MA_blow_2 : decode prog_3_method_5_code 2 = .ok (.iconst 0, 1) := by decide +kernel
theorem d_MA_blow_3 : decode prog_3_method_5_code 3 = .ok (.istore_n 3, 1) := by decide +kernel
theorem d_MA_blow_4 : decode prog_3_method_5_code 4 = .ok (.iconst 0, 1) := by decide +kernel
theorem d_MA_blow_5 : decode prog_3_method_5_code 5 = .ok (.istore 4, 2) := by decide +kernel
theorem d_MA_blow_7 : decode prog_3_method_5_code 7 = .ok (.iload 4, 2) := by decide +kernel
theorem d_MA_blow_9 : decode prog_3_method_5_code 9 = .ok (.aload_n 0, 1) := by decide +kernel
theorem d_MA_blow_10 : decode prog_3_method_5_code 10 = .ok (.getfield 9, 3) := by decide +kernel
theorem d_MA_blow_13 : decode prog_3_method_5_code 13 = .ok (.getfield 39, 3) := by decide +kernel
theorem d_MA_blow_16 : decode prog_3_method_5_code 16 = .ok (.if_icmp .ge 96, 3) := by decide +kernel
theorem d_MA_blow_19 : decode prog_3_method_5_code 19 = .ok (.iload_n 2, 1) := by decide +kernel
theorem d_MA_blow_20 : decode prog_3_method_5_code 20 = .ok (.aload_n 0, 1) := by decide +kernel
theorem d_MA_blow_21 : decode prog_3_method_5_code 21 = .ok (.getfield 19, 3) := by decide +kernel
theorem d_MA_blow_24 : decode prog_3_method_5_code 24 = .ok (.iload 4, 2) := by decide +kernel
theorem d_MA_blow_26 : decode prog_3_method_5_code 26 = .ok (.iaload, 1) := by decide +kernel
theorem d_MA_blow_27 : decode prog_3_method_5_code 27 = .ok (.iadd, 1) := by decide +kernel
theorem d_MA_blow_28 : decode prog_3_method_5_code 28 = .ok (.istore 5, 2) := by decide +kernel
theorem d_MA_blow_30 : decode prog_3_method_5_code 30 = .ok (.aload_n 0, 1) := by decide +kernel
theorem d_MA_blow_31 : decode prog_3_method_5_code 31 = .ok (.getfield 9, 3) := by decide +kernel
theorem d_MA_blow_34 : decode prog_3_method_5_code 34 = .ok (.iload_n 1, 1) := by decide +kernel
theorem d_MA_blow_35 : decode prog_3_method_5_code 35 = .ok (.iload 4, 2) := by decide +kernel
theorem d_MA_blow_37 : decode prog_3_method_5_code 37 = .ok (.invokevirtual 59, 3) := by decide +kernel
theorem d_MA_blow_40 : decode prog_3_method_5_code 40 = .ok (.ifCond .eq 17, 3) := by decide +kernel
theorem d_MA_blow_43 : decode prog_3_method_5_code 43 = .ok (.iload 5, 2) := by decide +kernel
theorem d_MA_blow_45 : decode prog_3_method_5_code 45 = .ok (.aload_n 0, 1) := by decide +kernel
theorem d_MA_blow_46 : decode prog_3_method_5_code 46 = .ok (.getfield 9, 3) := by decide +kernel
theorem d_MA_blow_49 : decode prog_3_method_5_code 49 = .ok (.getfield 63, 3) := by decide +kernel
theorem d_MA_blow_52 : decode prog_3_method_5_code 52 = .ok (.iload_n 1, 1) := by decide +kernel
theorem d_MA_blow_53 : decode prog_3_method_5_code 53 = .ok (.iaload, 1) := by decide +kernel
theorem d_MA_blow_54 : decode prog_3_method_5_code 54 = .ok (.isub, 1) := by decide +kernel
theorem d_MA_blow_55 : decode prog_3_method_5_code 55 = .ok (.istore 5, 2) := by decide +kernel
theorem d_MA_blow_57 : decode prog_3_method_5_code 57 = .ok (.iconst 0, 1) := by decide +kernel
theorem d_MA_blow_58 : decode prog_3_method_5_code 58 = .ok (.iload 5, 2) := by decide +kernel
theorem d_MA_blow_60 : decode prog_3_method_5_code 60 = .ok (.aload_n 0, 1) := by decide +kernel
theorem d_MA_blow_61 : decode prog_3_method_5_code 61 = .ok (.getfield 15, 3) := by decide +kernel
theorem d_MA_blow_64 : decode prog_3_method_5_code 64 = .ok (.getfield 66, 3) := by decide +kernel
theorem d_MA_blow_67 : decode prog_3_method_5_code 67 = .ok (.invokestatic 69, 3) := by decide +kernel
theorem d_MA_blow_70 : decode prog_3_method_5_code 70 = .ok (.invokestatic 72, 3) := by decide +kernel
theorem d_MA_blow_73 : decode prog_3_method_5_code 73 = .ok (.istore_n 2, 1) := by decide +kernel
theorem d_MA_blow_74 : decode prog_3_method_5_code 74 = .ok (.aload_n 0, 1) := by decide +kernel
theorem d_MA_blow_75 : decode prog_3_method_5_code 75 = .ok (.getfield 23, 3) := by decide +kernel
theorem d_MA_blow_78 : decode prog_3_method_5_code 78 = .ok (.iload 4, 2) := by decide +kernel
theorem d_MA_blow_80 : decode prog_3_method_5_code 80 = .ok (.iload_n 2, 1) := by decide +kernel
theorem d_MA_blow_81 : decode prog_3_method_5_code 81 = .ok (.iastore, 1) := by decide +kernel
theorem d_MA_blow_82 : decode prog_3_method_5_code 82 = .ok (.aload_n 0, 1) := by decide +kernel
theorem d_MA_blow_83 : decode prog_3_method_5_code 83 = .ok (.getfield 26, 3) := by decide +kernel
theorem d_MA_blow_86 : decode prog_3_method_5_code 86 = .ok (.iload 4, 2) := by decide +kernel
theorem d_MA_blow_88 : decode prog_3_method_5_code 88 = .ok (.iconst 0, 1) := by decide +kernel
theorem d_MA_blow_89 : decode prog_3_method_5_code 89 = .ok (.iload 5, 2) := by decide +kernel
theorem d_MA_blow_91 : decode prog_3_method_5_code 91 = .ok (.ineg, 1) := by decide +kernel
theorem d_MA_blow_92 : decode prog_3_method_5_code 92 = .ok (.invokestatic 72, 3) := by decide +kernel
theorem d_MA_blow_95 : decode prog_3_method_5_code 95 = .ok (.iastore, 1) := by decide +kernel
theorem d_MA_blow_96 : decode prog_3_method_5_code 96 = .ok (.iload_n 3, 1) := by decide +kernel
theorem d_MA_blow_97 : decode prog_3_method_5_code 97 = .ok (.aload_n 0, 1) := by decide +kernel
theorem d_MA_blow_98 : decode prog_3_method_5_code 98 = .ok (.getfield 26, 3) := by decide +kernel
theorem d_MA_blow_101 : decode prog_3_method_5_code 101 = .ok (.iload 4, 2) := by decide +kernel
theorem d_MA_blow_103 : decode prog_3_method_5_code 103 = .ok (.iaload, 1) := by decide +kernel
theorem d_MA_blow_104 : decode prog_3_method_5_code 104 = .ok (.iadd, 1) := by decide +kernel
theorem d_MA_blow_105 : decode prog_3_method_5_code 105 = .ok (.istore_n 3, 1) := by decide +kernel
theorem d_MA_blow_106 : decode prog_3_method_5_code 106 = .ok (.iinc 4 1, 3) := by decide +kernel
theorem d_MA_blow_109 : decode prog_3_method_5_code 109 = .ok (.goto (-102), 3) := by decide +kernel
theorem d_MA_blow_112 : decode prog_3_method_5_code 112 = .ok (.iload_n 3, 1) := by decide +kernel
theorem d_MA_blow_113 : decode prog_3_method_5_code 113 = .ok (.ireturn, 1) := by decide +kernel
theorem d_MA_play_0 : decode prog_3_method_6_code 0 = .ok (.aload_n 0, 1) := by decide +kernel
theorem d_MA_play_1 : decode prog_3_method_6_code 1 = .ok (.aload_n 0, 1) := by decide +kernel
theorem d_MA_play_2 : decode prog_3_method_6_code 2 = .ok (.getfield 15, 3) := by decide +kernel
theorem d_MA_play_5 : decode prog_3_method_6_code 5 = .ok (.iload_n 1, 1) := by decide +kernel
theorem d_MA_play_6 : decode prog_3_method_6_code 6 = .ok (.invokevirtual 75, 3) := by decide +kernel
theorem d_MA_play_9 : decode prog_3_method_6_code 9 = .ok (.iload_n 2, 1) := by decide +kernel
theorem d_MA_play_10 : decode prog_3_method_6_code 10 = .ok (.invokevirtual 79, 3) := by decide +kernel
theorem d_MA_play_13 : decode prog_3_method_6_code 13 = .ok (.aload_n 0, 1) := by decide +kernel
theorem d_MA_play_14 : decode prog_3_method_6_code 14 = .ok (.iload_n 1, 1) := by decide +kernel
theorem d_MA_play_15 : decode prog_3_method_6_code 15 = .ok (.invokevirtual 83, 3) := by decide +kernel
theorem d_MA_play_18 : decode prog_3_method_6_code 18 = .ok (.ireturn, 1) := by decide +kernel
theorem d_MA_playAll_0 : decode prog_3_method_7_code 0 = .ok (.iconst 0, 1) := by decide +kernel
theorem d_MA_playAll_1 : decode prog_3_method_7_code 1 = .ok (.istore_n 2, 1) := by decide +kernel
theorem d_MA_playAll_2 : decode prog_3_method_7_code 2 = .ok (.iconst 0, 1) := by decide +kernel
theorem d_MA_playAll_3 : decode prog_3_method_7_code 3 = .ok (.istore_n 3, 1) := by decide +kernel
theorem d_MA_playAll_4 : decode prog_3_method_7_code 4 = .ok (.iload_n 3, 1) := by decide +kernel
theorem d_MA_playAll_5 : decode prog_3_method_7_code 5 = .ok (.aload_n 0, 1) := by decide +kernel
theorem d_MA_playAll_6 : decode prog_3_method_7_code 6 = .ok (.getfield 9, 3) := by decide +kernel
theorem d_MA_playAll_9 : decode prog_3_method_7_code 9 = .ok (.getfield 86, 3) := by decide +kernel
theorem d_MA_playAll_12 : decode prog_3_method_7_code 12 = .ok (.if_icmp .ge 18, 3) := by decide +kernel
theorem d_MA_playAll_15 : decode prog_3_method_7_code 15 = .ok (.iload_n 2, 1) := by decide +kernel
theorem d_MA_playAll_16 : decode prog_3_method_7_code 16 = .ok (.aload_n 0, 1) := by decide +kernel
theorem d_MA_playAll_17 : decode prog_3_method_7_code 17 = .ok (.iload_n 3, 1) := by decide +kernel
theorem d_MA_playAll_18 : decode prog_3_method_7_code 18 = .ok (.iload_n 1, 1) := by decide +kernel
theorem d_MA_playAll_19 : decode prog_3_method_7_code 19 = .ok (.invokevirtual 87, 3) := by decide +kernel
theorem d_MA_playAll_22 : decode prog_3_method_7_code 22 = .ok (.iadd, 1) := by decide +kernel
theorem d_MA_playAll_23 : decode prog_3_method_7_code 23 = .ok (.istore_n 2, 1) := by decide +kernel
theorem d_MA_playAll_24 : decode prog_3_method_7_code 24 = .ok (.iinc 3 1, 3) := by decide +kernel
theorem d_MA_playAll_27 : decode prog_3_method_7_code 27 = .ok (.goto (-23), 3) := by decide +kernel
theorem d_MA_playAll_30 : decode prog_3_method_7_code 30 = .ok (.iload_n 2, 1) := by decide +kernel
theorem d_MA_playAll_31 : decode prog_3_method_7_code 31 = .ok (.ireturn, 1) := by decide +kernel
theorem d_MA_firstMissing_0 : decode prog_3_method_8_code 0 = .ok (.iconst 0, 1) := by decide +kernel
theorem d_MA_firstMissing_1 : decode prog_3_method_8_code 1 = .ok (.istore_n 1, 1) := by decide +kernel
theorem d_MA_firstMissing_2 : decode prog_3_method_8_code 2 = .ok (.iload_n 1, 1) := by decide +kernel
theorem d_MA_firstMissing_3 : decode prog_3_method_8_code 3 = .ok (.aload_n 0, 1) := by decide +kernel
theorem d_MA_firstMissing_4 : decode prog_3_method_8_code 4 = .ok (.getfield 9, 3) := by decide +kernel
theorem d_MA_firstMissing_7 : decode prog_3_method_8_code 7 = .ok (.getfield 39, 3) := by decide +kernel
theorem d_MA_firstMissing_10 : decode prog_3_method_8_code 10 = .ok (.if_icmp .ge 20, 3) := by decide +kernel
theorem d_MA_firstMissing_13 : decode prog_3_method_8_code 13 = .ok (.aload_n 0, 1) := by decide +kernel
theorem d_MA_firstMissing_14 : decode prog_3_method_8_code 14 = .ok (.getfield 26, 3) := by decide +kernel
theorem d_MA_firstMissing_17 : decode prog_3_method_8_code 17 = .ok (.iload_n 1, 1) := by decide +kernel
theorem d_MA_firstMissing_18 : decode prog_3_method_8_code 18 = .ok (.iaload, 1) := by decide +kernel
theorem d_MA_firstMissing_19 : decode prog_3_method_8_code 19 = .ok (.ifCond .le 5, 3) := by decide +kernel
theorem d_MA_firstMissing_22 : decode prog_3_method_8_code 22 = .ok (.iload_n 1, 1) := by decide +kernel
theorem d_MA_firstMissing_23 : decode prog_3_method_8_code 23 = .ok (.ireturn, 1) := by decide +kernel
theorem d_MA_firstMissing_24 : decode prog_3_method_8_code 24 = .ok (.iinc 1 1, 3) := by decide +kernel
theorem d_MA_firstMissing_27 : decode prog_3_method_8_code 27 = .ok (.goto (-25), 3) := by decide +kernel
theorem d_MA_firstMissing_30 : decode prog_3_method_8_code 30 = .ok (.bipush (-9), 2) := by decide +kernel
theorem d_MA_firstMissing_32 : decode prog_3_method_8_code 32 = .ok (.ireturn, 1) := by decide +kernel
theorem d_PE_init_0 : decode prog_4_method_1_code 0 = .ok (.aload_n 0, 1) := by decide +kernel
theorem d_PE_init_1 : decode prog_4_method_1_code 1 = .ok (.invokespecial 3, 3) := by decide +kernel
theorem d_PE_init_4 : decode prog_4_method_1_code 4 = .ok (.aload_n 0, 1) := by decide +kernel
theorem d_PE_init_5 : decode prog_4_method_1_code 5 = .ok (.bipush 12, 2) := by decide +kernel
theorem d_PE_init_7 : decode prog_4_method_1_code 7 = .ok (.newarray .int, 2) := by decide +kernel
theorem d_PE_init_9 : decode prog_4_method_1_code 9 = .ok (.putfield 9, 3) := by decide +kernel
theorem d_PE_init_12 : decode prog_4_method_1_code 12 = .ok (.aload_n 0, 1) := by decide +kernel
theorem d_PE_init_13 : decode prog_4_method_1_code 13 = .ok (.bipush 12, 2) := by decide +kernel
theorem d_PE_init_15 : decode prog_4_method_1_code 15 = .ok (.newarray .int, 2) := by decide +kernel
theorem d_PE_init_17 : decode prog_4_method_1_code 17 = .ok (.putfield 15, 3) := by decide +kernel
theorem d_PE_init_20 : decode prog_4_method_1_code 20 = .ok (.aload_n 0, 1) := by decide +kernel
theorem d_PE_init_21 : decode prog_4_method_1_code 21 = .ok (.bipush 12, 2) := by decide +kernel
theorem d_PE_init_23 : decode prog_4_method_1_code 23 = .ok (.newarray .int, 2) := by decide +kernel
theorem d_PE_init_25 : decode prog_4_method_1_code 25 = .ok (.putfield 18, 3) := by decide +kernel
theorem d_PE_init_28 : decode prog_4_method_1_code 28 = .ok (.aload_n 0, 1) := by decide +kernel
theorem d_PE_init_29 : decode prog_4_method_1_code 29 = .ok (.bipush 12, 2) := by decide +kernel
theorem d_PE_init_31 : decode prog_4_method_1_code 31 = .ok (.newarray .int, 2) := by decide +kernel
theorem d_PE_init_33 : decode prog_4_method_1_code 33 = .ok (.putfield 21, 3) := by decide +kernel
theorem d_PE_init_36 : decode prog_4_method_1_code 36 = .ok (.aload_n 0, 1) := by decide +kernel
theorem d_PE_init_37 : decode prog_4_method_1_code 37 = .ok (.bipush 12, 2) := by decide +kernel
theorem d_PE_init_39 : decode prog_4_method_1_code 39 = .ok (.newarray .boolean, 2) := by decide +kernel
theorem d_PE_init_41 : decode prog_4_method_1_code 41 = .ok (.putfield 24, 3) := by decide +kernel
theorem d_PE_init_44 : decode prog_4_method_1_code 44 = .ok (.return_, 1) := by decide +kernel
theorem d_PE_takeFrom_0 : decode prog_4_method_2_code 0 = .ok (.aload_n 0, 1) := by decide +kernel
theorem d_PE_takeFrom_1 : decode prog_4_method_2_code 1 = .ok (.aload_n 1, 1) := by decide +kernel
theorem d_PE_takeFrom_2 : decode prog_4_method_2_code 2 = .ok (.getfield 28, 3) := by decide +kernel
theorem d_PE_takeFrom_5 : decode prog_4_method_2_code 5 = .ok (.putfield 34, 3) := by decide +kernel
theorem d_PE_takeFrom_8 : decode prog_4_method_2_code 8 = .ok (.aload_n 0, 1) := by decide +kernel
theorem d_PE_takeFrom_9 : decode prog_4_method_2_code 9 = .ok (.iconst 0, 1) := by decide +kernel
theorem d_PE_takeFrom_10 : decode prog_4_method_2_code 10 = .ok (.putfield 37, 3) := by decide +kernel
theorem d_PE_takeFrom_13 : decode prog_4_method_2_code 13 = .ok (.aload_n 0, 1) := by decide +kernel
theorem d_PE_takeFrom_14 : decode prog_4_method_2_code 14 = .ok (.iconst 0, 1) := by decide +kernel
theorem d_PE_takeFrom_15 : decode prog_4_method_2_code 15 = .ok (.putfield 40, 3) := by decide +kernel
theorem d_PE_takeFrom_18 : decode prog_4_method_2_code 18 = .ok (.iconst 0, 1) := by decide +kernel
theorem d_PE_takeFrom_19 : decode prog_4_method_2_code 19 = .ok (.istore_n 2, 1) := by decide +kernel
theorem d_PE_takeFrom_20 : decode prog_4_method_2_code 20 = .ok (.iload_n 2, 1) := by decide +kernel
theorem d_PE_takeFrom_21 : decode prog_4_method_2_code 21 = .ok (.aload_n 0, 1) := by decide +kernel
theorem d_PE_takeFrom_22 : decode prog_4_method_2_code 22 = .ok (.getfield 34, 3) := by decide +kernel
theorem d_PE_takeFrom_25 : decode prog_4_method_2_code 25 = .ok (.if_icmp .ge 59, 3) := by decide +kernel
theorem d_PE_takeFrom_28 : decode prog_4_method_2_code 28 = .ok (.aload_n 0, 1) := by decide +kernel
theorem d_PE_takeFrom_29 : decode prog_4_method_2_code 29 = .ok (.getfield 9, 3) := by decide +kernel
theorem d_PE_takeFrom_32 : decode prog_4_method_2_code 32 = .ok (.iload_n 2, 1) := by decide +kernel
theorem d_PE_takeFrom_33 : decode prog_4_method_2_code 33 = .ok (.aload_n 1, 1) := by decide +kernel
theorem d_PE_takeFrom_34 : decode prog_4_method_2_code 34 = .ok (.iload_n 2, 1) := by decide +kernel
theorem d_PE_takeFrom_35 : decode prog_4_method_2_code 35 = .ok (.iconst 0, 1) := by decide +kernel
theorem d_PE_takeFrom_36 : decode prog_4_method_2_code 36 = .ok (.invokevirtual 43, 3) := by decide +kernel
theorem d_PE_takeFrom_39 : decode prog_4_method_2_code 39 = .ok (.iastore, 1) := by decide +kernel
theorem d_PE_takeFrom_40 : decode prog_4_method_2_code 40 = .ok (.aload_n 0, 1) := by decide +kernel
theorem d_PE_takeFrom_41 : decode prog_4_method_2_code 41 = .ok (.getfield 15, 3) := by decide +kernel
theorem d_PE_takeFrom_44 : decode prog_4_method_2_code 44 = .ok (.iload_n 2, 1) := by decide +kernel
theorem d_PE_takeFrom_45 : decode prog_4_method_2_code 45 = .ok (.aload_n 1, 1) := by decide +kernel
theorem d_PE_takeFrom_46 : decode prog_4_method_2_code 46 = .ok (.iload_n 2, 1) := by decide +kernel
theorem d_PE_takeFrom_47 : decode prog_4_method_2_code 47 = .ok (.iconst 1, 1) := by decide +kernel
theorem d_PE_takeFrom_48 : decode prog_4_method_2_code 48 = .ok (.invokevirtual 43, 3) := by decide +kernel
theorem d_PE_takeFrom_51 : decode prog_4_method_2_code 51 = .ok (.iastore, 1) := by decide +kernel
theorem d_PE_takeFrom_52 : decode prog_4_method_2_code 52 = .ok (.aload_n 0, 1) := by decide +kernel
theorem d_PE_takeFrom_53 : decode prog_4_method_2_code 53 = .ok (.getfield 18, 3) := by decide +kernel
theorem d_PE_takeFrom_56 : decode prog_4_method_2_code 56 = .ok (.iload_n 2, 1) := by decide +kernel
theorem d_PE_takeFrom_57 : decode prog_4_method_2_code 57 = .ok (.aload_n 1, 1) := by decide +kernel
theorem d_PE_takeFrom_58 : decode prog_4_method_2_code 58 = .ok (.iload_n 2, 1) := by decide +kernel
theorem d_PE_takeFrom_59 : decode prog_4_method_2_code 59 = .ok (.iconst 2, 1) := by decide +kernel
theorem d_PE_takeFrom_60 : decode prog_4_method_2_code 60 = .ok (.invokevirtual 43, 3) := by decide +kernel
theorem d_PE_takeFrom_63 : decode prog_4_method_2_code 63 = .ok (.iastore, 1) := by decide +kernel
theorem d_PE_takeFrom_64 : decode prog_4_method_2_code 64 = .ok (.aload_n 0, 1) := by decide +kernel
theorem d_PE_takeFrom_65 : decode prog_4_method_2_code 65 = .ok (.getfield 21, 3) := by decide +kernel
theorem d_PE_takeFrom_68 : decode prog_4_method_2_code 68 = .ok (.iload_n 2, 1) := by decide +kernel
theorem d_PE_takeFrom_69 : decode prog_4_method_2_code 69 = .ok (.iconst 0, 1) := by decide +kernel
theorem d_PE_takeFrom_70 : decode prog_4_method_2_code 70 = .ok (.iastore, 1) := by decide +kernel
theorem d_PE_takeFrom_71 : decode prog_4_method_2_code 71 = .ok (.aload_n 0, 1) := by decide +kernel
theorem d_PE_takeFrom_72 : decode prog_4_method_2_code 72 = .ok (.getfield 24, 3) := by decide +kernel
theorem d_PE_takeFrom_75 : decode prog_4_method_2_code 75 = .ok (.iload_n 2, 1) := by decide +kernel
theorem d_PE_takeFrom_76 : decode prog_4_method_2_code 76 = .ok (.iconst 0, 1) := by decide +kernel
theorem d_PE_takeFrom_77 : decode prog_4_method_2_code 77 = .ok (.bastore, 1) := by decide +kernel
theorem d_PE_takeFrom_78 : decode prog_4_method_2_code 78 = .ok (.iinc 2 1, 3) := by decide +kernel
theorem d_PE_takeFrom_81 : decode prog_4_method_2_code 81 = .ok (.goto (-61), 3) := by decide +kernel
theorem d_PE_takeFrom_84 : decode prog_4_method_2_code 84 = .ok (.return_, 1) := by decide +kernel
theorem d_PE_copyFrom_0 : decode prog_4_method_3_code 0 = .ok (.aload_n 0, 1) := by decide +kernel
theorem d_PE_copyFrom_1 : decode prog_4_method_3_code 1 = .ok (.aload_n 1, 1) := by decide +kernel
theorem d_PE_copyFrom_2 : decode prog_4_method_3_code 2 = .ok (.getfield 34, 3) := by decide +kernel
theorem d_PE_copyFrom_5 : decode prog_4_method_3_code 5 = .ok (.putfield 34, 3) := by decide +kernel
theorem d_PE_copyFrom_8 : decode prog_4_method_3_code 8 = .ok (.aload_n 0, 1) := by decide +kernel
theorem d_PE_copyFrom_9 : decode prog_4_method_3_code 9 = .ok (.aload_n 1, 1) := by decide +kernel
theorem d_PE_copyFrom_10 : decode prog_4_method_3_code 10 = .ok (.getfield 37, 3) := by decide +kernel
theorem d_PE_copyFrom_13 : decode prog_4_method_3_code 13 = .ok (.putfield 37, 3) := by decide +kernel
theorem d_PE_copyFrom_16 : decode prog_4_method_3_code 16 = .ok (.aload_n 0, 1) := by decide +kernel
theorem d_PE_copyFrom_17 : decode prog_4_method_3_code 17 = .ok (.aload_n 1, 1) := by decide +kernel
theorem d_PE_copyFrom_18 : decode prog_4_method_3_code 18 = .ok (.getfield 40, 3) := by decide +kernel
theorem d_PE_copyFrom_21 : decode prog_4_method_3_code 21 = .ok (.putfield 40, 3) := by decide +kernel
theorem d_PE_copyFrom_24 : decode prog_4_method_3_code 24 = .ok (.iconst 0, 1) := by decide +kernel
theorem d_PE_copyFrom_25 : decode prog_4_method_3_code 25 = .ok (.istore_n 2, 1) := by decide +kernel
theorem d_PE_copyFrom_26 : decode prog_4_method_3_code 26 = .ok (.iload_n 2, 1) := by decide +kernel
theorem d_PE_copyFrom_27 : decode prog_4_method_3_code 27 = .ok (.aload_n 0, 1) := by decide +kernel
theorem d_PE_copyFrom_28 : decode prog_4_method_3_code 28 = .ok (.getfield 34, 3) := by decide +kernel
theorem d_PE_copyFrom_31 : decode prog_4_method_3_code 31 = .ok (.if_icmp .ge 69, 3) := by decide +kernel
theorem d_PE_copyFrom_34 : decode prog_4_method_3_code 34 = .ok (.aload_n 0, 1) := by decide +kernel
theorem d_PE_copyFrom_35 : decode prog_4_method_3_code 35 = .ok (.getfield 9, 3) := by decide +kernel
theorem d_PE_copyFrom_38 : decode prog_4_method_3_code 38 = .ok (.iload_n 2, 1) := by decide +kernel
theorem d_PE_copyFrom_39 : decode prog_4_method_3_code 39 = .ok (.aload_n 1, 1) := by decide +kernel
theorem d_PE_copyFrom_40 : decode prog_4_method_3_code 40 = .ok (.getfield 9, 3) := by decide +kernel
theorem d_PE_copyFrom_43 : decode prog_4_method_3_code 43 = .ok (.iload_n 2, 1) := by decide +kernel
theorem d_PE_copyFrom_44 : decode prog_4_method_3_code 44 = .ok (.iaload, 1) := by decide +kernel
theorem d_PE_copyFrom_45 : decode prog_4_method_3_code 45 = .ok (.iastore, 1) := by decide +kernel
theorem d_PE_copyFrom_46 : decode prog_4_method_3_code 46 = .ok (.aload_n 0, 1) := by decide +kernel
theorem d_PE_copyFrom_47 : decode prog_4_method_3_code 47 = .ok (.getfield 15, 3) := by decide +kernel
theorem d_PE_copyFrom_50 : decode prog_4_method_3_code 50 = .ok (.iload_n 2, 1) := by decide +kernel
theorem d_PE_copyFrom_51 : decode prog_4_method_3_code 51 = .ok (.aload_n 1, 1) := by decide +kernel
theorem d_PE_copyFrom_52 : decode prog_4_method_3_code 52 = .ok (.getfield 15, 3) := by decide +kernel
theorem d_PE_copyFrom_55 : decode prog_4_method_3_code 55 = .ok (.iload_n 2, 1) := by decide +kernel
theorem d_PE_copyFrom_56 : decode prog_4_method_3_code 56 = .ok (.iaload, 1) := by decide +kernel
theorem d_PE_copyFrom_57 : decode prog_4_method_3_code 57 = .ok (.iastore, 1) := by decide +kernel
theorem d_PE_copyFrom_58 : decode prog_4_method_3_code 58 = .ok (.aload_n 0, 1) := by decide +kernel
theorem d_PE_copyFrom_59 : decode prog_4_method_3_code 59 = .ok (.getfield 18, 3) := by decide +kernel
theorem d_PE_copyFrom_62 : decode prog_4_method_3_code 62 = .ok (.iload_n 2, 1) := by decide +kernel
theorem d_PE_copyFrom_63 : decode prog_4_method_3_code 63 = .ok (.aload_n 1, 1) := by decide +kernel
theorem d_PE_copyFrom_64 : decode prog_4_method_3_code 64 = .ok (.getfield 18, 3) := by decide +kernel
theorem d_PE_copyFrom_67 : decode prog_4_method_3_code 67 = .ok (.iload_n 2, 1) := by decide +kernel
theorem d_PE_copyFrom_68 : decode prog_4_method_3_code 68 = .ok (.iaload, 1) := by decide +kernel
theorem d_PE_copyFrom_69 : decode prog_4_method_3_code 69 = .ok (.iastore, 1) := by decide +kernel
theorem d_PE_copyFrom_70 : decode prog_4_method_3_code 70 = .ok (.aload_n 0, 1) := by decide +kernel
theorem d_PE_copyFrom_71 : decode prog_4_method_3_code 71 = .ok (.getfield 21, 3) := by decide +kernel
theorem d_PE_copyFrom_74 : decode prog_4_method_3_code 74 = .ok (.iload_n 2, 1) := by decide +kernel
theorem d_PE_copyFrom_75 : decode prog_4_method_3_code 75 = .ok (.aload_n 1, 1) := by decide +kernel
theorem d_PE_copyFrom_76 : decode prog_4_method_3_code 76 = .ok (.getfield 21, 3) := by decide +kernel
theorem d_PE_copyFrom_79 : decode prog_4_method_3_code 79 = .ok (.iload_n 2, 1) := by decide +kernel
theorem d_PE_copyFrom_80 : decode prog_4_method_3_code 80 = .ok (.iaload, 1) := by decide +kernel
theorem d_PE_copyFrom_81 : decode prog_4_method_3_code 81 = .ok (.iastore, 1) := by decide +kernel
theorem d_PE_copyFrom_82 : decode prog_4_method_3_code 82 = .ok (.aload_n 0, 1) := by decide +kernel
theorem d_PE_copyFrom_83 : decode prog_4_method_3_code 83 = .ok (.getfield 24, 3) := by decide +kernel
theorem d_PE_copyFrom_86 : decode prog_4_method_3_code 86 = .ok (.iload_n 2, 1) := by decide +kernel
theorem d_PE_copyFrom_87 : decode prog_4_method_3_code 87 = .ok (.aload_n 1, 1) := by decide +kernel
theorem d_PE_copyFrom_88 : decode prog_4_method_3_code 88 = .ok (.getfield 24, 3) := by decide +kernel
theorem d_PE_copyFrom_91 : decode prog_4_method_3_code 91 = .ok (.iload_n 2, 1) := by decide +kernel
theorem d_PE_copyFrom_92 : decode prog_4_method_3_code 92 = .ok (.baload, 1) := by decide +kernel
theorem d_PE_copyFrom_93 : decode prog_4_method_3_code 93 = .ok (.bastore, 1) := by decide +kernel
theorem d_PE_copyFrom_94 : decode prog_4_method_3_code 94 = .ok (.iinc 2 1, 3) := by decide +kernel
theorem d_PE_copyFrom_97 : decode prog_4_method_3_code 97 = .ok (.goto (-71), 3) := by decide +kernel
theorem d_PE_copyFrom_100 : decode prog_4_method_3_code 100 = .ok (.return_, 1) := by decide +kernel
theorem d_PE_has_0 : decode prog_4_method_4_code 0 = .ok (.iload_n 1, 1) := by decide +kernel
theorem d_PE_has_1 : decode prog_4_method_4_code 1 = .ok (.ifCond .lt 15, 3) := by decide +kernel
theorem d_PE_has_4 : decode prog_4_method_4_code 4 = .ok (.iload_n 1, 1) := by decide +kernel
theorem d_PE_has_5 : decode prog_4_method_4_code 5 = .ok (.aload_n 0, 1) := by decide +kernel
theorem d_PE_has_6 : decode prog_4_method_4_code 6 = .ok (.getfield 34, 3) := by decide +kernel
theorem d_PE_has_9 : decode prog_4_method_4_code 9 = .ok (.if_icmp .ge 7, 3) := by decide +kernel
theorem d_PE_has_12 : decode prog_4_method_4_code 12 = .ok (.iconst 1, 1) := by decide +kernel
theorem d_PE_has_13 : decode prog_4_method_4_code 13 = .ok (.goto 4, 3) := by decide +kernel
theorem d_PE_has_16 : decode prog_4_method_4_code 16 = .ok (.iconst 0, 1) := by decide +kernel
theorem d_PE_has_17 : decode prog_4_method_4_code 17 = .ok (.ireturn, 1) := by decide +kernel
theorem d_PE_givenAt_0 : decode prog_4_method_5_code 0 = .ok (.iload_n 2, 1) := by decide +kernel
theorem d_PE_givenAt_1 : decode prog_4_method_5_code 1 = .ok (.aload_n 0, 1) := by decide +kernel
theorem d_PE_givenAt_2 : decode prog_4_method_5_code 2 = .ok (.getfield 21, 3) := by decide +kernel
theorem d_PE_givenAt_5 : decode prog_4_method_5_code 5 = .ok (.iload_n 1, 1) := by decide +kernel
theorem d_PE_givenAt_6 : decode prog_4_method_5_code 6 = .ok (.iaload, 1) := by decide +kernel
theorem d_PE_givenAt_7 : decode prog_4_method_5_code 7 = .ok (.iadd, 1) := by decide +kernel
theorem d_PE_givenAt_8 : decode prog_4_method_5_code 8 = .ok (.aload_n 0, 1) := by decide +kernel
theorem d_PE_givenAt_9 : decode prog_4_method_5_code 9 = .ok (.getfield 9, 3) := by decide +kernel
theorem d_PE_givenAt_12 : decode prog_4_method_5_code 12 = .ok (.iload_n 1, 1) := by decide +kernel
theorem d_PE_givenAt_13 : decode prog_4_method_5_code 13 = .ok (.iaload, 1) := by decide +kernel
theorem d_PE_givenAt_14 : decode prog_4_method_5_code 14 = .ok (.iconst 1, 1) := by decide +kernel
theorem d_PE_givenAt_15 : decode prog_4_method_5_code 15 = .ok (.iadd, 1) := by decide +kernel
theorem d_PE_givenAt_16 : decode prog_4_method_5_code 16 = .ok (.irem, 1) := by decide +kernel
theorem d_PE_givenAt_17 : decode prog_4_method_5_code 17 = .ok (.aload_n 0, 1) := by decide +kernel
theorem d_PE_givenAt_18 : decode prog_4_method_5_code 18 = .ok (.getfield 9, 3) := by decide +kernel
theorem d_PE_givenAt_21 : decode prog_4_method_5_code 21 = .ok (.iload_n 1, 1) := by decide +kernel
theorem d_PE_givenAt_22 : decode prog_4_method_5_code 22 = .ok (.iaload, 1) := by decide +kernel
theorem d_PE_givenAt_23 : decode prog_4_method_5_code 23 = .ok (.if_icmp .ne 7, 3) := by decide +kernel
theorem d_PE_givenAt_26 : decode prog_4_method_5_code 26 = .ok (.iconst 1, 1) := by decide +kernel
theorem d_PE_givenAt_27 : decode prog_4_method_5_code 27 = .ok (.goto 4, 3) := by decide +kernel
theorem d_PE_givenAt_30 : decode prog_4_method_5_code 30 = .ok (.iconst 0, 1) := by decide +kernel
theorem d_PE_givenAt_31 : decode prog_4_method_5_code 31 = .ok (.istore_n 3, 1) := by decide +kernel
theorem d_PE_givenAt_32 : decode prog_4_method_5_code 32 = .ok (.iload_n 3, 1) := by decide +kernel
theorem d_PE_givenAt_33 : decode prog_4_method_5_code 33 = .ok (.ifCond .eq 16, 3) := by decide +kernel
theorem d_PE_givenAt_36 : decode prog_4_method_5_code 36 = .ok (.aload_n 0, 1) := by decide +kernel
theorem d_PE_givenAt_37 : decode prog_4_method_5_code 37 = .ok (.getfield 24, 3) := by decide +kernel
theorem d_PE_givenAt_40 : decode prog_4_method_5_code 40 = .ok (.iload_n 1, 1) := by decide +kernel
theorem d_PE_givenAt_41 : decode prog_4_method_5_code 41 = .ok (.baload, 1) := by decide +kernel
theorem d_PE_givenAt_42 : decode prog_4_method_5_code 42 = .ok (.ifCond .ne 7, 3) := by decide +kernel
theorem d_PE_givenAt_45 : decode prog_4_method_5_code 45 = .ok (.iconst 0, 1) := by decide +kernel
theorem d_PE_givenAt_46 : decode prog_4_method_5_code 46 = .ok (.goto 9, 3) := by decide +kernel
theorem d_PE_givenAt_49 : decode prog_4_method_5_code 49 = .ok (.aload_n 0, 1) := by decide +kernel
theorem d_PE_givenAt_50 : decode prog_4_method_5_code 50 = .ok (.getfield 15, 3) := by decide +kernel
theorem d_PE_givenAt_53 : decode prog_4_method_5_code 53 = .ok (.iload_n 1, 1) := by decide +kernel
theorem d_PE_givenAt_54 : decode prog_4_method_5_code 54 = .ok (.iaload, 1) := by decide +kernel
theorem d_PE_givenAt_55 : decode prog_4_method_5_code 55 = .ok (.ireturn, 1) := by decide +kernel
theorem d_PE_sittingAt_0 : decode prog_4_method_6_code 0 = .ok (.iconst 0, 1) := by decide +kernel
theorem d_PE_sittingAt_1 : decode prog_4_method_6_code 1 = .ok (.istore_n 2, 1) := by decide +kernel
theorem d_PE_sittingAt_2 : decode prog_4_method_6_code 2 = .ok (.iconst 0, 1) := by decide +kernel
theorem d_PE_sittingAt_3 : decode prog_4_method_6_code 3 = .ok (.istore_n 3, 1) := by decide +kernel
theorem d_PE_sittingAt_4 : decode prog_4_method_6_code 4 = .ok (.iload_n 3, 1) := by decide +kernel
theorem d_PE_sittingAt_5 : decode prog_4_method_6_code 5 = .ok (.aload_n 0, 1) := by decide +kernel
theorem d_PE_sittingAt_6 : decode prog_4_method_6_code 6 = .ok (.getfield 34, 3) := by decide +kernel
theorem d_PE_sittingAt_9 : decode prog_4_method_6_code 9 = .ok (.if_icmp .ge 25, 3) := by decide +kernel
theorem d_PE_sittingAt_12 : decode prog_4_method_6_code 12 = .ok (.aload_n 0, 1) := by decide +kernel
theorem d_PE_sittingAt_13 : decode prog_4_method_6_code 13 = .ok (.getfield 18, 3) := by decide +kernel
theorem d_PE_sittingAt_16 : decode prog_4_method_6_code 16 = .ok (.iload_n 3, 1) := by decide +kernel
theorem d_PE_sittingAt_17 : decode prog_4_method_6_code 17 = .ok (.iaload, 1) := by decide +kernel
theorem d_PE_sittingAt_18 : decode prog_4_method_6_code 18 = .ok (.iload_n 1, 1) := by decide +kernel
theorem d_PE_sittingAt_19 : decode prog_4_method_6_code 19 = .ok (.if_icmp .ne 9, 3) := by decide +kernel
theorem d_PE_sittingAt_22 : decode prog_4_method_6_code 22 = .ok (.iload_n 2, 1) := by decide +kernel
theorem d_PE_sittingAt_23 : decode prog_4_method_6_code 23 = .ok (.iconst 1, 1) := by decide +kernel
theorem d_PE_sittingAt_24 : decode prog_4_method_6_code 24 = .ok (.iload_n 3, 1) := by decide +kernel
theorem d_PE_sittingAt_25 : decode prog_4_method_6_code 25 = .ok (.ishl, 1) := by decide +kernel
theorem d_PE_sittingAt_26 : decode prog_4_method_6_code 26 = .ok (.ior, 1) := by decide +kernel
theorem d_PE_sittingAt_27 : decode prog_4_method_6_code 27 = .ok (.istore_n 2, 1) := by decide +kernel
theorem d_PE_sittingAt_28 : decode prog_4_method_6_code 28 = .ok (.iinc 3 1, 3) := by decide +kernel
theorem d_PE_sittingAt_31 : decode prog_4_method_6_code 31 = .ok (.goto (-27), 3) := by decide +kernel
theorem d_PE_sittingAt_34 : decode prog_4_method_6_code 34 = .ok (.iload_n 2, 1) := by decide +kernel
theorem d_PE_sittingAt_35 : decode prog_4_method_6_code 35 = .ok (.ireturn, 1) := by decide +kernel
theorem d_PE_forceOf_0 : decode prog_4_method_7_code 0 = .ok (.iconst 0, 1) := by decide +kernel
theorem d_PE_forceOf_1 : decode prog_4_method_7_code 1 = .ok (.istore_n 2, 1) := by decide +kernel
theorem d_PE_forceOf_2 : decode prog_4_method_7_code 2 = .ok (.iconst 0, 1) := by decide +kernel
theorem d_PE_forceOf_3 : decode prog_4_method_7_code 3 = .ok (.istore_n 3, 1) := by decide +kernel
theorem d_PE_forceOf_4 : decode prog_4_method_7_code 4 = .ok (.iload_n 3, 1) := by decide +kernel
theorem d_PE_forceOf_5 : decode prog_4_method_7_code 5 = .ok (.aload_n 0, 1) := by decide +kernel
theorem d_PE_forceOf_6 : decode prog_4_method_7_code 6 = .ok (.getfield 34, 3) := by decide +kernel
theorem d_PE_forceOf_9 : decode prog_4_method_7_code 9 = .ok (.if_icmp .ge 27, 3) := by decide +kernel
theorem d_PE_forceOf_12 : decode prog_4_method_7_code 12 = .ok (.iload_n 1, 1) := by decide +kernel
theorem d_PE_forceOf_13 : decode prog_4_method_7_code 13 = .ok (.iload_n 3, 1) := by decide +kernel
theorem d_PE_forceOf_14 : decode prog_4_method_7_code 14 = .ok (.ishr, 1) := by decide +kernel
theorem d_PE_forceOf_15 : decode prog_4_method_7_code 15 = .ok (.iconst 1, 1) := by decide +kernel
theorem d_PE_forceOf_16 : decode prog_4_method_7_code 16 = .ok (.iand, 1) := by decide +kernel
theorem d_PE_forceOf_17 : decode prog_4_method_7_code 17 = .ok (.iconst 1, 1) := by decide +kernel
theorem d_PE_forceOf_18 : decode prog_4_method_7_code 18 = .ok (.if_icmp .ne 12, 3) := by decide +kernel
theorem d_PE_forceOf_21 : decode prog_4_method_7_code 21 = .ok (.iload_n 2, 1) := by decide +kernel
theorem d_PE_forceOf_22 : decode prog_4_method_7_code 22 = .ok (.aload_n 0, 1) := by decide +kernel
theorem d_PE_forceOf_23 : decode prog_4_method_7_code 23 = .ok (.getfield 15, 3) := by decide +kernel
theorem d_PE_forceOf_26 : decode prog_4_method_7_code 26 = .ok (.iload_n 3, 1) := by decide +kernel
theorem d_PE_forceOf_27 : decode prog_4_method_7_code 27 = .ok (.iaload, 1) := by decide +kernel
theorem d_PE_forceOf_28 : decode prog_4_method_7_code 28 = .ok (.iadd, 1) := by decide +kernel
theorem d_PE_forceOf_29 : decode prog_4_method_7_code 29 = .ok (.istore_n 2, 1) := by decide +kernel
theorem d_PE_forceOf_30 : decode prog_4_method_7_code 30 = .ok (.iinc 3 1, 3) := by decide +kernel
theorem d_PE_forceOf_33 : decode prog_4_method_7_code 33 = .ok (.goto (-29), 3) := by decide +kernel
theorem d_PE_forceOf_36 : decode prog_4_method_7_code 36 = .ok (.iload_n 2, 1) := by decide +kernel
theorem d_PE_forceOf_37 : decode prog_4_method_7_code 37 = .ok (.ireturn, 1) := by decide +kernel
theorem d_PE_bribedOnes_0 : decode prog_4_method_8_code 0 = .ok (.iconst 0, 1) := by decide +kernel
theorem d_PE_bribedOnes_1 : decode prog_4_method_8_code 1 = .ok (.istore_n 1, 1) := by decide +kernel
theorem d_PE_bribedOnes_2 : decode prog_4_method_8_code 2 = .ok (.iconst 0, 1) := by decide +kernel
theorem d_PE_bribedOnes_3 : decode prog_4_method_8_code 3 = .ok (.istore_n 2, 1) := by decide +kernel
theorem d_PE_bribedOnes_4 : decode prog_4_method_8_code 4 = .ok (.iload_n 2, 1) := by decide +kernel
theorem d_PE_bribedOnes_5 : decode prog_4_method_8_code 5 = .ok (.aload_n 0, 1) := by decide +kernel
theorem d_PE_bribedOnes_6 : decode prog_4_method_8_code 6 = .ok (.getfield 34, 3) := by decide +kernel
theorem d_PE_bribedOnes_9 : decode prog_4_method_8_code 9 = .ok (.if_icmp .ge 21, 3) := by decide +kernel
theorem d_PE_bribedOnes_12 : decode prog_4_method_8_code 12 = .ok (.aload_n 0, 1) := by decide +kernel
theorem d_PE_bribedOnes_13 : decode prog_4_method_8_code 13 = .ok (.getfield 24, 3) := by decide +kernel
theorem d_PE_bribedOnes_16 : decode prog_4_method_8_code 16 = .ok (.iload_n 2, 1) := by decide +kernel
theorem d_PE_bribedOnes_17 : decode prog_4_method_8_code 17 = .ok (.baload, 1) := by decide +kernel
theorem d_PE_bribedOnes_18 : decode prog_4_method_8_code 18 = .ok (.ifCond .eq 6, 3) := by decide +kernel
theorem d_PE_bribedOnes_21 : decode prog_4_method_8_code 21 = .ok (.iinc 1 1, 3) := by decide +kernel
theorem d_PE_bribedOnes_24 : decode prog_4_method_8_code 24 = .ok (.iinc 2 1, 3) := by decide +kernel
theorem d_PE_bribedOnes_27 : decode prog_4_method_8_code 27 = .ok (.goto (-23), 3) := by decide +kernel
theorem d_PE_bribedOnes_30 : decode prog_4_method_8_code 30 = .ok (.iload_n 1, 1) := by decide +kernel
theorem d_PE_bribedOnes_31 : decode prog_4_method_8_code 31 = .ok (.ireturn, 1) := by decide +kernel
theorem d_PH_init_0 : decode prog_5_method_1_code 0 = .ok (.aload_n 0, 1) := by decide +kernel
theorem d_PH_init_1 : decode prog_5_method_1_code 1 = .ok (.invokespecial 3, 3) := by decide +kernel
theorem d_PH_init_4 : decode prog_5_method_1_code 4 = .ok (.aload_n 0, 1) := by decide +kernel
theorem d_PH_init_5 : decode prog_5_method_1_code 5 = .ok (.aload_n 1, 1) := by decide +kernel
theorem d_PH_init_6 : decode prog_5_method_1_code 6 = .ok (.putfield 9, 3) := by decide +kernel
theorem d_PH_init_9 : decode prog_5_method_1_code 9 = .ok (.aload_n 0, 1) := by decide +kernel
theorem d_PH_init_10 : decode prog_5_method_1_code 10 = .ok (.aload_n 2, 1) := by decide +kernel
theorem d_PH_init_11 : decode prog_5_method_1_code 11 = .ok (.putfield 15, 3) := by decide +kernel
theorem d_PH_init_14 : decode prog_5_method_1_code 14 = .ok (.aload_n 0, 1) := by decide +kernel
theorem d_PH_init_15 : decode prog_5_method_1_code 15 = .ok (.iconst 4, 1) := by decide +kernel
theorem d_PH_init_16 : decode prog_5_method_1_code 16 = .ok (.newarray .int, 2) := by decide +kernel
theorem d_PH_init_18 : decode prog_5_method_1_code 18 = .ok (.putfield 19, 3) := by decide +kernel
theorem d_PH_init_21 : decode prog_5_method_1_code 21 = .ok (.aload_n 0, 1) := by decide +kernel
theorem d_PH_init_22 : decode prog_5_method_1_code 22 = .ok (.iconst 4, 1) := by decide +kernel
theorem d_PH_init_23 : decode prog_5_method_1_code 23 = .ok (.newarray .int, 2) := by decide +kernel
theorem d_PH_init_25 : decode prog_5_method_1_code 25 = .ok (.putfield 23, 3) := by decide +kernel
theorem d_PH_init_28 : decode prog_5_method_1_code 28 = .ok (.aload_n 0, 1) := by decide +kernel
theorem d_PH_init_29 : decode prog_5_method_1_code 29 = .ok (.iconst 4, 1) := by decide +kernel
theorem d_PH_init_30 : decode prog_5_method_1_code 30 = .ok (.newarray .int, 2) := by decide +kernel
theorem d_PH_init_32 : decode prog_5_method_1_code 32 = .ok (.putfield 26, 3) := by decide +kernel
theorem d_PH_init_35 : decode prog_5_method_1_code 35 = .ok (.aload_n 0, 1) := by decide +kernel
theorem d_PH_init_36 : decode prog_5_method_1_code 36 = .ok (.iconst 5, 1) := by decide +kernel
theorem d_PH_init_37 : decode prog_5_method_1_code 37 = .ok (.newarray .int, 2) := by decide +kernel
theorem d_PH_init_39 : decode prog_5_method_1_code 39 = .ok (.putfield 29, 3) := by decide +kernel
theorem d_PH_init_42 : decode prog_5_method_1_code 42 = .ok (.return_, 1) := by decide +kernel
theorem d_PH_find_0 : decode prog_5_method_2_code 0 = .ok (.aload_n 0, 1) := by decide +kernel
theorem d_PH_find_1 : decode prog_5_method_2_code 1 = .ok (.getfield 9, 3) := by decide +kernel
theorem d_PH_find_4 : decode prog_5_method_2_code 4 = .ok (.iload_n 1, 1) := by decide +kernel
theorem d_PH_find_5 : decode prog_5_method_2_code 5 = .ok (.invokevirtual 32, 3) := by decide +kernel
theorem d_PH_find_8 : decode prog_5_method_2_code 8 = .ok (.istore_n 2, 1) := by decide +kernel
theorem d_PH_find_9 : decode prog_5_method_2_code 9 = .ok (.iload_n 2, 1) := by decide +kernel
theorem d_PH_find_10 : decode prog_5_method_2_code 10 = .ok (.invokestatic 38, 3) := by decide +kernel
theorem d_PH_find_13 : decode prog_5_method_2_code 13 = .ok (.iconst 4, 1) := by decide +kernel
theorem d_PH_find_14 : decode prog_5_method_2_code 14 = .ok (.if_icmp .le 5, 3) := by decide +kernel
theorem d_PH_find_17 : decode prog_5_method_2_code 17 = .ok (.iconst 0, 1) := by decide +kernel
theorem d_PH_find_18 : decode prog_5_method_2_code 18 = .ok (.ireturn, 1) := by decide +kernel
theorem d_PH_find_19 : decode prog_5_method_2_code 19 = .ok (.aload_n 0, 1) := by decide +kernel
theorem d_PH_find_20 : decode prog_5_method_2_code 20 = .ok (.iload_n 1, 1) := by decide +kernel
theorem d_PH_find_21 : decode prog_5_method_2_code 21 = .ok (.putfield 43, 3) := by decide +kernel
theorem d_PH_find_24 : decode prog_5_method_2_code 24 = .ok (.aload_n 0, 1) := by decide +kernel
theorem d_PH_find_25 : decode prog_5_method_2_code 25 = .ok (.iload_n 2, 1) := by decide +kernel
theorem d_PH_find_26 : decode prog_5_method_2_code 26 = .ok (.invokevirtual 47, 3) := by decide +kernel
theorem d_PH_find_29 : decode prog_5_method_2_code 29 = .ok (.aload_n 0, 1) := by decide +kernel
theorem d_PH_find_30 : decode prog_5_method_2_code 30 = .ok (.getfield 15, 3) := by decide +kernel
theorem d_PH_find_33 : decode prog_5_method_2_code 33 = .ok (.aload_n 0, 1) := by decide +kernel
theorem d_PH_find_34 : decode prog_5_method_2_code 34 = .ok (.getfield 9, 3) := by decide +kernel
theorem d_PH_find_37 : decode prog_5_method_2_code 37 = .ok (.iload_n 2, 1) := by decide +kernel
theorem d_PH_find_38 : decode prog_5_method_2_code 38 = .ok (.invokevirtual 51, 3) := by decide +kernel
theorem d_PH_find_41 : decode prog_5_method_2_code 41 = .ok (.invokevirtual 54, 3) := by decide +kernel
theorem d_PH_find_44 : decode prog_5_method_2_code 44 = .ok (.aload_n 0, 1) := by decide +kernel
theorem d_PH_find_45 : decode prog_5_method_2_code 45 = .ok (.invokevirtual 59, 3) := by decide +kernel
theorem d_PH_find_48 : decode prog_5_method_2_code 48 = .ok (.aload_n 0, 1) := by decide +kernel
theorem d_PH_find_49 : decode prog_5_method_2_code 49 = .ok (.ldc 62, 2) := by decide +kernel
theorem d_PH_find_51 : decode prog_5_method_2_code 51 = .ok (.putfield 63, 3) := by decide +kernel
theorem d_PH_find_54 : decode prog_5_method_2_code 54 = .ok (.aload_n 0, 1) := by decide +kernel
theorem d_PH_find_55 : decode prog_5_method_2_code 55 = .ok (.iconst 0, 1) := by decide +kernel
theorem d_PH_find_56 : decode prog_5_method_2_code 56 = .ok (.invokestatic 66, 3) := by decide +kernel
theorem d_PH_find_59 : decode prog_5_method_2_code 59 = .ok (.iconst 1, 1) := by decide +kernel
theorem d_PH_find_60 : decode prog_5_method_2_code 60 = .ok (.ireturn, 1) := by decide +kernel
theorem d_PH_list_0 : decode prog_5_method_3_code 0 = .ok (.aload_n 0, 1) := by decide +kernel
theorem d_PH_list_1 : decode prog_5_method_3_code 1 = .ok (.iconst 0, 1) := by decide +kernel
theorem d_PH_list_2 : decode prog_5_method_3_code 2 = .ok (.putfield 70, 3) := by decide +kernel
theorem d_PH_list_5 : decode prog_5_method_3_code 5 = .ok (.iconst 0, 1) := by decide +kernel
theorem d_PH_list_6 : decode prog_5_method_3_code 6 = .ok (.istore_n 2, 1) := by decide +kernel
theorem d_PH_list_7 : decode prog_5_method_3_code 7 = .ok (.iload_n 2, 1) := by decide +kernel
theorem d_PH_list_8 : decode prog_5_method_3_code 8 = .ok (.aload_n 0, 1) := by decide +kernel
theorem d_PH_list_9 : decode prog_5_method_3_code 9 = .ok (.getfield 9, 3) := by decide +kernel
theorem d_PH_list_12 : decode prog_5_method_3_code 12 = .ok (.getfield 73, 3) := by decide +kernel
theorem d_PH_list_15 : decode prog_5_method_3_code 15 = .ok (.if_icmp .ge 46, 3) := by decide +kernel
theorem d_PH_list_18 : decode prog_5_method_3_code 18 = .ok (.aload_n 0, 1) := by decide +kernel
theorem d_PH_list_19 : decode prog_5_method_3_code 19 = .ok (.getfield 70, 3) := by decide +kernel
theorem d_PH_list_22 : decode prog_5_method_3_code 22 = .ok (.iconst 4, 1) := by decide +kernel
theorem d_PH_list_23 : decode prog_5_method_3_code 23 = .ok (.if_icmp .ge 38, 3) := by decide +kernel
theorem d_PH_list_26 : decode prog_5_method_3_code 26 = .ok (.iload_n 1, 1) := by decide +kernel
theorem d_PH_list_27 : decode prog_5_method_3_code 27 = .ok (.iload_n 2, 1) := by decide +kernel
theorem d_PH_list_28 : decode prog_5_method_3_code 28 = .ok (.ishr, 1) := by decide +kernel
theorem d_PH_list_29 : decode prog_5_method_3_code 29 = .ok (.iconst 1, 1) := by decide +kernel
theorem d_PH_list_30 : decode prog_5_method_3_code 30 = .ok (.iand, 1) := by decide +kernel
theorem d_PH_list_31 : decode prog_5_method_3_code 31 = .ok (.iconst 1, 1) := by decide +kernel
theorem d_PH_list_32 : decode prog_5_method_3_code 32 = .ok (.if_icmp .ne 23, 3) := by decide +kernel
theorem d_PH_list_35 : decode prog_5_method_3_code 35 = .ok (.aload_n 0, 1) := by decide +kernel
theorem d_PH_list_36 : decode prog_5_method_3_code 36 = .ok (.getfield 19, 3) := by decide +kernel
theorem d_PH_list_39 : decode prog_5_method_3_code 39 = .ok (.aload_n 0, 1) := by decide +kernel
theorem d_PH_list_40 : decode prog_5_method_3_code 40 = .ok (.getfield 70, 3) := by decide +kernel
theorem d_PH_list_43 : decode prog_5_method_3_code 43 = .ok (.iload_n 2, 1) := by decide +kernel
theorem d_PH_list_44 : decode prog_5_method_3_code 44 = .ok (.iastore, 1) := by decide +kernel
theorem d_PH_list_45 : decode prog_5_method_3_code 45 = .ok (.aload_n 0, 1) := by decide +kernel
theorem d_PH_list_46 : decode prog_5_method_3_code 46 = .ok (.dup, 1) := by decide +kernel
theorem d_PH_list_47 : decode prog_5_method_3_code 47 = .ok (.getfield 70, 3) := by decide +kernel
theorem d_PH_list_50 : decode prog_5_method_3_code 50 = .ok (.iconst 1, 1) := by decide +kernel
theorem d_PH_list_51 : decode prog_5_method_3_code 51 = .ok (.iadd, 1) := by decide +kernel
theorem d_PH_list_52 : decode prog_5_method_3_code 52 = .ok (.putfield 70, 3) := by decide +kernel
theorem d_PH_list_55 : decode prog_5_method_3_code 55 = .ok (.iinc 2 1, 3) := by decide +kernel
theorem d_PH_list_58 : decode prog_5_method_3_code 58 = .ok (.goto (-51), 3) := by decide +kernel
theorem d_PH_list_61 : decode prog_5_method_3_code 61 = .ok (.return_, 1) := by decide +kernel
theorem d_PH_foresee_0 : decode prog_5_method_4_code 0 = .ok (.aload_n 0, 1) := by decide +kernel
theorem d_PH_foresee_1 : decode prog_5_method_4_code 1 = .ok (.getfield 15, 3) := by decide +kernel
theorem d_PH_foresee_4 : decode prog_5_method_4_code 4 = .ok (.aload_n 0, 1) := by decide +kernel
theorem d_PH_foresee_5 : decode prog_5_method_4_code 5 = .ok (.getfield 43, 3) := by decide +kernel
theorem d_PH_foresee_8 : decode prog_5_method_4_code 8 = .ok (.invokevirtual 76, 3) := by decide +kernel
theorem d_PH_foresee_11 : decode prog_5_method_4_code 11 = .ok (.istore_n 1, 1) := by decide +kernel
theorem d_PH_foresee_12 : decode prog_5_method_4_code 12 = .ok (.aload_n 0, 1) := by decide +kernel
theorem d_PH_foresee_13 : decode prog_5_method_4_code 13 = .ok (.getfield 29, 3) := by decide +kernel
theorem d_PH_foresee_16 : decode prog_5_method_4_code 16 = .ok (.aload_n 0, 1) := by decide +kernel
theorem d_PH_foresee_17 : decode prog_5_method_4_code 17 = .ok (.getfield 70, 3) := by decide +kernel
theorem d_PH_foresee_20 : decode prog_5_method_4_code 20 = .ok (.iconst 0, 1) := by decide +kernel
theorem d_PH_foresee_21 : decode prog_5_method_4_code 21 = .ok (.iastore, 1) := by decide +kernel
theorem d_PH_foresee_22 : decode prog_5_method_4_code 22 = .ok (.aload_n 0, 1) := by decide +kernel
theorem d_PH_foresee_23 : decode prog_5_method_4_code 23 = .ok (.getfield 70, 3) := by decide +kernel
theorem d_PH_foresee_26 : decode prog_5_method_4_code 26 = .ok (.iconst 1, 1) := by decide +kernel
theorem d_PH_foresee_27 : decode prog_5_method_4_code 27 = .ok (.isub, 1) := by decide +kernel
theorem d_PH_foresee_28 : decode prog_5_method_4_code 28 = .ok (.istore_n 2, 1) := by decide +kernel
theorem d_PH_foresee_29 : decode prog_5_method_4_code 29 = .ok (.iload_n 2, 1) := by decide +kernel
theorem d_PH_foresee_30 : decode prog_5_method_4_code 30 = .ok (.ifCond .lt 36, 3) := by decide +kernel
theorem d_PH_foresee_33 : decode prog_5_method_4_code 33 = .ok (.aload_n 0, 1) := by decide +kernel
theorem d_PH_foresee_34 : decode prog_5_method_4_code 34 = .ok (.getfield 29, 3) := by decide +kernel
theorem d_PH_foresee_37 : decode prog_5_method_4_code 37 = .ok (.iload_n 2, 1) := by decide +kernel
theorem d_PH_foresee_38 : decode prog_5_method_4_code 38 = .ok (.aload_n 0, 1) := by decide +kernel
theorem d_PH_foresee_39 : decode prog_5_method_4_code 39 = .ok (.getfield 29, 3) := by decide +kernel
theorem d_PH_foresee_42 : decode prog_5_method_4_code 42 = .ok (.iload_n 2, 1) := by decide +kernel
theorem d_PH_foresee_43 : decode prog_5_method_4_code 43 = .ok (.iconst 1, 1) := by decide +kernel
theorem d_PH_foresee_44 : decode prog_5_method_4_code 44 = .ok (.iadd, 1) := by decide +kernel
theorem d_PH_foresee_45 : decode prog_5_method_4_code 45 = .ok (.iaload, 1) := by decide +kernel
theorem d_PH_foresee_46 : decode prog_5_method_4_code 46 = .ok (.aload_n 0, 1) := by decide +kernel
theorem d_PH_foresee_47 : decode prog_5_method_4_code 47 = .ok (.aload_n 0, 1) := by decide +kernel
theorem d_PH_foresee_48 : decode prog_5_method_4_code 48 = .ok (.getfield 19, 3) := by decide +kernel
theorem d_PH_foresee_51 : decode prog_5_method_4_code 51 = .ok (.iload_n 2, 1) := by decide +kernel
theorem d_PH_foresee_52 : decode prog_5_method_4_code 52 = .ok (.iaload, 1) := by decide +kernel
theorem d_PH_foresee_53 : decode prog_5_method_4_code 53 = .ok (.invokevirtual 79, 3) := by decide +kernel
theorem d_PH_foresee_56 : decode prog_5_method_4_code 56 = .ok (.iadd, 1) := by decide +kernel
theorem d_PH_foresee_57 : decode prog_5_method_4_code 57 = .ok (.iload_n 1, 1) := by decide +kernel
theorem d_PH_foresee_58 : decode prog_5_method_4_code 58 = .ok (.isub, 1) := by decide +kernel
theorem d_PH_foresee_59 : decode prog_5_method_4_code 59 = .ok (.iastore, 1) := by decide +kernel
theorem d_PH_foresee_60 : decode prog_5_method_4_code 60 = .ok (.iinc 2 (-1), 3) := by decide +kernel
theorem d_PH_foresee_63 : decode prog_5_method_4_code 63 = .ok (.goto (-34), 3) := by decide +kernel
theorem d_PH_foresee_66 : decode prog_5_method_4_code 66 = .ok (.return_, 1) := by decide +kernel
theorem d_PH_leastAlone_0 : decode prog_5_method_5_code 0 = .ok (.ldc 62, 2) := by decide +kernel
theorem d_PH_leastAlone_2 : decode prog_5_method_5_code 2 = .ok (.istore_n 2, 1) := by decide +kernel
theorem d_PH_leastAlone_3 : decode prog_5_method_5_code 3 = .ok (.iconst 0, 1) := by decide +kernel
theorem d_PH_leastAlone_4 : decode prog_5_method_5_code 4 = .ok (.istore_n 3, 1) := by decide +kernel
theorem d_PH_leastAlone_5 : decode prog_5_method_5_code 5 = .ok (.iload_n 3, 1) := by decide +kernel
theorem d_PH_leastAlone_6 : decode prog_5_method_5_code 6 = .ok (.aload_n 0, 1) := by decide +kernel
theorem d_PH_leastAlone_7 : decode prog_5_method_5_code 7 = .ok (.iload_n 1, 1) := by decide +kernel
theorem d_PH_leastAlone_8 : decode prog_5_method_5_code 8 = .ok (.invokevirtual 82, 3) := by decide +kernel
theorem d_PH_leastAlone_11 : decode prog_5_method_5_code 11 = .ok (.if_icmp .gt 54, 3) := by decide +kernel
theorem d_PH_leastAlone_14 : decode prog_5_method_5_code 14 = .ok (.aload_n 0, 1) := by decide +kernel
theorem d_PH_leastAlone_15 : decode prog_5_method_5_code 15 = .ok (.getfield 15, 3) := by decide +kernel
theorem d_PH_leastAlone_18 : decode prog_5_method_5_code 18 = .ok (.iload_n 1, 1) := by decide +kernel
theorem d_PH_leastAlone_19 : decode prog_5_method_5_code 19 = .ok (.iload_n 3, 1) := by decide +kernel
theorem d_PH_leastAlone_20 : decode prog_5_method_5_code 20 = .ok (.aload_n 0, 1) := by decide +kernel
theorem d_PH_leastAlone_21 : decode prog_5_method_5_code 21 = .ok (.iload_n 1, 1) := by decide +kernel
theorem d_PH_leastAlone_22 : decode prog_5_method_5_code 22 = .ok (.invokevirtual 85, 3) := by decide +kernel
theorem d_PH_leastAlone_25 : decode prog_5_method_5_code 25 = .ok (.ineg, 1) := by decide +kernel
theorem d_PH_leastAlone_26 : decode prog_5_method_5_code 26 = .ok (.invokevirtual 88, 3) := by decide +kernel
theorem d_PH_leastAlone_29 : decode prog_5_method_5_code 29 = .ok (.iload_n 2, 1) := by decide +kernel
theorem d_PH_leastAlone_30 : decode prog_5_method_5_code 30 = .ok (.aload_n 0, 1) := by decide +kernel
theorem d_PH_leastAlone_31 : decode prog_5_method_5_code 31 = .ok (.getfield 15, 3) := by decide +kernel
theorem d_PH_leastAlone_34 : decode prog_5_method_5_code 34 = .ok (.aload_n 0, 1) := by decide +kernel
theorem d_PH_leastAlone_35 : decode prog_5_method_5_code 35 = .ok (.getfield 43, 3) := by decide +kernel
theorem d_PH_leastAlone_38 : decode prog_5_method_5_code 38 = .ok (.invokevirtual 76, 3) := by decide +kernel
theorem d_PH_leastAlone_41 : decode prog_5_method_5_code 41 = .ok (.invokestatic 92, 3) := by decide +kernel
theorem d_PH_leastAlone_44 : decode prog_5_method_5_code 44 = .ok (.istore_n 2, 1) := by decide +kernel
theorem d_PH_leastAlone_45 : decode prog_5_method_5_code 45 = .ok (.aload_n 0, 1) := by decide +kernel
theorem d_PH_leastAlone_46 : decode prog_5_method_5_code 46 = .ok (.getfield 15, 3) := by decide +kernel
theorem d_PH_leastAlone_49 : decode prog_5_method_5_code 49 = .ok (.iload_n 1, 1) := by decide +kernel
theorem d_PH_leastAlone_50 : decode prog_5_method_5_code 50 = .ok (.iload_n 3, 1) := by decide +kernel
theorem d_PH_leastAlone_51 : decode prog_5_method_5_code 51 = .ok (.aload_n 0, 1) := by decide +kernel
theorem d_PH_leastAlone_52 : decode prog_5_method_5_code 52 = .ok (.iload_n 1, 1) := by decide +kernel
theorem d_PH_leastAlone_53 : decode prog_5_method_5_code 53 = .ok (.invokevirtual 85, 3) := by decide +kernel
theorem d_PH_leastAlone_56 : decode prog_5_method_5_code 56 = .ok (.invokevirtual 88, 3) := by decide +kernel
theorem d_PH_leastAlone_59 : decode prog_5_method_5_code 59 = .ok (.iinc 3 1, 3) := by decide +kernel
theorem d_PH_leastAlone_62 : decode prog_5_method_5_code 62 = .ok (.goto (-57), 3) := by decide +kernel
theorem d_PH_leastAlone_65 : decode prog_5_method_5_code 65 = .ok (.iload_n 2, 1) := by decide +kernel
theorem d_PH_leastAlone_66 : decode prog_5_method_5_code 66 = .ok (.ireturn, 1) := by decide +kernel
theorem d_PH_lastPhase_0 : decode prog_5_method_6_code 0 = .ok (.aload_n 0, 1) := by decide +kernel
theorem d_PH_lastPhase_1 : decode prog_5_method_6_code 1 = .ok (.getfield 9, 3) := by decide +kernel
theorem d_PH_lastPhase_4 : decode prog_5_method_6_code 4 = .ok (.getfield 98, 3) := by decide +kernel
theorem d_PH_lastPhase_7 : decode prog_5_method_6_code 7 = .ok (.iload_n 1, 1) := by decide +kernel
theorem d_PH_lastPhase_8 : decode prog_5_method_6_code 8 = .ok (.baload, 1) := by decide +kernel
theorem d_PH_lastPhase_9 : decode prog_5_method_6_code 9 = .ok (.ifCond .eq 7, 3) := by decide +kernel
theorem d_PH_lastPhase_12 : decode prog_5_method_6_code 12 = .ok (.iconst 0, 1) := by decide +kernel
theorem d_PH_lastPhase_13 : decode prog_5_method_6_code 13 = .ok (.goto 12, 3) := by decide +kernel
theorem d_PH_lastPhase_16 : decode prog_5_method_6_code 16 = .ok (.aload_n 0, 1) := by decide +kernel
theorem d_PH_lastPhase_17 : decode prog_5_method_6_code 17 = .ok (.getfield 9, 3) := by decide +kernel
theorem d_PH_lastPhase_20 : decode prog_5_method_6_code 20 = .ok (.getfield 102, 3) := by decide +kernel
theorem d_PH_lastPhase_23 : decode prog_5_method_6_code 23 = .ok (.iload_n 1, 1) := by decide +kernel
theorem d_PH_lastPhase_24 : decode prog_5_method_6_code 24 = .ok (.iaload, 1) := by decide +kernel
theorem d_PH_lastPhase_25 : decode prog_5_method_6_code 25 = .ok (.ireturn, 1) := by decide +kernel
theorem d_PH_breath_0 : decode prog_5_method_7_code 0 = .ok (.aload_n 0, 1) := by decide +kernel
theorem d_PH_breath_1 : decode prog_5_method_7_code 1 = .ok (.getfield 9, 3) := by decide +kernel
theorem d_PH_breath_4 : decode prog_5_method_7_code 4 = .ok (.getfield 98, 3) := by decide +kernel
theorem d_PH_breath_7 : decode prog_5_method_7_code 7 = .ok (.iload_n 1, 1) := by decide +kernel
theorem d_PH_breath_8 : decode prog_5_method_7_code 8 = .ok (.baload, 1) := by decide +kernel
theorem d_PH_breath_9 : decode prog_5_method_7_code 9 = .ok (.ifCond .eq 7, 3) := by decide +kernel
theorem d_PH_breath_12 : decode prog_5_method_7_code 12 = .ok (.iconst 0, 1) := by decide +kernel
theorem d_PH_breath_13 : decode prog_5_method_7_code 13 = .ok (.goto 12, 3) := by decide +kernel
theorem d_PH_breath_16 : decode prog_5_method_7_code 16 = .ok (.aload_n 0, 1) := by decide +kernel
theorem d_PH_breath_17 : decode prog_5_method_7_code 17 = .ok (.getfield 9, 3) := by decide +kernel
theorem d_PH_breath_20 : decode prog_5_method_7_code 20 = .ok (.getfield 105, 3) := by decide +kernel
theorem d_PH_breath_23 : decode prog_5_method_7_code 23 = .ok (.iload_n 1, 1) := by decide +kernel
theorem d_PH_breath_24 : decode prog_5_method_7_code 24 = .ok (.iaload, 1) := by decide +kernel
theorem d_PH_breath_25 : decode prog_5_method_7_code 25 = .ok (.ireturn, 1) := by decide +kernel
theorem d_PH_tryFrom_0 : decode prog_5_method_8_code 0 = .ok (.iload_n 1, 1) := by decide +kernel
theorem d_PH_tryFrom_1 : decode prog_5_method_8_code 1 = .ok (.aload_n 0, 1) := by decide +kernel
theorem d_PH_tryFrom_2 : decode prog_5_method_8_code 2 = .ok (.getfield 70, 3) := by decide +kernel
theorem d_PH_tryFrom_5 : decode prog_5_method_8_code 5 = .ok (.if_icmp .gt 8, 3) := by decide +kernel
theorem d_PH_tryFrom_8 : decode prog_5_method_8_code 8 = .ok (.iload_n 1, 1) := by decide +kernel
theorem d_PH_tryFrom_9 : decode prog_5_method_8_code 9 = .ok (.iconst 4, 1) := by decide +kernel
theorem d_PH_tryFrom_10 : decode prog_5_method_8_code 10 = .ok (.if_icmp .le 4, 3) := by decide +kernel
theorem d_PH_tryFrom_13 : decode prog_5_method_8_code 13 = .ok (.return_, 1) := by decide +kernel
theorem d_PH_tryFrom_14 : decode prog_5_method_8_code 14 = .ok (.aload_n 0, 1) := by decide +kernel
theorem d_PH_tryFrom_15 : decode prog_5_method_8_code 15 = .ok (.getfield 15, 3) := by decide +kernel
theorem d_PH_tryFrom_18 : decode prog_5_method_8_code 18 = .ok (.aload_n 0, 1) := by decide +kernel
theorem d_PH_tryFrom_19 : decode prog_5_method_8_code 19 = .ok (.getfield 43, 3) := by decide +kernel
theorem d_PH_tryFrom_22 : decode prog_5_method_8_code 22 = .ok (.invokevirtual 76, 3) := by decide +kernel
theorem d_PH_tryFrom_25 : decode prog_5_method_8_code 25 = .ok (.istore_n 2, 1) := by decide +kernel
theorem d_PH_tryFrom_26 : decode prog_5_method_8_code 26 = .ok (.iload_n 2, 1) := by decide +kernel
theorem d_PH_tryFrom_27 : decode prog_5_method_8_code 27 = .ok (.aload_n 0, 1) := by decide +kernel
theorem d_PH_tryFrom_28 : decode prog_5_method_8_code 28 = .ok (.getfield 29, 3) := by decide +kernel
theorem d_PH_tryFrom_31 : decode prog_5_method_8_code 31 = .ok (.iload_n 1, 1) := by decide +kernel
theorem d_PH_tryFrom_32 : decode prog_5_method_8_code 32 = .ok (.iaload, 1) := by decide +kernel
theorem d_PH_tryFrom_33 : decode prog_5_method_8_code 33 = .ok (.iadd, 1) := by decide +kernel
theorem d_PH_tryFrom_34 : decode prog_5_method_8_code 34 = .ok (.aload_n 0, 1) := by decide +kernel
theorem d_PH_tryFrom_35 : decode prog_5_method_8_code 35 = .ok (.getfield 63, 3) := by decide +kernel
theorem d_PH_tryFrom_38 : decode prog_5_method_8_code 38 = .ok (.if_icmp .lt 4, 3) := by decide +kernel
theorem d_PH_tryFrom_41 : decode prog_5_method_8_code 41 = .ok (.return_, 1) := by decide +kernel
theorem d_PH_tryFrom_42 : decode prog_5_method_8_code 42 = .ok (.iload_n 1, 1) := by decide +kernel
theorem d_PH_tryFrom_43 : decode prog_5_method_8_code 43 = .ok (.aload_n 0, 1) := by decide +kernel
theorem d_PH_tryFrom_44 : decode prog_5_method_8_code 44 = .ok (.getfield 70, 3) := by decide +kernel
theorem d_PH_tryFrom_47 : decode prog_5_method_8_code 47 = .ok (.if_icmp .ne 9, 3) := by decide +kernel
theorem d_PH_tryFrom_50 : decode prog_5_method_8_code 50 = .ok (.aload_n 0, 1) := by decide +kernel
theorem d_PH_tryFrom_51 : decode prog_5_method_8_code 51 = .ok (.iload_n 2, 1) := by decide +kernel
theorem d_PH_tryFrom_52 : decode prog_5_method_8_code 52 = .ok (.invokevirtual 108, 3) := by decide +kernel
theorem d_PH_tryFrom_55 : decode prog_5_method_8_code 55 = .ok (.return_, 1) := by decide +kernel
theorem d_PH_tryFrom_56 : decode prog_5_method_8_code 56 = .ok (.aload_n 0, 1) := by decide +kernel
theorem d_PH_tryFrom_57 : decode prog_5_method_8_code 57 = .ok (.getfield 19, 3) := by decide +kernel
theorem d_PH_tryFrom_60 : decode prog_5_method_8_code 60 = .ok (.iload_n 1, 1) := by decide +kernel
theorem d_PH_tryFrom_61 : decode prog_5_method_8_code 61 = .ok (.iaload, 1) := by decide +kernel
theorem d_PH_tryFrom_62 : decode prog_5_method_8_code 62 = .ok (.istore_n 3, 1) := by decide +kernel
theorem d_PH_tryFrom_63 : decode prog_5_method_8_code 63 = .ok (.iconst 0, 1) := by decide +kernel
theorem d_PH_tryFrom_64 : decode prog_5_method_8_code 64 = .ok (.istore 4, 2) := by decide +kernel
theorem d_PH_tryFrom_66 : decode prog_5_method_8_code 66 = .ok (.iload 4, 2) := by decide +kernel
theorem d_PH_tryFrom_68 : decode prog_5_method_8_code 68 = .ok (.aload_n 0, 1) := by decide +kernel
theorem d_PH_tryFrom_69 : decode prog_5_method_8_code 69 = .ok (.iload_n 3, 1) := by decide +kernel
theorem d_PH_tryFrom_70 : decode prog_5_method_8_code 70 = .ok (.invokevirtual 82, 3) := by decide +kernel
theorem d_PH_tryFrom_73 : decode prog_5_method_8_code 73 = .ok (.if_icmp .gt 55, 3) := by decide +kernel
theorem d_PH_tryFrom_76 : decode prog_5_method_8_code 76 = .ok (.aload_n 0, 1) := by decide +kernel
theorem d_PH_tryFrom_77 : decode prog_5_method_8_code 77 = .ok (.getfield 23, 3) := by decide +kernel
theorem d_PH_tryFrom_80 : decode prog_5_method_8_code 80 = .ok (.iload_n 1, 1) := by decide +kernel
theorem d_PH_tryFrom_81 : decode prog_5_method_8_code 81 = .ok (.iload 4, 2) := by decide +kernel
theorem d_PH_tryFrom_83 : decode prog_5_method_8_code 83 = .ok (.iastore, 1) := by decide +kernel
theorem d_PH_tryFrom_84 : decode prog_5_method_8_code 84 = .ok (.aload_n 0, 1) := by decide +kernel
theorem d_PH_tryFrom_85 : decode prog_5_method_8_code 85 = .ok (.getfield 15, 3) := by decide +kernel
theorem d_PH_tryFrom_88 : decode prog_5_method_8_code 88 = .ok (.iload_n 3, 1) := by decide +kernel
theorem d_PH_tryFrom_89 : decode prog_5_method_8_code 89 = .ok (.iload 4, 2) := by decide +kernel
theorem d_PH_tryFrom_91 : decode prog_5_method_8_code 91 = .ok (.aload_n 0, 1) := by decide +kernel
theorem d_PH_tryFrom_92 : decode prog_5_method_8_code 92 = .ok (.iload_n 3, 1) := by decide +kernel
theorem d_PH_tryFrom_93 : decode prog_5_method_8_code 93 = .ok (.invokevirtual 85, 3) := by decide +kernel
theorem d_PH_tryFrom_96 : decode prog_5_method_8_code 96 = .ok (.ineg, 1) := by decide +kernel
theorem d_PH_tryFrom_97 : decode prog_5_method_8_code 97 = .ok (.invokevirtual 88, 3) := by decide +kernel
theorem d_PH_tryFrom_100 : decode prog_5_method_8_code 100 = .ok (.aload_n 0, 1) := by decide +kernel
theorem d_PH_tryFrom_101 : decode prog_5_method_8_code 101 = .ok (.iload_n 1, 1) := by decide +kernel
theorem d_PH_tryFrom_102 : decode prog_5_method_8_code 102 = .ok (.iconst 1, 1) := by decide +kernel
theorem d_PH_tryFrom_103 : decode prog_5_method_8_code 103 = .ok (.iadd, 1) := by decide +kernel
theorem d_PH_tryFrom_104 : decode prog_5_method_8_code 104 = .ok (.invokestatic 66, 3) := by decide +kernel
theorem d_PH_tryFrom_107 : decode prog_5_method_8_code 107 = .ok (.aload_n 0, 1) := by decide +kernel
theorem d_PH_tryFrom_108 : decode prog_5_method_8_code 108 = .ok (.getfield 15, 3) := by decide +kernel
theorem d_PH_tryFrom_111 : decode prog_5_method_8_code 111 = .ok (.iload_n 3, 1) := by decide +kernel
theorem d_PH_tryFrom_112 : decode prog_5_method_8_code 112 = .ok (.iload 4, 2) := by decide +kernel
theorem d_PH_tryFrom_114 : decode prog_5_method_8_code 114 = .ok (.aload_n 0, 1) := by decide +kernel
theorem d_PH_tryFrom_115 : decode prog_5_method_8_code 115 = .ok (.iload_n 3, 1) := by decide +kernel
theorem d_PH_tryFrom_116 : decode prog_5_method_8_code 116 = .ok (.invokevirtual 85, 3) := by decide +kernel
theorem d_PH_tryFrom_119 : decode prog_5_method_8_code 119 = .ok (.invokevirtual 88, 3) := by decide +kernel
theorem d_PH_tryFrom_122 : decode prog_5_method_8_code 122 = .ok (.iinc 4 1, 3) := by decide +kernel
theorem d_PH_tryFrom_125 : decode prog_5_method_8_code 125 = .ok (.goto (-59), 3) := by decide +kernel
theorem d_PH_tryFrom_128 : decode prog_5_method_8_code 128 = .ok (.return_, 1) := by decide +kernel
theorem d_PH_settle_0 : decode prog_5_method_9_code 0 = .ok (.aload_n 0, 1) := by decide +kernel
theorem d_PH_settle_1 : decode prog_5_method_9_code 1 = .ok (.iload_n 1, 1) := by decide +kernel
theorem d_PH_settle_2 : decode prog_5_method_9_code 2 = .ok (.putfield 63, 3) := by decide +kernel
theorem d_PH_settle_5 : decode prog_5_method_9_code 5 = .ok (.iconst 0, 1) := by decide +kernel
theorem d_PH_settle_6 : decode prog_5_method_9_code 6 = .ok (.istore_n 2, 1) := by decide +kernel
theorem d_PH_settle_7 : decode prog_5_method_9_code 7 = .ok (.iload_n 2, 1) := by decide +kernel
theorem d_PH_settle_8 : decode prog_5_method_9_code 8 = .ok (.aload_n 0, 1) := by decide +kernel
theorem d_PH_settle_9 : decode prog_5_method_9_code 9 = .ok (.getfield 70, 3) := by decide +kernel
theorem d_PH_settle_12 : decode prog_5_method_9_code 12 = .ok (.if_icmp .ge 21, 3) := by decide +kernel
theorem d_PH_settle_15 : decode prog_5_method_9_code 15 = .ok (.aload_n 0, 1) := by decide +kernel
theorem d_PH_settle_16 : decode prog_5_method_9_code 16 = .ok (.getfield 26, 3) := by decide +kernel
theorem d_PH_settle_19 : decode prog_5_method_9_code 19 = .ok (.iload_n 2, 1) := by decide +kernel
theorem d_PH_settle_20 : decode prog_5_method_9_code 20 = .ok (.aload_n 0, 1) := by decide +kernel
theorem d_PH_settle_21 : decode prog_5_method_9_code 21 = .ok (.getfield 23, 3) := by decide +kernel
theorem d_PH_settle_24 : decode prog_5_method_9_code 24 = .ok (.iload_n 2, 1) := by decide +kernel
theorem d_PH_settle_25 : decode prog_5_method_9_code 25 = .ok (.iaload, 1) := by decide +kernel
theorem d_PH_settle_26 : decode prog_5_method_9_code 26 = .ok (.iastore, 1) := by decide +kernel
theorem d_PH_settle_27 : decode prog_5_method_9_code 27 = .ok (.iinc 2 1, 3) := by decide +kernel
theorem d_PH_settle_30 : decode prog_5_method_9_code 30 = .ok (.goto (-23), 3) := by decide +kernel
theorem d_PH_settle_33 : decode prog_5_method_9_code 33 = .ok (.return_, 1) := by decide +kernel
theorem d_PH_phaseOf_0 : decode prog_5_method_10_code 0 = .ok (.iload_n 1, 1) := by decide +kernel
theorem d_PH_phaseOf_1 : decode prog_5_method_10_code 1 = .ok (.ifCond .lt 20, 3) := by decide +kernel
theorem d_PH_phaseOf_4 : decode prog_5_method_10_code 4 = .ok (.iload_n 1, 1) := by decide +kernel
theorem d_PH_phaseOf_5 : decode prog_5_method_10_code 5 = .ok (.aload_n 0, 1) := by decide +kernel
theorem d_PH_phaseOf_6 : decode prog_5_method_10_code 6 = .ok (.getfield 70, 3) := by decide +kernel
theorem d_PH_phaseOf_9 : decode prog_5_method_10_code 9 = .ok (.if_icmp .ge 12, 3) := by decide +kernel
theorem d_PH_phaseOf_12 : decode prog_5_method_10_code 12 = .ok (.aload_n 0, 1) := by decide +kernel
theorem d_PH_phaseOf_13 : decode prog_5_method_10_code 13 = .ok (.getfield 26, 3) := by decide +kernel
theorem d_PH_phaseOf_16 : decode prog_5_method_10_code 16 = .ok (.iload_n 1, 1) := by decide +kernel
theorem d_PH_phaseOf_17 : decode prog_5_method_10_code 17 = .ok (.iaload, 1) := by decide +kernel
theorem d_PH_phaseOf_18 : decode prog_5_method_10_code 18 = .ok (.goto 5, 3) := by decide +kernel
theorem d_PH_phaseOf_21 : decode prog_5_method_10_code 21 = .ok (.bipush (-9), 2) := by decide +kernel
theorem d_PH_phaseOf_23 : decode prog_5_method_10_code 23 = .ok (.ireturn, 1) := by decide +kernel
theorem d_PI_init_0 : decode prog_6_method_1_code 0 = .ok (.aload_n 0, 1) := by decide +kernel
theorem d_PI_init_1 : decode prog_6_method_1_code 1 = .ok (.invokespecial 3, 3) := by decide +kernel
theorem d_PI_init_4 : decode prog_6_method_1_code 4 = .ok (.aload_n 0, 1) := by decide +kernel
theorem d_PI_init_5 : decode prog_6_method_1_code 5 = .ok (.bipush 6, 2) := by decide +kernel
theorem d_PI_init_7 : decode prog_6_method_1_code 7 = .ok (.newarray .int, 2) := by decide +kernel
theorem d_PI_init_9 : decode prog_6_method_1_code 9 = .ok (.putfield 9, 3) := by decide +kernel
theorem d_PI_init_12 : decode prog_6_method_1_code 12 = .ok (.aload_n 0, 1) := by decide +kernel
theorem d_PI_init_13 : decode prog_6_method_1_code 13 = .ok (.bipush 24, 2) := by decide +kernel
theorem d_PI_init_15 : decode prog_6_method_1_code 15 = .ok (.newarray .int, 2) := by decide +kernel
theorem d_PI_init_17 : decode prog_6_method_1_code 17 = .ok (.putfield 15, 3) := by decide +kernel
theorem d_PI_init_20 : decode prog_6_method_1_code 20 = .ok (.aload_n 0, 1) := by decide +kernel
theorem d_PI_init_21 : decode prog_6_method_1_code 21 = .ok (.iconst 1, 1) := by decide +kernel
theorem d_PI_init_22 : decode prog_6_method_1_code 22 = .ok (.putfield 18, 3) := by decide +kernel
theorem d_PI_init_25 : decode prog_6_method_1_code 25 = .ok (.aload_n 0, 1) := by decide +kernel
theorem d_PI_init_26 : decode prog_6_method_1_code 26 = .ok (.getfield 9, 3) := by decide +kernel
theorem d_PI_init_29 : decode prog_6_method_1_code 29 = .ok (.iconst 0, 1) := by decide +kernel
theorem d_PI_init_30 : decode prog_6_method_1_code 30 = .ok (.iconst 1, 1) := by decide +kernel
theorem d_PI_init_31 : decode prog_6_method_1_code 31 = .ok (.iastore, 1) := by decide +kernel
theorem d_PI_init_32 : decode prog_6_method_1_code 32 = .ok (.return_, 1) := by decide +kernel
theorem d_PI_takeFrom_0 : decode prog_6_method_2_code 0 = .ok (.aload_n 0, 1) := by decide +kernel
theorem d_PI_takeFrom_1 : decode prog_6_method_2_code 1 = .ok (.aload_n 1, 1) := by decide +kernel
theorem d_PI_takeFrom_2 : decode prog_6_method_2_code 2 = .ok (.getfield 22, 3) := by decide +kernel
theorem d_PI_takeFrom_5 : decode prog_6_method_2_code 5 = .ok (.putfield 18, 3) := by decide +kernel
theorem d_PI_takeFrom_8 : decode prog_6_method_2_code 8 = .ok (.aload_n 0, 1) := by decide +kernel
theorem d_PI_takeFrom_9 : decode prog_6_method_2_code 9 = .ok (.aload_n 1, 1) := by decide +kernel
theorem d_PI_takeFrom_10 : decode prog_6_method_2_code 10 = .ok (.getfield 27, 3) := by decide +kernel
theorem d_PI_takeFrom_13 : decode prog_6_method_2_code 13 = .ok (.putfield 30, 3) := by decide +kernel
theorem d_PI_takeFrom_16 : decode prog_6_method_2_code 16 = .ok (.iconst 0, 1) := by decide +kernel
theorem d_PI_takeFrom_17 : decode prog_6_method_2_code 17 = .ok (.istore_n 2, 1) := by decide +kernel
theorem d_PI_takeFrom_18 : decode prog_6_method_2_code 18 = .ok (.iload_n 2, 1) := by decide +kernel
theorem d_PI_takeFrom_19 : decode prog_6_method_2_code 19 = .ok (.aload_n 0, 1) := by decide +kernel
theorem d_PI_takeFrom_20 : decode prog_6_method_2_code 20 = .ok (.getfield 18, 3) := by decide +kernel
theorem d_PI_takeFrom_23 : decode prog_6_method_2_code 23 = .ok (.if_icmp .ge 20, 3) := by decide +kernel
theorem d_PI_takeFrom_26 : decode prog_6_method_2_code 26 = .ok (.aload_n 0, 1) := by decide +kernel
theorem d_PI_takeFrom_27 : decode prog_6_method_2_code 27 = .ok (.getfield 9, 3) := by decide +kernel
theorem d_PI_takeFrom_30 : decode prog_6_method_2_code 30 = .ok (.iload_n 2, 1) := by decide +kernel
theorem d_PI_takeFrom_31 : decode prog_6_method_2_code 31 = .ok (.aload_n 1, 1) := by decide +kernel
theorem d_PI_takeFrom_32 : decode prog_6_method_2_code 32 = .ok (.iload_n 2, 1) := by decide +kernel
theorem d_PI_takeFrom_33 : decode prog_6_method_2_code 33 = .ok (.invokevirtual 33, 3) := by decide +kernel
theorem d_PI_takeFrom_36 : decode prog_6_method_2_code 36 = .ok (.iastore, 1) := by decide +kernel
theorem d_PI_takeFrom_37 : decode prog_6_method_2_code 37 = .ok (.iinc 2 1, 3) := by decide +kernel
theorem d_PI_takeFrom_40 : decode prog_6_method_2_code 40 = .ok (.goto (-22), 3) := by decide +kernel
theorem d_PI_takeFrom_43 : decode prog_6_method_2_code 43 = .ok (.iconst 0, 1) := by decide +kernel
theorem d_PI_takeFrom_44 : decode prog_6_method_2_code 44 = .ok (.istore_n 2, 1) := by decide +kernel
theorem d_PI_takeFrom_45 : decode prog_6_method_2_code 45 = .ok (.iload_n 2, 1) := by decide +kernel
theorem d_PI_takeFrom_46 : decode prog_6_method_2_code 46 = .ok (.aload_n 0, 1) := by decide +kernel
theorem d_PI_takeFrom_47 : decode prog_6_method_2_code 47 = .ok (.getfield 30, 3) := by decide +kernel
theorem d_PI_takeFrom_50 : decode prog_6_method_2_code 50 = .ok (.if_icmp .ge 20, 3) := by decide +kernel
theorem d_PI_takeFrom_53 : decode prog_6_method_2_code 53 = .ok (.aload_n 0, 1) := by decide +kernel
theorem d_PI_takeFrom_54 : decode prog_6_method_2_code 54 = .ok (.getfield 15, 3) := by decide +kernel
theorem d_PI_takeFrom_57 : decode prog_6_method_2_code 57 = .ok (.iload_n 2, 1) := by decide +kernel
theorem d_PI_takeFrom_58 : decode prog_6_method_2_code 58 = .ok (.aload_n 1, 1) := by decide +kernel
theorem d_PI_takeFrom_59 : decode prog_6_method_2_code 59 = .ok (.iload_n 2, 1) := by decide +kernel
theorem d_PI_takeFrom_60 : decode prog_6_method_2_code 60 = .ok (.invokevirtual 37, 3) := by decide +kernel
theorem d_PI_takeFrom_63 : decode prog_6_method_2_code 63 = .ok (.iastore, 1) := by decide +kernel
theorem d_PI_takeFrom_64 : decode prog_6_method_2_code 64 = .ok (.iinc 2 1, 3) := by decide +kernel
theorem d_PI_takeFrom_67 : decode prog_6_method_2_code 67 = .ok (.goto (-22), 3) := by decide +kernel
theorem d_PI_takeFrom_70 : decode prog_6_method_2_code 70 = .ok (.return_, 1) := by decide +kernel
theorem d_PI_has_0 : decode prog_6_method_3_code 0 = .ok (.iload_n 1, 1) := by decide +kernel
theorem d_PI_has_1 : decode prog_6_method_3_code 1 = .ok (.ifCond .lt 15, 3) := by decide +kernel
theorem d_PI_has_4 : decode prog_6_method_3_code 4 = .ok (.iload_n 1, 1) := by decide +kernel
theorem d_PI_has_5 : decode prog_6_method_3_code 5 = .ok (.aload_n 0, 1) := by decide +kernel
theorem d_PI_has_6 : decode prog_6_method_3_code 6 = .ok (.getfield 18, 3) := by decide +kernel
theorem d_PI_has_9 : decode prog_6_method_3_code 9 = .ok (.if_icmp .ge 7, 3) := by decide +kernel
theorem d_PI_has_12 : decode prog_6_method_3_code 12 = .ok (.iconst 1, 1) := by decide +kernel
theorem d_PI_has_13 : decode prog_6_method_3_code 13 = .ok (.goto 4, 3) := by decide +kernel
theorem d_PI_has_16 : decode prog_6_method_3_code 16 = .ok (.iconst 0, 1) := by decide +kernel
theorem d_PI_has_17 : decode prog_6_method_3_code 17 = .ok (.ireturn, 1) := by decide +kernel
theorem d_PI_hasBeat_0 : decode prog_6_method_4_code 0 = .ok (.iload_n 1, 1) := by decide +kernel
theorem d_PI_hasBeat_1 : decode prog_6_method_4_code 1 = .ok (.ifCond .lt 15, 3) := by decide +kernel
theorem d_PI_hasBeat_4 : decode prog_6_method_4_code 4 = .ok (.iload_n 1, 1) := by decide +kernel
theorem d_PI_hasBeat_5 : decode prog_6_method_4_code 5 = .ok (.aload_n 0, 1) := by decide +kernel
theorem d_PI_hasBeat_6 : decode prog_6_method_4_code 6 = .ok (.getfield 30, 3) := by decide +kernel
theorem d_PI_hasBeat_9 : decode prog_6_method_4_code 9 = .ok (.if_icmp .ge 7, 3) := by decide +kernel
theorem d_PI_hasBeat_12 : decode prog_6_method_4_code 12 = .ok (.iconst 1, 1) := by decide +kernel
theorem d_PI_hasBeat_13 : decode prog_6_method_4_code 13 = .ok (.goto 4, 3) := by decide +kernel
theorem d_PI_hasBeat_16 : decode prog_6_method_4_code 16 = .ok (.iconst 0, 1) := by decide +kernel
theorem d_PI_hasBeat_17 : decode prog_6_method_4_code 17 = .ok (.ireturn, 1) := by decide +kernel
theorem d_PI_hasBoth_0 : decode prog_6_method_5_code 0 = .ok (.aload_n 0, 1) := by decide +kernel
theorem d_PI_hasBoth_1 : decode prog_6_method_5_code 1 = .ok (.iload_n 1, 1) := by decide +kernel
theorem d_PI_hasBoth_2 : decode prog_6_method_5_code 2 = .ok (.invokevirtual 40, 3) := by decide +kernel
theorem d_PI_hasBoth_5 : decode prog_6_method_5_code 5 = .ok (.ifCond .eq 15, 3) := by decide +kernel
theorem d_PI_hasBoth_8 : decode prog_6_method_5_code 8 = .ok (.aload_n 0, 1) := by decide +kernel
theorem d_PI_hasBoth_9 : decode prog_6_method_5_code 9 = .ok (.iload_n 2, 1) := by decide +kernel
theorem d_PI_hasBoth_10 : decode prog_6_method_5_code 10 = .ok (.invokevirtual 44, 3) := by decide +kernel
theorem d_PI_hasBoth_13 : decode prog_6_method_5_code 13 = .ok (.ifCond .eq 7, 3) := by decide +kernel
theorem d_PI_hasBoth_16 : decode prog_6_method_5_code 16 = .ok (.iconst 1, 1) := by decide +kernel
theorem d_PI_hasBoth_17 : decode prog_6_method_5_code 17 = .ok (.goto 4, 3) := by decide +kernel
theorem d_PI_hasBoth_20 : decode prog_6_method_5_code 20 = .ok (.iconst 0, 1) := by decide +kernel
theorem d_PI_hasBoth_21 : decode prog_6_method_5_code 21 = .ok (.ireturn, 1) := by decide +kernel
theorem d_PI_isSounding_0 : decode prog_6_method_6_code 0 = .ok (.aload_n 0, 1) := by decide +kernel
theorem d_PI_isSounding_1 : decode prog_6_method_6_code 1 = .ok (.getfield 15, 3) := by decide +kernel
theorem d_PI_isSounding_4 : decode prog_6_method_6_code 4 = .ok (.iload_n 2, 1) := by decide +kernel
theorem d_PI_isSounding_5 : decode prog_6_method_6_code 5 = .ok (.iaload, 1) := by decide +kernel
theorem d_PI_isSounding_6 : decode prog_6_method_6_code 6 = .ok (.iload_n 1, 1) := by decide +kernel
theorem d_PI_isSounding_7 : decode prog_6_method_6_code 7 = .ok (.ishr, 1) := by decide +kernel
theorem d_PI_isSounding_8 : decode prog_6_method_6_code 8 = .ok (.iconst 1, 1) := by decide +kernel
theorem d_PI_isSounding_9 : decode prog_6_method_6_code 9 = .ok (.iand, 1) := by decide +kernel
theorem d_PI_isSounding_10 : decode prog_6_method_6_code 10 = .ok (.iconst 1, 1) := by decide +kernel
theorem d_PI_isSounding_11 : decode prog_6_method_6_code 11 = .ok (.if_icmp .ne 7, 3) := by decide +kernel
theorem d_PI_isSounding_14 : decode prog_6_method_6_code 14 = .ok (.iconst 1, 1) := by decide +kernel
theorem d_PI_isSounding_15 : decode prog_6_method_6_code 15 = .ok (.goto 4, 3) := by decide +kernel
theorem d_PI_isSounding_18 : decode prog_6_method_6_code 18 = .ok (.iconst 0, 1) := by decide +kernel
theorem d_PI_isSounding_19 : decode prog_6_method_6_code 19 = .ok (.ireturn, 1) := by decide +kernel
theorem d_SC_init_0 : decode prog_7_method_1_code 0 = .ok (.aload_n 0, 1) := by decide +kernel
theorem d_SC_init_1 : decode prog_7_method_1_code 1 = .ok (.invokespecial 3, 3) := by decide +kernel
theorem d_SC_init_4 : decode prog_7_method_1_code 4 = .ok (.aload_n 0, 1) := by decide +kernel
theorem d_SC_init_5 : decode prog_7_method_1_code 5 = .ok (.bipush 104, 2) := by decide +kernel
theorem d_SC_init_7 : decode prog_7_method_1_code 7 = .ok (.newarray .byte, 2) := by decide +kernel
theorem d_SC_init_9 : decode prog_7_method_1_code 9 = .ok (.putfield 9, 3) := by decide +kernel
theorem d_SC_init_12 : decode prog_7_method_1_code 12 = .ok (.return_, 1) := by decide +kernel
theorem d_SC_hasRoom_0 : decode prog_7_method_2_code 0 = .ok (.iload_n 1, 1) := by decide +kernel
theorem d_SC_hasRoom_1 : decode prog_7_method_2_code 1 = .ok (.bipush 104, 2) := by decide +kernel
theorem d_SC_hasRoom_3 : decode prog_7_method_2_code 3 = .ok (.aload_n 0, 1) := by decide +kernel
theorem d_SC_hasRoom_4 : decode prog_7_method_2_code 4 = .ok (.getfield 15, 3) := by decide +kernel
theorem d_SC_hasRoom_7 : decode prog_7_method_2_code 7 = .ok (.isub, 1) := by decide +kernel
theorem d_SC_hasRoom_8 : decode prog_7_method_2_code 8 = .ok (.if_icmp .gt 7, 3) := by decide +kernel
theorem d_SC_hasRoom_11 : decode prog_7_method_2_code 11 = .ok (.iconst 1, 1) := by decide +kernel
theorem d_SC_hasRoom_12 : decode prog_7_method_2_code 12 = .ok (.goto 4, 3) := by decide +kernel
theorem d_SC_hasRoom_15 : decode prog_7_method_2_code 15 = .ok (.iconst 0, 1) := by decide +kernel
theorem d_SC_hasRoom_16 : decode prog_7_method_2_code 16 = .ok (.ireturn, 1) := by decide +kernel
theorem d_SC_append_0 : decode prog_7_method_3_code 0 = .ok (.iload_n 1, 1) := by decide +kernel
theorem d_SC_append_1 : decode prog_7_method_3_code 1 = .ok (.iconst 1, 1) := by decide +kernel
theorem d_SC_append_2 : decode prog_7_method_3_code 2 = .ok (.isub, 1) := by decide +kernel
theorem d_SC_append_3 : decode prog_7_method_3_code 3 = .ok (.istore 4, 2) := by decide +kernel
theorem d_SC_append_5 : decode prog_7_method_3_code 5 = .ok (.iload 4, 2) := by decide +kernel
theorem d_SC_append_7 : decode prog_7_method_3_code 7 = .ok (.ifCond .lt 46, 3) := by decide +kernel
theorem d_SC_append_10 : decode prog_7_method_3_code 10 = .ok (.aload_n 0, 1) := by decide +kernel
theorem d_SC_append_11 : decode prog_7_method_3_code 11 = .ok (.getfield 15, 3) := by decide +kernel
theorem d_SC_append_14 : decode prog_7_method_3_code 14 = .ok (.bipush 104, 2) := by decide +kernel
theorem d_SC_append_16 : decode prog_7_method_3_code 16 = .ok (.if_icmp .ge 37, 3) := by decide +kernel
theorem d_SC_append_19 : decode prog_7_method_3_code 19 = .ok (.aload_n 0, 1) := by decide +kernel
theorem d_SC_append_20 : decode prog_7_method_3_code 20 = .ok (.getfield 9, 3) := by decide +kernel
theorem d_SC_append_23 : decode prog_7_method_3_code 23 = .ok (.aload_n 0, 1) := by decide +kernel
theorem d_SC_append_24 : decode prog_7_method_3_code 24 = .ok (.getfield 15, 3) := by decide +kernel
theorem d_SC_append_27 : decode prog_7_method_3_code 27 = .ok (.lload_n 2, 1) := by decide +kernel
theorem d_SC_append_28 : decode prog_7_method_3_code 28 = .ok (.bipush 8, 2) := by decide +kernel
theorem d_SC_append_30 : decode prog_7_method_3_code 30 = .ok (.iload 4, 2) := by decide +kernel
theorem d_SC_append_32 : decode prog_7_method_3_code 32 = .ok (.imul, 1) := by decide +kernel
theorem d_SC_append_33 : decode prog_7_method_3_code 33 = .ok (.lshr, 1) := by decide +kernel
theorem d_SC_append_34 : decode prog_7_method_3_code 34 = .ok (.l2i, 1) := by decide +kernel
theorem d_SC_append_35 : decode prog_7_method_3_code 35 = .ok (.i2b, 1) := by decide +kernel
theorem d_SC_append_36 : decode prog_7_method_3_code 36 = .ok (.bastore, 1) := by decide +kernel
theorem d_SC_append_37 : decode prog_7_method_3_code 37 = .ok (.aload_n 0, 1) := by decide +kernel
theorem d_SC_append_38 : decode prog_7_method_3_code 38 = .ok (.dup, 1) := by decide +kernel
theorem d_SC_append_39 : decode prog_7_method_3_code 39 = .ok (.getfield 15, 3) := by decide +kernel
theorem d_SC_append_42 : decode prog_7_method_3_code 42 = .ok (.iconst 1, 1) := by decide +kernel
theorem d_SC_append_43 : decode prog_7_method_3_code 43 = .ok (.iadd, 1) := by decide +kernel
theorem d_SC_append_44 : decode prog_7_method_3_code 44 = .ok (.putfield 15, 3) := by decide +kernel
theorem d_SC_append_47 : decode prog_7_method_3_code 47 = .ok (.iinc 4 (-1), 3) := by decide +kernel
theorem d_SC_append_50 : decode prog_7_method_3_code 50 = .ok (.goto (-45), 3) := by decide +kernel
theorem d_SC_append_53 : decode prog_7_method_3_code 53 = .ok (.aload_n 0, 1) := by decide +kernel
theorem d_SC_append_54 : decode prog_7_method_3_code 54 = .ok (.getfield 15, 3) := by decide +kernel
theorem d_SC_append_57 : decode prog_7_method_3_code 57 = .ok (.ireturn, 1) := by decide +kernel
theorem d_SC_clear_0 : decode prog_7_method_4_code 0 = .ok (.aload_n 0, 1) := by decide +kernel
theorem d_SC_clear_1 : decode prog_7_method_4_code 1 = .ok (.getfield 15, 3) := by decide +kernel
theorem d_SC_clear_4 : decode prog_7_method_4_code 4 = .ok (.istore_n 1, 1) := by decide +kernel
theorem d_SC_clear_5 : decode prog_7_method_4_code 5 = .ok (.aload_n 0, 1) := by decide +kernel
theorem d_SC_clear_6 : decode prog_7_method_4_code 6 = .ok (.iconst 0, 1) := by decide +kernel
theorem d_SC_clear_7 : decode prog_7_method_4_code 7 = .ok (.putfield 15, 3) := by decide +kernel
theorem d_SC_clear_10 : decode prog_7_method_4_code 10 = .ok (.iload_n 1, 1) := by decide +kernel
theorem d_SC_clear_11 : decode prog_7_method_4_code 11 = .ok (.ireturn, 1) := by decide +kernel
theorem d_SC_read_0 : decode prog_7_method_5_code 0 = .ok (.aload_n 0, 1) := by decide +kernel
theorem d_SC_read_1 : decode prog_7_method_5_code 1 = .ok (.iconst 0, 1) := by decide +kernel
theorem d_SC_read_2 : decode prog_7_method_5_code 2 = .ok (.putfield 19, 3) := by decide +kernel
theorem d_SC_read_5 : decode prog_7_method_5_code 5 = .ok (.aload_n 0, 1) := by decide +kernel
theorem d_SC_read_6 : decode prog_7_method_5_code 6 = .ok (.iconst 0, 1) := by decide +kernel
theorem d_SC_read_7 : decode prog_7_method_5_code 7 = .ok (.putfield 22, 3) := by decide +kernel
theorem d_SC_read_10 : decode prog_7_method_5_code 10 = .ok (.aload_n 0, 1) := by decide +kernel
theorem d_SC_read_11 : decode prog_7_method_5_code 11 = .ok (.iconst 0, 1) := by decide +kernel
theorem d_SC_read_12 : decode prog_7_method_5_code 12 = .ok (.putfield 25, 3) := by decide +kernel
theorem d_SC_read_15 : decode prog_7_method_5_code 15 = .ok (.aload_n 0, 1) := by decide +kernel
theorem d_SC_read_16 : decode prog_7_method_5_code 16 = .ok (.iconst 0, 1) := by decide +kernel
theorem d_SC_read_17 : decode prog_7_method_5_code 17 = .ok (.putfield 28, 3) := by decide +kernel
theorem d_SC_read_20 : decode prog_7_method_5_code 20 = .ok (.aload_n 0, 1) := by decide +kernel
theorem d_SC_read_21 : decode prog_7_method_5_code 21 = .ok (.bipush 79, 2) := by decide +kernel
theorem d_SC_read_23 : decode prog_7_method_5_code 23 = .ok (.invokevirtual 31, 3) := by decide +kernel
theorem d_SC_read_26 : decode prog_7_method_5_code 26 = .ok (.ifCond .eq 39, 3) := by decide +kernel
theorem d_SC_read_29 : decode prog_7_method_5_code 29 = .ok (.aload_n 0, 1) := by decide +kernel
theorem d_SC_read_30 : decode prog_7_method_5_code 30 = .ok (.invokevirtual 35, 3) := by decide +kernel
theorem d_SC_read_33 : decode prog_7_method_5_code 33 = .ok (.ifCond .eq 32, 3) := by decide +kernel
theorem d_SC_read_36 : decode prog_7_method_5_code 36 = .ok (.aload_n 0, 1) := by decide +kernel
theorem d_SC_read_37 : decode prog_7_method_5_code 37 = .ok (.invokevirtual 39, 3) := by decide +kernel
theorem d_SC_read_40 : decode prog_7_method_5_code 40 = .ok (.ifCond .eq 25, 3) := by decide +kernel
theorem d_SC_read_43 : decode prog_7_method_5_code 43 = .ok (.aload_n 0, 1) := by decide +kernel
theorem d_SC_read_44 : decode prog_7_method_5_code 44 = .ok (.invokevirtual 42, 3) := by decide +kernel
theorem d_SC_read_47 : decode prog_7_method_5_code 47 = .ok (.ifCond .eq 18, 3) := by decide +kernel
theorem d_SC_read_50 : decode prog_7_method_5_code 50 = .ok (.aload_n 0, 1) := by decide +kernel
theorem d_SC_read_51 : decode prog_7_method_5_code 51 = .ok (.getfield 19, 3) := by decide +kernel
theorem d_SC_read_54 : decode prog_7_method_5_code 54 = .ok (.aload_n 0, 1) := by decide +kernel
theorem d_SC_read_55 : decode prog_7_method_5_code 55 = .ok (.getfield 15, 3) := by decide +kernel
theorem d_SC_read_58 : decode prog_7_method_5_code 58 = .ok (.if_icmp .ne 7, 3) := by decide +kernel
theorem d_SC_read_61 : decode prog_7_method_5_code 61 = .ok (.iconst 1, 1) := by decide +kernel
theorem d_SC_read_62 : decode prog_7_method_5_code 62 = .ok (.goto 4, 3) := by decide +kernel
theorem d_SC_read_65 : decode prog_7_method_5_code 65 = .ok (.iconst 0, 1) := by decide +kernel
theorem d_SC_read_66 : decode prog_7_method_5_code 66 = .ok (.istore_n 1, 1) := by decide +kernel
theorem d_SC_read_67 : decode prog_7_method_5_code 67 = .ok (.iload_n 1, 1) := by decide +kernel
theorem d_SC_read_68 : decode prog_7_method_5_code 68 = .ok (.ifCond .eq 8, 3) := by decide +kernel
theorem d_SC_read_71 : decode prog_7_method_5_code 71 = .ok (.bipush (-9), 2) := by decide +kernel
theorem d_SC_read_73 : decode prog_7_method_5_code 73 = .ok (.goto 7, 3) := by decide +kernel
theorem d_SC_read_76 : decode prog_7_method_5_code 76 = .ok (.aload_n 0, 1) := by decide +kernel
theorem d_SC_read_77 : decode prog_7_method_5_code 77 = .ok (.getfield 19, 3) := by decide +kernel
theorem d_SC_read_80 : decode prog_7_method_5_code 80 = .ok (.ireturn, 1) := by decide +kernel
theorem d_SC_signAt_0 : decode prog_7_method_6_code 0 = .ok (.iload_n 1, 1) := by decide +kernel
theorem d_SC_signAt_1 : decode prog_7_method_6_code 1 = .ok (.ifCond .lt 30, 3) := by decide +kernel
theorem d_SC_signAt_4 : decode prog_7_method_6_code 4 = .ok (.iload_n 1, 1) := by decide +kernel
theorem d_SC_signAt_5 : decode prog_7_method_6_code 5 = .ok (.aload_n 0, 1) := by decide +kernel
theorem d_SC_signAt_6 : decode prog_7_method_6_code 6 = .ok (.getfield 15, 3) := by decide +kernel
theorem d_SC_signAt_9 : decode prog_7_method_6_code 9 = .ok (.if_icmp .ge 22, 3) := by decide +kernel
theorem d_SC_signAt_12 : decode prog_7_method_6_code 12 = .ok (.iload_n 1, 1) := by decide +kernel
theorem d_SC_signAt_13 : decode prog_7_method_6_code 13 = .ok (.bipush 104, 2) := by decide +kernel
theorem d_SC_signAt_15 : decode prog_7_method_6_code 15 = .ok (.if_icmp .ge 16, 3) := by decide +kernel
theorem d_SC_signAt_18 : decode prog_7_method_6_code 18 = .ok (.aload_n 0, 1) := by decide +kernel
theorem d_SC_signAt_19 : decode prog_7_method_6_code 19 = .ok (.getfield 9, 3) := by decide +kernel
theorem d_SC_signAt_22 : decode prog_7_method_6_code 22 = .ok (.iload_n 1, 1) := by decide +kernel
theorem d_SC_signAt_23 : decode prog_7_method_6_code 23 = .ok (.baload, 1) := by decide +kernel
theorem d_SC_signAt_24 : decode prog_7_method_6_code 24 = .ok (.sipush 255, 3) := by decide +kernel
theorem d_SC_signAt_27 : decode prog_7_method_6_code 27 = .ok (.iand, 1) := by decide +kernel
theorem d_SC_signAt_28 : decode prog_7_method_6_code 28 = .ok (.goto 4, 3) := by decide +kernel
theorem d_SC_signAt_31 : decode prog_7_method_6_code 31 = .ok (.iconst (-1), 1) := by decide +kernel
theorem d_SC_signAt_32 : decode prog_7_method_6_code 32 = .ok (.ireturn, 1) := by decide +kernel
theorem d_SC_figureAt_0 : decode prog_7_method_7_code 0 = .ok (.aload_n 0, 1) := by decide +kernel
theorem d_SC_figureAt_1 : decode prog_7_method_7_code 1 = .ok (.iload_n 1, 1) := by decide +kernel
theorem d_SC_figureAt_2 : decode prog_7_method_7_code 2 = .ok (.invokevirtual 45, 3) := by decide +kernel
theorem d_SC_figureAt_5 : decode prog_7_method_7_code 5 = .ok (.bipush 48, 2) := by decide +kernel
theorem d_SC_figureAt_7 : decode prog_7_method_7_code 7 = .ok (.isub, 1) := by decide +kernel
theorem d_SC_figureAt_8 : decode prog_7_method_7_code 8 = .ok (.ireturn, 1) := by decide +kernel
theorem d_SC_takeSign_0 : decode prog_7_method_8_code 0 = .ok (.aload_n 0, 1) := by decide +kernel
theorem d_SC_takeSign_1 : decode prog_7_method_8_code 1 = .ok (.aload_n 0, 1) := by decide +kernel
theorem d_SC_takeSign_2 : decode prog_7_method_8_code 2 = .ok (.getfield 19, 3) := by decide +kernel
theorem d_SC_takeSign_5 : decode prog_7_method_8_code 5 = .ok (.invokevirtual 45, 3) := by decide +kernel
theorem d_SC_takeSign_8 : decode prog_7_method_8_code 8 = .ok (.iload_n 1, 1) := by decide +kernel
theorem d_SC_takeSign_9 : decode prog_7_method_8_code 9 = .ok (.if_icmp .eq 5, 3) := by decide +kernel
theorem d_SC_takeSign_12 : decode prog_7_method_8_code 12 = .ok (.iconst 0, 1) := by decide +kernel
theorem d_SC_takeSign_13 : decode prog_7_method_8_code 13 = .ok (.ireturn, 1) := by decide +kernel
theorem d_SC_takeSign_14 : decode prog_7_method_8_code 14 = .ok (.aload_n 0, 1) := by decide +kernel
theorem d_SC_takeSign_15 : decode prog_7_method_8_code 15 = .ok (.dup, 1) := by decide +kernel
theorem d_SC_takeSign_16 : decode prog_7_method_8_code 16 = .ok (.getfield 19, 3) := by decide +kernel
theorem d_SC_takeSign_19 : decode prog_7_method_8_code 19 = .ok (.iconst 1, 1) := by decide +kernel
theorem d_SC_takeSign_20 : decode prog_7_method_8_code 20 = .ok (.iadd, 1) := by decide +kernel
theorem d_SC_takeSign_21 : decode prog_7_method_8_code 21 = .ok (.putfield 19, 3) := by decide +kernel
theorem d_SC_takeSign_24 : decode prog_7_method_8_code 24 = .ok (.iconst 1, 1) := by decide +kernel
theorem d_SC_takeSign_25 : decode prog_7_method_8_code 25 = .ok (.ireturn, 1) := by decide +kernel
theorem d_SC_takeFigure_0 : decode prog_7_method_9_code 0 = .ok (.aload_n 0, 1) := by decide +kernel
theorem d_SC_takeFigure_1 : decode prog_7_method_9_code 1 = .ok (.aload_n 0, 1) := by decide +kernel
theorem d_SC_takeFigure_2 : decode prog_7_method_9_code 2 = .ok (.getfield 19, 3) := by decide +kernel
theorem d_SC_takeFigure_5 : decode prog_7_method_9_code 5 = .ok (.invokevirtual 49, 3) := by decide +kernel
theorem d_SC_takeFigure_8 : decode prog_7_method_9_code 8 = .ok (.istore_n 3, 1) := by decide +kernel
theorem d_SC_takeFigure_9 : decode prog_7_method_9_code 9 = .ok (.iload_n 3, 1) := by decide +kernel
theorem d_SC_takeFigure_10 : decode prog_7_method_9_code 10 = .ok (.iload_n 1, 1) := by decide +kernel
theorem d_SC_takeFigure_11 : decode prog_7_method_9_code 11 = .ok (.if_icmp .lt 8, 3) := by decide +kernel
theorem d_SC_takeFigure_14 : decode prog_7_method_9_code 14 = .ok (.iload_n 3, 1) := by decide +kernel
theorem d_SC_takeFigure_15 : decode prog_7_method_9_code 15 = .ok (.iload_n 2, 1) := by decide +kernel
theorem d_SC_takeFigure_16 : decode prog_7_method_9_code 16 = .ok (.if_icmp .le 5, 3) := by decide +kernel
theorem d_SC_takeFigure_19 : decode prog_7_method_9_code 19 = .ok (.iconst 0, 1) := by decide +kernel
theorem d_SC_takeFigure_20 : decode prog_7_method_9_code 20 = .ok (.ireturn, 1) := by decide +kernel
theorem d_SC_takeFigure_21 : decode prog_7_method_9_code 21 = .ok (.aload_n 0, 1) := by decide +kernel
theorem d_SC_takeFigure_22 : decode prog_7_method_9_code 22 = .ok (.dup, 1) := by decide +kernel
theorem d_SC_takeFigure_23 : decode prog_7_method_9_code 23 = .ok (.getfield 19, 3) := by decide +kernel
theorem d_SC_takeFigure_26 : decode prog_7_method_9_code 26 = .ok (.iconst 1, 1) := by decide +kernel
theorem d_SC_takeFigure_27 : decode prog_7_method_9_code 27 = .ok (.iadd, 1) := by decide +kernel
theorem d_SC_takeFigure_28 : decode prog_7_method_9_code 28 = .ok (.putfield 19, 3) := by decide +kernel
theorem d_SC_takeFigure_31 : decode prog_7_method_9_code 31 = .ok (.iconst 1, 1) := by decide +kernel
theorem d_SC_takeFigure_32 : decode prog_7_method_9_code 32 = .ok (.ireturn, 1) := by decide +kernel
theorem d_SC_takePipes_0 : decode prog_7_method_10_code 0 = .ok (.iconst 0, 1) := by decide +kernel
theorem d_SC_takePipes_1 : decode prog_7_method_10_code 1 = .ok (.istore_n 1, 1) := by decide +kernel
theorem d_SC_takePipes_2 : decode prog_7_method_10_code 2 = .ok (.iload_n 1, 1) := by decide +kernel
theorem d_SC_takePipes_3 : decode prog_7_method_10_code 3 = .ok (.bipush 6, 2) := by decide +kernel
theorem d_SC_takePipes_5 : decode prog_7_method_10_code 5 = .ok (.if_icmp .ge 29, 3) := by decide +kernel
theorem d_SC_takePipes_8 : decode prog_7_method_10_code 8 = .ok (.aload_n 0, 1) := by decide +kernel
theorem d_SC_takePipes_9 : decode prog_7_method_10_code 9 = .ok (.iconst 1, 1) := by decide +kernel
theorem d_SC_takePipes_10 : decode prog_7_method_10_code 10 = .ok (.bipush 9, 2) := by decide +kernel
theorem d_SC_takePipes_12 : decode prog_7_method_10_code 12 = .ok (.invokevirtual 52, 3) := by decide +kernel
theorem d_SC_takePipes_15 : decode prog_7_method_10_code 15 = .ok (.ifCond .eq 19, 3) := by decide +kernel
theorem d_SC_takePipes_18 : decode prog_7_method_10_code 18 = .ok (.aload_n 0, 1) := by decide +kernel
theorem d_SC_takePipes_19 : decode prog_7_method_10_code 19 = .ok (.dup, 1) := by decide +kernel
theorem d_SC_takePipes_20 : decode prog_7_method_10_code 20 = .ok (.getfield 22, 3) := by decide +kernel
theorem d_SC_takePipes_23 : decode prog_7_method_10_code 23 = .ok (.iconst 1, 1) := by decide +kernel
theorem d_SC_takePipes_24 : decode prog_7_method_10_code 24 = .ok (.iadd, 1) := by decide +kernel
theorem d_SC_takePipes_25 : decode prog_7_method_10_code 25 = .ok (.putfield 22, 3) := by decide +kernel
theorem d_SC_takePipes_28 : decode prog_7_method_10_code 28 = .ok (.iinc 1 1, 3) := by decide +kernel
theorem d_SC_takePipes_31 : decode prog_7_method_10_code 31 = .ok (.goto (-29), 3) := by decide +kernel
theorem d_SC_takePipes_34 : decode prog_7_method_10_code 34 = .ok (.aload_n 0, 1) := by decide +kernel
theorem d_SC_takePipes_35 : decode prog_7_method_10_code 35 = .ok (.getfield 22, 3) := by decide +kernel
theorem d_SC_takePipes_38 : decode prog_7_method_10_code 38 = .ok (.ifCond .le 7, 3) := by decide +kernel
theorem d_SC_takePipes_41 : decode prog_7_method_10_code 41 = .ok (.iconst 1, 1) := by decide +kernel
theorem d_SC_takePipes_42 : decode prog_7_method_10_code 42 = .ok (.goto 4, 3) := by decide +kernel
theorem d_SC_takePipes_45 : decode prog_7_method_10_code 45 = .ok (.iconst 0, 1) := by decide +kernel
theorem d_SC_takePipes_46 : decode prog_7_method_10_code 46 = .ok (.ireturn, 1) := by decide +kernel
theorem d_SC_takePeople_0 : decode prog_7_method_11_code 0 = .ok (.iconst 0, 1) := by decide +kernel
theorem d_SC_takePeople_1 : decode prog_7_method_11_code 1 = .ok (.istore_n 1, 1) := by decide +kernel
theorem d_SC_takePeople_2 : decode prog_7_method_11_code 2 = .ok (.iload_n 1, 1) := by decide +kernel
theorem d_SC_takePeople_3 : decode prog_7_method_11_code 3 = .ok (.bipush 12, 2) := by decide +kernel
theorem d_SC_takePeople_5 : decode prog_7_method_11_code 5 = .ok (.if_icmp .ge 63, 3) := by decide +kernel
theorem d_SC_takePeople_8 : decode prog_7_method_11_code 8 = .ok (.aload_n 0, 1) := by decide +kernel
theorem d_SC_takePeople_9 : decode prog_7_method_11_code 9 = .ok (.bipush 77, 2) := by decide +kernel
theorem d_SC_takePeople_11 : decode prog_7_method_11_code 11 = .ok (.invokevirtual 31, 3) := by decide +kernel
theorem d_SC_takePeople_14 : decode prog_7_method_11_code 14 = .ok (.ifCond .eq 54, 3) := by decide +kernel
theorem d_SC_takePeople_17 : decode prog_7_method_11_code 17 = .ok (.aload_n 0, 1) := by decide +kernel
theorem d_SC_takePeople_18 : decode prog_7_method_11_code 18 = .ok (.iconst 1, 1) := by decide +kernel
theorem d_SC_takePeople_19 : decode prog_7_method_11_code 19 = .ok (.bipush 9, 2) := by decide +kernel
theorem d_SC_takePeople_21 : decode prog_7_method_11_code 21 = .ok (.invokevirtual 52, 3) := by decide +kernel
theorem d_SC_takePeople_24 : decode prog_7_method_11_code 24 = .ok (.ifCond .eq 26, 3) := by decide +kernel
theorem d_SC_takePeople_27 : decode prog_7_method_11_code 27 = .ok (.aload_n 0, 1) := by decide +kernel
theorem d_SC_takePeople_28 : decode prog_7_method_11_code 28 = .ok (.iconst 1, 1) := by decide +kernel
theorem d_SC_takePeople_29 : decode prog_7_method_11_code 29 = .ok (.iconst 3, 1) := by decide +kernel
theorem d_SC_takePeople_30 : decode prog_7_method_11_code 30 = .ok (.invokevirtual 52, 3) := by decide +kernel
theorem d_SC_takePeople_33 : decode prog_7_method_11_code 33 = .ok (.ifCond .eq 17, 3) := by decide +kernel
theorem d_SC_takePeople_36 : decode prog_7_method_11_code 36 = .ok (.aload_n 0, 1) := by decide +kernel
theorem d_SC_takePeople_37 : decode prog_7_method_11_code 37 = .ok (.iconst 0, 1) := by decide +kernel
theorem d_SC_takePeople_38 : decode prog_7_method_11_code 38 = .ok (.aload_n 0, 1) := by decide +kernel
theorem d_SC_takePeople_39 : decode prog_7_method_11_code 39 = .ok (.getfield 22, 3) := by decide +kernel
theorem d_SC_takePeople_42 : decode prog_7_method_11_code 42 = .ok (.iconst 1, 1) := by decide +kernel
theorem d_SC_takePeople_43 : decode prog_7_method_11_code 43 = .ok (.isub, 1) := by decide +kernel
theorem d_SC_takePeople_44 : decode prog_7_method_11_code 44 = .ok (.invokevirtual 52, 3) := by decide +kernel
theorem d_SC_takePeople_47 : decode prog_7_method_11_code 47 = .ok (.ifCond .ne 5, 3) := by decide +kernel
theorem d_SC_takePeople_50 : decode prog_7_method_11_code 50 = .ok (.iconst 0, 1) := by decide +kernel
theorem d_SC_takePeople_51 : decode prog_7_method_11_code 51 = .ok (.ireturn, 1) := by decide +kernel
theorem d_SC_takePeople_52 : decode prog_7_method_11_code 52 = .ok (.aload_n 0, 1) := by decide +kernel
theorem d_SC_takePeople_53 : decode prog_7_method_11_code 53 = .ok (.dup, 1) := by decide +kernel
theorem d_SC_takePeople_54 : decode prog_7_method_11_code 54 = .ok (.getfield 25, 3) := by decide +kernel
theorem d_SC_takePeople_57 : decode prog_7_method_11_code 57 = .ok (.iconst 1, 1) := by decide +kernel
theorem d_SC_takePeople_58 : decode prog_7_method_11_code 58 = .ok (.iadd, 1) := by decide +kernel
theorem d_SC_takePeople_59 : decode prog_7_method_11_code 59 = .ok (.putfield 25, 3) := by decide +kernel
theorem d_SC_takePeople_62 : decode prog_7_method_11_code 62 = .ok (.iinc 1 1, 3) := by decide +kernel
theorem d_SC_takePeople_65 : decode prog_7_method_11_code 65 = .ok (.goto (-63), 3) := by decide +kernel
theorem d_SC_takePeople_68 : decode prog_7_method_11_code 68 = .ok (.iconst 1, 1) := by decide +kernel
theorem d_SC_takePeople_69 : decode prog_7_method_11_code 69 = .ok (.ireturn, 1) := by decide +kernel
theorem d_SC_takeHymn_0 : decode prog_7_method_12_code 0 = .ok (.aload_n 0, 1) := by decide +kernel
theorem d_SC_takeHymn_1 : decode prog_7_method_12_code 1 = .ok (.getfield 19, 3) := by decide +kernel
theorem d_SC_takeHymn_4 : decode prog_7_method_12_code 4 = .ok (.aload_n 0, 1) := by decide +kernel
theorem d_SC_takeHymn_5 : decode prog_7_method_12_code 5 = .ok (.getfield 15, 3) := by decide +kernel
theorem d_SC_takeHymn_8 : decode prog_7_method_12_code 8 = .ok (.if_icmp .ne 5, 3) := by decide +kernel
theorem d_SC_takeHymn_11 : decode prog_7_method_12_code 11 = .ok (.iconst 1, 1) := by decide +kernel
theorem d_SC_takeHymn_12 : decode prog_7_method_12_code 12 = .ok (.ireturn, 1) := by decide +kernel
theorem d_SC_takeHymn_13 : decode prog_7_method_12_code 13 = .ok (.aload_n 0, 1) := by decide +kernel
theorem d_SC_takeHymn_14 : decode prog_7_method_12_code 14 = .ok (.bipush 47, 2) := by decide +kernel
theorem d_SC_takeHymn_16 : decode prog_7_method_12_code 16 = .ok (.invokevirtual 31, 3) := by decide +kernel
theorem d_SC_takeHymn_19 : decode prog_7_method_12_code 19 = .ok (.ifCond .ne 5, 3) := by decide +kernel
theorem d_SC_takeHymn_22 : decode prog_7_method_12_code 22 = .ok (.iconst 0, 1) := by decide +kernel
theorem d_SC_takeHymn_23 : decode prog_7_method_12_code 23 = .ok (.ireturn, 1) := by decide +kernel
theorem d_SC_takeHymn_24 : decode prog_7_method_12_code 24 = .ok (.iconst 1, 1) := by decide +kernel
theorem d_SC_takeHymn_25 : decode prog_7_method_12_code 25 = .ok (.aload_n 0, 1) := by decide +kernel
theorem d_SC_takeHymn_26 : decode prog_7_method_12_code 26 = .ok (.getfield 22, 3) := by decide +kernel
theorem d_SC_takeHymn_29 : decode prog_7_method_12_code 29 = .ok (.iconst 3, 1) := by decide +kernel
theorem d_SC_takeHymn_30 : decode prog_7_method_12_code 30 = .ok (.invokestatic 56, 3) := by decide +kernel
theorem d_SC_takeHymn_33 : decode prog_7_method_12_code 33 = .ok (.ishl, 1) := by decide +kernel
theorem d_SC_takeHymn_34 : decode prog_7_method_12_code 34 = .ok (.iconst 1, 1) := by decide +kernel
theorem d_SC_takeHymn_35 : decode prog_7_method_12_code 35 = .ok (.isub, 1) := by decide +kernel
theorem d_SC_takeHymn_36 : decode prog_7_method_12_code 36 = .ok (.istore_n 1, 1) := by decide +kernel
theorem d_SC_takeHymn_37 : decode prog_7_method_12_code 37 = .ok (.iconst 1, 1) := by decide +kernel
theorem d_SC_takeHymn_38 : decode prog_7_method_12_code 38 = .ok (.aload_n 0, 1) := by decide +kernel
theorem d_SC_takeHymn_39 : decode prog_7_method_12_code 39 = .ok (.getfield 22, 3) := by decide +kernel
theorem d_SC_takeHymn_42 : decode prog_7_method_12_code 42 = .ok (.iconst 3, 1) := by decide +kernel
theorem d_SC_takeHymn_43 : decode prog_7_method_12_code 43 = .ok (.isub, 1) := by decide +kernel
theorem d_SC_takeHymn_44 : decode prog_7_method_12_code 44 = .ok (.iconst 0, 1) := by decide +kernel
theorem d_SC_takeHymn_45 : decode prog_7_method_12_code 45 = .ok (.invokestatic 62, 3) := by decide +kernel
theorem d_SC_takeHymn_48 : decode prog_7_method_12_code 48 = .ok (.ishl, 1) := by decide +kernel
theorem d_SC_takeHymn_49 : decode prog_7_method_12_code 49 = .ok (.iconst 1, 1) := by decide +kernel
theorem d_SC_takeHymn_50 : decode prog_7_method_12_code 50 = .ok (.isub, 1) := by decide +kernel
theorem d_SC_takeHymn_51 : decode prog_7_method_12_code 51 = .ok (.istore_n 2, 1) := by decide +kernel
theorem d_SC_takeHymn_52 : decode prog_7_method_12_code 52 = .ok (.iconst 0, 1) := by decide +kernel
theorem d_SC_takeHymn_53 : decode prog_7_method_12_code 53 = .ok (.istore_n 3, 1) := by decide +kernel
theorem d_SC_takeHymn_54 : decode prog_7_method_12_code 54 = .ok (.iload_n 3, 1) := by decide +kernel
theorem d_SC_takeHymn_55 : decode prog_7_method_12_code 55 = .ok (.bipush 24, 2) := by decide +kernel
theorem d_SC_takeHymn_57 : decode prog_7_method_12_code 57 = .ok (.if_icmp .ge 54, 3) := by decide +kernel
theorem d_SC_takeHymn_60 : decode prog_7_method_12_code 60 = .ok (.iload_n 3, 1) := by decide +kernel
theorem d_SC_takeHymn_61 : decode prog_7_method_12_code 61 = .ok (.ifCond .eq 14, 3) := by decide +kernel
theorem d_SC_takeHymn_64 : decode prog_7_method_12_code 64 = .ok (.aload_n 0, 1) := by decide +kernel
theorem d_SC_takeHymn_65 : decode prog_7_method_12_code 65 = .ok (.getfield 19, 3) := by decide +kernel
theorem d_SC_takeHymn_68 : decode prog_7_method_12_code 68 = .ok (.aload_n 0, 1) := by decide +kernel
theorem d_SC_takeHymn_69 : decode prog_7_method_12_code 69 = .ok (.getfield 15, 3) := by decide +kernel
theorem d_SC_takeHymn_72 : decode prog_7_method_12_code 72 = .ok (.if_icmp .ge 39, 3) := by decide +kernel
theorem d_SC_takeHymn_75 : decode prog_7_method_12_code 75 = .ok (.aload_n 0, 1) := by decide +kernel
theorem d_SC_takeHymn_76 : decode prog_7_method_12_code 76 = .ok (.iconst 0, 1) := by decide +kernel
theorem d_SC_takeHymn_77 : decode prog_7_method_12_code 77 = .ok (.iload_n 1, 1) := by decide +kernel
theorem d_SC_takeHymn_78 : decode prog_7_method_12_code 78 = .ok (.invokevirtual 52, 3) := by decide +kernel
theorem d_SC_takeHymn_81 : decode prog_7_method_12_code 81 = .ok (.ifCond .eq 12, 3) := by decide +kernel
theorem d_SC_takeHymn_84 : decode prog_7_method_12_code 84 = .ok (.aload_n 0, 1) := by decide +kernel
theorem d_SC_takeHymn_85 : decode prog_7_method_12_code 85 = .ok (.iconst 0, 1) := by decide +kernel
theorem d_SC_takeHymn_86 : decode prog_7_method_12_code 86 = .ok (.iload_n 2, 1) := by decide +kernel
theorem d_SC_takeHymn_87 : decode prog_7_method_12_code 87 = .ok (.invokevirtual 52, 3) := by decide +kernel
theorem d_SC_takeHymn_90 : decode prog_7_method_12_code 90 = .ok (.ifCond .ne 5, 3) := by decide +kernel
theorem d_SC_takeHymn_93 : decode prog_7_method_12_code 93 = .ok (.iconst 0, 1) := by decide +kernel
theorem d_SC_takeHymn_94 : decode prog_7_method_12_code 94 = .ok (.ireturn, 1) := by decide +kernel
theorem d_SC_takeHymn_95 : decode prog_7_method_12_code 95 = .ok (.aload_n 0, 1) := by decide +kernel
theorem d_SC_takeHymn_96 : decode prog_7_method_12_code 96 = .ok (.dup, 1) := by decide +kernel
theorem d_SC_takeHymn_97 : decode prog_7_method_12_code 97 = .ok (.getfield 28, 3) := by decide +kernel
theorem d_SC_takeHymn_100 : decode prog_7_method_12_code 100 = .ok (.iconst 1, 1) := by decide +kernel
theorem d_SC_takeHymn_101 : decode prog_7_method_12_code 101 = .ok (.iadd, 1) := by decide +kernel
theorem d_SC_takeHymn_102 : decode prog_7_method_12_code 102 = .ok (.putfield 28, 3) := by decide +kernel
theorem d_SC_takeHymn_105 : decode prog_7_method_12_code 105 = .ok (.iinc 3 1, 3) := by decide +kernel
theorem d_SC_takeHymn_108 : decode prog_7_method_12_code 108 = .ok (.goto (-54), 3) := by decide +kernel
theorem d_SC_takeHymn_111 : decode prog_7_method_12_code 111 = .ok (.iconst 1, 1) := by decide +kernel
theorem d_SC_takeHymn_112 : decode prog_7_method_12_code 112 = .ok (.ireturn, 1) := by decide +kernel
theorem d_SC_thirstRead_0 : decode prog_7_method_13_code 0 = .ok (.aload_n 0, 1) := by decide +kernel
theorem d_SC_thirstRead_1 : decode prog_7_method_13_code 1 = .ok (.iconst 1, 1) := by decide +kernel
theorem d_SC_thirstRead_2 : decode prog_7_method_13_code 2 = .ok (.iload_n 1, 1) := by decide +kernel
theorem d_SC_thirstRead_3 : decode prog_7_method_13_code 3 = .ok (.iadd, 1) := by decide +kernel
theorem d_SC_thirstRead_4 : decode prog_7_method_13_code 4 = .ok (.invokevirtual 49, 3) := by decide +kernel
theorem d_SC_thirstRead_7 : decode prog_7_method_13_code 7 = .ok (.ireturn, 1) := by decide +kernel
theorem d_SC_personRead_0 : decode prog_7_method_14_code 0 = .ok (.aload_n 0, 1) := by decide +kernel
theorem d_SC_personRead_1 : decode prog_7_method_14_code 1 = .ok (.iconst 2, 1) := by decide +kernel
theorem d_SC_personRead_2 : decode prog_7_method_14_code 2 = .ok (.aload_n 0, 1) := by decide +kernel
theorem d_SC_personRead_3 : decode prog_7_method_14_code 3 = .ok (.getfield 22, 3) := by decide +kernel
theorem d_SC_personRead_6 : decode prog_7_method_14_code 6 = .ok (.iadd, 1) := by decide +kernel
theorem d_SC_personRead_7 : decode prog_7_method_14_code 7 = .ok (.iconst 4, 1) := by decide +kernel
theorem d_SC_personRead_8 : decode prog_7_method_14_code 8 = .ok (.iload_n 1, 1) := by decide +kernel
theorem d_SC_personRead_9 : decode prog_7_method_14_code 9 = .ok (.imul, 1) := by decide +kernel
theorem d_SC_personRead_10 : decode prog_7_method_14_code 10 = .ok (.iadd, 1) := by decide +kernel
theorem d_SC_personRead_11 : decode prog_7_method_14_code 11 = .ok (.iload_n 2, 1) := by decide +kernel
theorem d_SC_personRead_12 : decode prog_7_method_14_code 12 = .ok (.iadd, 1) := by decide +kernel
theorem d_SC_personRead_13 : decode prog_7_method_14_code 13 = .ok (.invokevirtual 49, 3) := by decide +kernel
theorem d_SC_personRead_16 : decode prog_7_method_14_code 16 = .ok (.ireturn, 1) := by decide +kernel
theorem d_SC_beatRead_0 : decode prog_7_method_15_code 0 = .ok (.iconst 2, 1) := by decide +kernel
theorem d_SC_beatRead_1 : decode prog_7_method_15_code 1 = .ok (.aload_n 0, 1) := by decide +kernel
theorem d_SC_beatRead_2 : decode prog_7_method_15_code 2 = .ok (.getfield 22, 3) := by decide +kernel
theorem d_SC_beatRead_5 : decode prog_7_method_15_code 5 = .ok (.iadd, 1) := by decide +kernel
theorem d_SC_beatRead_6 : decode prog_7_method_15_code 6 = .ok (.iconst 4, 1) := by decide +kernel
theorem d_SC_beatRead_7 : decode prog_7_method_15_code 7 = .ok (.aload_n 0, 1) := by decide +kernel
theorem d_SC_beatRead_8 : decode prog_7_method_15_code 8 = .ok (.getfield 25, 3) := by decide +kernel
theorem d_SC_beatRead_11 : decode prog_7_method_15_code 11 = .ok (.imul, 1) := by decide +kernel
theorem d_SC_beatRead_12 : decode prog_7_method_15_code 12 = .ok (.iadd, 1) := by decide +kernel
theorem d_SC_beatRead_13 : decode prog_7_method_15_code 13 = .ok (.iconst 2, 1) := by decide +kernel
theorem d_SC_beatRead_14 : decode prog_7_method_15_code 14 = .ok (.iload_n 1, 1) := by decide +kernel
theorem d_SC_beatRead_15 : decode prog_7_method_15_code 15 = .ok (.imul, 1) := by decide +kernel
theorem d_SC_beatRead_16 : decode prog_7_method_15_code 16 = .ok (.iadd, 1) := by decide +kernel
theorem d_SC_beatRead_17 : decode prog_7_method_15_code 17 = .ok (.istore_n 2, 1) := by decide +kernel
theorem d_SC_beatRead_18 : decode prog_7_method_15_code 18 = .ok (.aload_n 0, 1) := by decide +kernel
theorem d_SC_beatRead_19 : decode prog_7_method_15_code 19 = .ok (.iload_n 2, 1) := by decide +kernel
theorem d_SC_beatRead_20 : decode prog_7_method_15_code 20 = .ok (.invokevirtual 49, 3) := by decide +kernel
theorem d_SC_beatRead_23 : decode prog_7_method_15_code 23 = .ok (.aload_n 0, 1) := by decide +kernel
theorem d_SC_beatRead_24 : decode prog_7_method_15_code 24 = .ok (.iload_n 2, 1) := by decide +kernel
theorem d_SC_beatRead_25 : decode prog_7_method_15_code 25 = .ok (.iconst 1, 1) := by decide +kernel
theorem d_SC_beatRead_26 : decode prog_7_method_15_code 26 = .ok (.iadd, 1) := by decide +kernel
theorem d_SC_beatRead_27 : decode prog_7_method_15_code 27 = .ok (.invokevirtual 49, 3) := by decide +kernel
theorem d_SC_beatRead_30 : decode prog_7_method_15_code 30 = .ok (.iconst 3, 1) := by decide +kernel
theorem d_SC_beatRead_31 : decode prog_7_method_15_code 31 = .ok (.ishl, 1) := by decide +kernel
theorem d_SC_beatRead_32 : decode prog_7_method_15_code 32 = .ok (.ior, 1) := by decide +kernel
theorem d_SC_beatRead_33 : decode prog_7_method_15_code 33 = .ok (.ireturn, 1) := by decide +kernel
end
section
/-! decode rows -/
theorem d_SE_init_0 : decode prog_8_method_1_code 0 = .ok (.aload_n 0, 1) := by decide +kernel
theorem d_SE_init_1 : decode prog_8_method_1_code 1 = .ok (.invokespecial 3, 3) := by decide +kernel
theorem d_SE_init_4 : decode prog_8_method_1_code 4 = .ok (.aload_n 0, 1) := by decide +kernel
theorem d_SE_init_5 : decode prog_8_method_1_code 5 = .ok (.aload_n 1, 1) := by decide +kernel
theorem d_SE_init_6 : decode prog_8_method_1_code 6 = .ok (.putfield 9, 3) := by decide +kernel
theorem d_SE_init_9 : decode prog_8_method_1_code 9 = .ok (.aload_n 0, 1) := by decide +kernel
theorem d_SE_init_10 : decode prog_8_method_1_code 10 = .ok (.aload_n 2, 1) := by decide +kernel
theorem d_SE_init_11 : decode prog_8_method_1_code 11 = .ok (.putfield 15, 3) := by decide +kernel
theorem d_SE_init_14 : decode prog_8_method_1_code 14 = .ok (.aload_n 0, 1) := by decide +kernel
theorem d_SE_init_15 : decode prog_8_method_1_code 15 = .ok (.aload_n 3, 1) := by decide +kernel
theorem d_SE_init_16 : decode prog_8_method_1_code 16 = .ok (.putfield 19, 3) := by decide +kernel
theorem d_SE_init_19 : decode prog_8_method_1_code 19 = .ok (.aload_n 0, 1) := by decide +kernel
theorem d_SE_init_20 : decode prog_8_method_1_code 20 = .ok (.sipush 384, 3) := by decide +kernel
theorem d_SE_init_23 : decode prog_8_method_1_code 23 = .ok (.newarray .int, 2) := by decide +kernel
theorem d_SE_init_25 : decode prog_8_method_1_code 25 = .ok (.putfield 23, 3) := by decide +kernel
theorem d_SE_init_28 : decode prog_8_method_1_code 28 = .ok (.aload_n 0, 1) := by decide +kernel
theorem d_SE_init_29 : decode prog_8_method_1_code 29 = .ok (.bipush 64, 2) := by decide +kernel
theorem d_SE_init_31 : decode prog_8_method_1_code 31 = .ok (.newarray .int, 2) := by decide +kernel
theorem d_SE_init_33 : decode prog_8_method_1_code 33 = .ok (.putfield 27, 3) := by decide +kernel
theorem d_SE_init_36 : decode prog_8_method_1_code 36 = .ok (.return_, 1) := by decide +kernel
theorem d_SE_find_0 : decode prog_8_method_2_code 0 = .ok (.aload_n 0, 1) := by decide +kernel
theorem d_SE_find_1 : decode prog_8_method_2_code 1 = .ok (.getfield 15, 3) := by decide +kernel
theorem d_SE_find_4 : decode prog_8_method_2_code 4 = .ok (.getfield 30, 3) := by decide +kernel
theorem d_SE_find_7 : decode prog_8_method_2_code 7 = .ok (.bipush 6, 2) := by decide +kernel
theorem d_SE_find_9 : decode prog_8_method_2_code 9 = .ok (.if_icmp .le 5, 3) := by decide +kernel
theorem d_SE_find_12 : decode prog_8_method_2_code 12 = .ok (.iconst 0, 1) := by decide +kernel
theorem d_SE_find_13 : decode prog_8_method_2_code 13 = .ok (.ireturn, 1) := by decide +kernel
theorem d_SE_find_14 : decode prog_8_method_2_code 14 = .ok (.iconst 1, 1) := by decide +kernel
theorem d_SE_find_15 : decode prog_8_method_2_code 15 = .ok (.aload_n 0, 1) := by decide +kernel
theorem d_SE_find_16 : decode prog_8_method_2_code 16 = .ok (.getfield 15, 3) := by decide +kernel
theorem d_SE_find_19 : decode prog_8_method_2_code 19 = .ok (.getfield 30, 3) := by decide +kernel
theorem d_SE_find_22 : decode prog_8_method_2_code 22 = .ok (.ishl, 1) := by decide +kernel
theorem d_SE_find_23 : decode prog_8_method_2_code 23 = .ok (.istore_n 1, 1) := by decide +kernel
theorem d_SE_find_24 : decode prog_8_method_2_code 24 = .ok (.iconst 0, 1) := by decide +kernel
theorem d_SE_find_25 : decode prog_8_method_2_code 25 = .ok (.istore_n 2, 1) := by decide +kernel
theorem d_SE_find_26 : decode prog_8_method_2_code 26 = .ok (.iload_n 2, 1) := by decide +kernel
theorem d_SE_find_27 : decode prog_8_method_2_code 27 = .ok (.iload_n 1, 1) := by decide +kernel
theorem d_SE_find_28 : decode prog_8_method_2_code 28 = .ok (.if_icmp .ge 26, 3) := by decide +kernel
theorem d_SE_find_31 : decode prog_8_method_2_code 31 = .ok (.aload_n 0, 1) := by decide +kernel
theorem d_SE_find_32 : decode prog_8_method_2_code 32 = .ok (.iload_n 2, 1) := by decide +kernel
theorem d_SE_find_33 : decode prog_8_method_2_code 33 = .ok (.invokevirtual 36, 3) := by decide +kernel
theorem d_SE_find_36 : decode prog_8_method_2_code 36 = .ok (.aload_n 0, 1) := by decide +kernel
theorem d_SE_find_37 : decode prog_8_method_2_code 37 = .ok (.getfield 27, 3) := by decide +kernel
theorem d_SE_find_40 : decode prog_8_method_2_code 40 = .ok (.iload_n 2, 1) := by decide +kernel
theorem d_SE_find_41 : decode prog_8_method_2_code 41 = .ok (.aload_n 0, 1) := by decide +kernel
theorem d_SE_find_42 : decode prog_8_method_2_code 42 = .ok (.getfield 23, 3) := by decide +kernel
theorem d_SE_find_45 : decode prog_8_method_2_code 45 = .ok (.iload_n 2, 1) := by decide +kernel
theorem d_SE_find_46 : decode prog_8_method_2_code 46 = .ok (.iaload, 1) := by decide +kernel
theorem d_SE_find_47 : decode prog_8_method_2_code 47 = .ok (.iastore, 1) := by decide +kernel
theorem d_SE_find_48 : decode prog_8_method_2_code 48 = .ok (.iinc 2 1, 3) := by decide +kernel
theorem d_SE_find_51 : decode prog_8_method_2_code 51 = .ok (.goto (-25), 3) := by decide +kernel
theorem d_SE_find_54 : decode prog_8_method_2_code 54 = .ok (.iconst 1, 1) := by decide +kernel
theorem d_SE_find_55 : decode prog_8_method_2_code 55 = .ok (.istore_n 2, 1) := by decide +kernel
theorem d_SE_find_56 : decode prog_8_method_2_code 56 = .ok (.iload_n 2, 1) := by decide +kernel
theorem d_SE_find_57 : decode prog_8_method_2_code 57 = .ok (.aload_n 0, 1) := by decide +kernel
theorem d_SE_find_58 : decode prog_8_method_2_code 58 = .ok (.getfield 9, 3) := by decide +kernel
theorem d_SE_find_61 : decode prog_8_method_2_code 61 = .ok (.getfield 40, 3) := by decide +kernel
theorem d_SE_find_64 : decode prog_8_method_2_code 64 = .ok (.if_icmp .ge 35, 3) := by decide +kernel
theorem d_SE_find_67 : decode prog_8_method_2_code 67 = .ok (.iload_n 1, 1) := by decide +kernel
theorem d_SE_find_68 : decode prog_8_method_2_code 68 = .ok (.iconst 1, 1) := by decide +kernel
theorem d_SE_find_69 : decode prog_8_method_2_code 69 = .ok (.isub, 1) := by decide +kernel
theorem d_SE_find_70 : decode prog_8_method_2_code 70 = .ok (.istore_n 3, 1) := by decide +kernel
theorem d_SE_find_71 : decode prog_8_method_2_code 71 = .ok (.iload_n 3, 1) := by decide +kernel
theorem d_SE_find_72 : decode prog_8_method_2_code 72 = .ok (.ifCond .lt 21, 3) := by decide +kernel
theorem d_SE_find_75 : decode prog_8_method_2_code 75 = .ok (.aload_n 0, 1) := by decide +kernel
theorem d_SE_find_76 : decode prog_8_method_2_code 76 = .ok (.getfield 27, 3) := by decide +kernel
theorem d_SE_find_79 : decode prog_8_method_2_code 79 = .ok (.iload_n 3, 1) := by decide +kernel
theorem d_SE_find_80 : decode prog_8_method_2_code 80 = .ok (.aload_n 0, 1) := by decide +kernel
theorem d_SE_find_81 : decode prog_8_method_2_code 81 = .ok (.iload_n 2, 1) := by decide +kernel
theorem d_SE_find_82 : decode prog_8_method_2_code 82 = .ok (.iload_n 3, 1) := by decide +kernel
theorem d_SE_find_83 : decode prog_8_method_2_code 83 = .ok (.invokevirtual 43, 3) := by decide +kernel
theorem d_SE_find_86 : decode prog_8_method_2_code 86 = .ok (.iastore, 1) := by decide +kernel
theorem d_SE_find_87 : decode prog_8_method_2_code 87 = .ok (.iinc 3 (-1), 3) := by decide +kernel
theorem d_SE_find_90 : decode prog_8_method_2_code 90 = .ok (.goto (-19), 3) := by decide +kernel
theorem d_SE_find_93 : decode prog_8_method_2_code 93 = .ok (.iinc 2 1, 3) := by decide +kernel
theorem d_SE_find_96 : decode prog_8_method_2_code 96 = .ok (.goto (-40), 3) := by decide +kernel
theorem d_SE_find_99 : decode prog_8_method_2_code 99 = .ok (.iconst 1, 1) := by decide +kernel
theorem d_SE_find_100 : decode prog_8_method_2_code 100 = .ok (.ireturn, 1) := by decide +kernel
theorem d_SE_setPrices_0 : decode prog_8_method_3_code 0 = .ok (.aload_n 0, 1) := by decide +kernel
theorem d_SE_setPrices_1 : decode prog_8_method_3_code 1 = .ok (.getfield 19, 3) := by decide +kernel
theorem d_SE_setPrices_4 : decode prog_8_method_3_code 4 = .ok (.iload_n 1, 1) := by decide +kernel
theorem d_SE_setPrices_5 : decode prog_8_method_3_code 5 = .ok (.aload_n 0, 1) := by decide +kernel
theorem d_SE_setPrices_6 : decode prog_8_method_3_code 6 = .ok (.getfield 15, 3) := by decide +kernel
theorem d_SE_setPrices_9 : decode prog_8_method_3_code 9 = .ok (.getfield 47, 3) := by decide +kernel
theorem d_SE_setPrices_12 : decode prog_8_method_3_code 12 = .ok (.invokevirtual 50, 3) := by decide +kernel
theorem d_SE_setPrices_15 : decode prog_8_method_3_code 15 = .ok (.iload_n 1, 1) := by decide +kernel
theorem d_SE_setPrices_16 : decode prog_8_method_3_code 16 = .ok (.invokestatic 56, 3) := by decide +kernel
theorem d_SE_setPrices_19 : decode prog_8_method_3_code 19 = .ok (.istore_n 2, 1) := by decide +kernel
theorem d_SE_setPrices_20 : decode prog_8_method_3_code 20 = .ok (.iconst 0, 1) := by decide +kernel
theorem d_SE_setPrices_21 : decode prog_8_method_3_code 21 = .ok (.istore_n 3, 1) := by decide +kernel
theorem d_SE_setPrices_22 : decode prog_8_method_3_code 22 = .ok (.iload_n 3, 1) := by decide +kernel
theorem d_SE_setPrices_23 : decode prog_8_method_3_code 23 = .ok (.aload_n 0, 1) := by decide +kernel
theorem d_SE_setPrices_24 : decode prog_8_method_3_code 24 = .ok (.getfield 9, 3) := by decide +kernel
theorem d_SE_setPrices_27 : decode prog_8_method_3_code 27 = .ok (.getfield 40, 3) := by decide +kernel
theorem d_SE_setPrices_30 : decode prog_8_method_3_code 30 = .ok (.if_icmp .ge 35, 3) := by decide +kernel
theorem d_SE_setPrices_33 : decode prog_8_method_3_code 33 = .ok (.aload_n 0, 1) := by decide +kernel
theorem d_SE_setPrices_34 : decode prog_8_method_3_code 34 = .ok (.getfield 23, 3) := by decide +kernel
theorem d_SE_setPrices_37 : decode prog_8_method_3_code 37 = .ok (.iload_n 3, 1) := by decide +kernel
theorem d_SE_setPrices_38 : decode prog_8_method_3_code 38 = .ok (.bipush 64, 2) := by decide +kernel
theorem d_SE_setPrices_40 : decode prog_8_method_3_code 40 = .ok (.imul, 1) := by decide +kernel
theorem d_SE_setPrices_41 : decode prog_8_method_3_code 41 = .ok (.iload_n 1, 1) := by decide +kernel
theorem d_SE_setPrices_42 : decode prog_8_method_3_code 42 = .ok (.iadd, 1) := by decide +kernel
theorem d_SE_setPrices_43 : decode prog_8_method_3_code 43 = .ok (.aload_n 0, 1) := by decide +kernel
theorem d_SE_setPrices_44 : decode prog_8_method_3_code 44 = .ok (.getfield 19, 3) := by decide +kernel
theorem d_SE_setPrices_47 : decode prog_8_method_3_code 47 = .ok (.iload_n 3, 1) := by decide +kernel
theorem d_SE_setPrices_48 : decode prog_8_method_3_code 48 = .ok (.invokevirtual 60, 3) := by decide +kernel
theorem d_SE_setPrices_51 : decode prog_8_method_3_code 51 = .ok (.ldc 63, 2) := by decide +kernel
theorem d_SE_setPrices_53 : decode prog_8_method_3_code 53 = .ok (.imul, 1) := by decide +kernel
theorem d_SE_setPrices_54 : decode prog_8_method_3_code 54 = .ok (.iload_n 3, 1) := by decide +kernel
theorem d_SE_setPrices_55 : decode prog_8_method_3_code 55 = .ok (.iload_n 2, 1) := by decide +kernel
theorem d_SE_setPrices_56 : decode prog_8_method_3_code 56 = .ok (.imul, 1) := by decide +kernel
theorem d_SE_setPrices_57 : decode prog_8_method_3_code 57 = .ok (.iadd, 1) := by decide +kernel
theorem d_SE_setPrices_58 : decode prog_8_method_3_code 58 = .ok (.iastore, 1) := by decide +kernel
theorem d_SE_setPrices_59 : decode prog_8_method_3_code 59 = .ok (.iinc 3 1, 3) := by decide +kernel
theorem d_SE_setPrices_62 : decode prog_8_method_3_code 62 = .ok (.goto (-40), 3) := by decide +kernel
theorem d_SE_setPrices_65 : decode prog_8_method_3_code 65 = .ok (.return_, 1) := by decide +kernel
theorem d_SE_seatsOf_0 : decode prog_8_method_4_code 0 = .ok (.iconst 0, 1) := by decide +kernel
theorem d_SE_seatsOf_1 : decode prog_8_method_4_code 1 = .ok (.istore_n 1, 1) := by decide +kernel
theorem d_SE_seatsOf_2 : decode prog_8_method_4_code 2 = .ok (.iconst 0, 1) := by decide +kernel
theorem d_SE_seatsOf_3 : decode prog_8_method_4_code 3 = .ok (.istore_n 2, 1) := by decide +kernel
theorem d_SE_seatsOf_4 : decode prog_8_method_4_code 4 = .ok (.iload_n 2, 1) := by decide +kernel
theorem d_SE_seatsOf_5 : decode prog_8_method_4_code 5 = .ok (.bipush 6, 2) := by decide +kernel
theorem d_SE_seatsOf_7 : decode prog_8_method_4_code 7 = .ok (.if_icmp .ge 26, 3) := by decide +kernel
theorem d_SE_seatsOf_10 : decode prog_8_method_4_code 10 = .ok (.iload_n 0, 1) := by decide +kernel
theorem d_SE_seatsOf_11 : decode prog_8_method_4_code 11 = .ok (.iload_n 2, 1) := by decide +kernel
theorem d_SE_seatsOf_12 : decode prog_8_method_4_code 12 = .ok (.ishr, 1) := by decide +kernel
theorem d_SE_seatsOf_13 : decode prog_8_method_4_code 13 = .ok (.iconst 1, 1) := by decide +kernel
theorem d_SE_seatsOf_14 : decode prog_8_method_4_code 14 = .ok (.iand, 1) := by decide +kernel
theorem d_SE_seatsOf_15 : decode prog_8_method_4_code 15 = .ok (.iconst 1, 1) := by decide +kernel
theorem d_SE_seatsOf_16 : decode prog_8_method_4_code 16 = .ok (.if_icmp .ne 11, 3) := by decide +kernel
theorem d_SE_seatsOf_19 : decode prog_8_method_4_code 19 = .ok (.iload_n 1, 1) := by decide +kernel
theorem d_SE_seatsOf_20 : decode prog_8_method_4_code 20 = .ok (.getstatic 64, 3) := by decide +kernel
theorem d_SE_seatsOf_23 : decode prog_8_method_4_code 23 = .ok (.iload_n 2, 1) := by decide +kernel
theorem d_SE_seatsOf_24 : decode prog_8_method_4_code 24 = .ok (.iaload, 1) := by decide +kernel
theorem d_SE_seatsOf_25 : decode prog_8_method_4_code 25 = .ok (.iadd, 1) := by decide +kernel
theorem d_SE_seatsOf_26 : decode prog_8_method_4_code 26 = .ok (.istore_n 1, 1) := by decide +kernel
theorem d_SE_seatsOf_27 : decode prog_8_method_4_code 27 = .ok (.iinc 2 1, 3) := by decide +kernel
theorem d_SE_seatsOf_30 : decode prog_8_method_4_code 30 = .ok (.goto (-26), 3) := by decide +kernel
theorem d_SE_seatsOf_33 : decode prog_8_method_4_code 33 = .ok (.iload_n 1, 1) := by decide +kernel
theorem d_SE_seatsOf_34 : decode prog_8_method_4_code 34 = .ok (.ireturn, 1) := by decide +kernel
theorem d_SE_bestWith_0 : decode prog_8_method_5_code 0 = .ok (.ldc 69, 2) := by decide +kernel
theorem d_SE_bestWith_2 : decode prog_8_method_5_code 2 = .ok (.istore_n 3, 1) := by decide +kernel
theorem d_SE_bestWith_3 : decode prog_8_method_5_code 3 = .ok (.iconst 0, 1) := by decide +kernel
theorem d_SE_bestWith_4 : decode prog_8_method_5_code 4 = .ok (.istore 4, 2) := by decide +kernel
theorem d_SE_bestWith_6 : decode prog_8_method_5_code 6 = .ok (.iload 4, 2) := by decide +kernel
theorem d_SE_bestWith_8 : decode prog_8_method_5_code 8 = .ok (.iload_n 2, 1) := by decide +kernel
theorem d_SE_bestWith_9 : decode prog_8_method_5_code 9 = .ok (.if_icmp .gt 47, 3) := by decide +kernel
theorem d_SE_bestWith_12 : decode prog_8_method_5_code 12 = .ok (.iload 4, 2) := by decide +kernel
theorem d_SE_bestWith_14 : decode prog_8_method_5_code 14 = .ok (.iload_n 2, 1) := by decide +kernel
theorem d_SE_bestWith_15 : decode prog_8_method_5_code 15 = .ok (.iconst (-1), 1) := by decide +kernel
theorem d_SE_bestWith_16 : decode prog_8_method_5_code 16 = .ok (.ixor, 1) := by decide +kernel
theorem d_SE_bestWith_17 : decode prog_8_method_5_code 17 = .ok (.iand, 1) := by decide +kernel
theorem d_SE_bestWith_18 : decode prog_8_method_5_code 18 = .ok (.ifCond .ne 32, 3) := by decide +kernel
theorem d_SE_bestWith_21 : decode prog_8_method_5_code 21 = .ok (.iload_n 3, 1) := by decide +kernel
theorem d_SE_bestWith_22 : decode prog_8_method_5_code 22 = .ok (.aload_n 0, 1) := by decide +kernel
theorem d_SE_bestWith_23 : decode prog_8_method_5_code 23 = .ok (.getfield 23, 3) := by decide +kernel
theorem d_SE_bestWith_26 : decode prog_8_method_5_code 26 = .ok (.iload_n 1, 1) := by decide +kernel
theorem d_SE_bestWith_27 : decode prog_8_method_5_code 27 = .ok (.bipush 64, 2) := by decide +kernel
theorem d_SE_bestWith_29 : decode prog_8_method_5_code 29 = .ok (.imul, 1) := by decide +kernel
theorem d_SE_bestWith_30 : decode prog_8_method_5_code 30 = .ok (.iload 4, 2) := by decide +kernel
theorem d_SE_bestWith_32 : decode prog_8_method_5_code 32 = .ok (.iadd, 1) := by decide +kernel
theorem d_SE_bestWith_33 : decode prog_8_method_5_code 33 = .ok (.iaload, 1) := by decide +kernel
theorem d_SE_bestWith_34 : decode prog_8_method_5_code 34 = .ok (.aload_n 0, 1) := by decide +kernel
theorem d_SE_bestWith_35 : decode prog_8_method_5_code 35 = .ok (.getfield 27, 3) := by decide +kernel
theorem d_SE_bestWith_38 : decode prog_8_method_5_code 38 = .ok (.iload_n 2, 1) := by decide +kernel
theorem d_SE_bestWith_39 : decode prog_8_method_5_code 39 = .ok (.iload 4, 2) := by decide +kernel
theorem d_SE_bestWith_41 : decode prog_8_method_5_code 41 = .ok (.iconst (-1), 1) := by decide +kernel
theorem d_SE_bestWith_42 : decode prog_8_method_5_code 42 = .ok (.ixor, 1) := by decide +kernel
theorem d_SE_bestWith_43 : decode prog_8_method_5_code 43 = .ok (.iand, 1) := by decide +kernel
theorem d_SE_bestWith_44 : decode prog_8_method_5_code 44 = .ok (.iaload, 1) := by decide +kernel
theorem d_SE_bestWith_45 : decode prog_8_method_5_code 45 = .ok (.iadd, 1) := by decide +kernel
theorem d_SE_bestWith_46 : decode prog_8_method_5_code 46 = .ok (.invokestatic 70, 3) := by decide +kernel
theorem d_SE_bestWith_49 : decode prog_8_method_5_code 49 = .ok (.istore_n 3, 1) := by decide +kernel
theorem d_SE_bestWith_50 : decode prog_8_method_5_code 50 = .ok (.iinc 4 1, 3) := by decide +kernel
theorem d_SE_bestWith_53 : decode prog_8_method_5_code 53 = .ok (.goto (-47), 3) := by decide +kernel
theorem d_SE_bestWith_56 : decode prog_8_method_5_code 56 = .ok (.iload_n 3, 1) := by decide +kernel
theorem d_SE_bestWith_57 : decode prog_8_method_5_code 57 = .ok (.ireturn, 1) := by decide +kernel
theorem d_SE_plan_0 : decode prog_8_method_6_code 0 = .ok (.aload_n 0, 1) := by decide +kernel
theorem d_SE_plan_1 : decode prog_8_method_6_code 1 = .ok (.getfield 27, 3) := by decide +kernel
theorem d_SE_plan_4 : decode prog_8_method_6_code 4 = .ok (.iconst 1, 1) := by decide +kernel
theorem d_SE_plan_5 : decode prog_8_method_6_code 5 = .ok (.aload_n 0, 1) := by decide +kernel
theorem d_SE_plan_6 : decode prog_8_method_6_code 6 = .ok (.getfield 15, 3) := by decide +kernel
theorem d_SE_plan_9 : decode prog_8_method_6_code 9 = .ok (.getfield 30, 3) := by decide +kernel
theorem d_SE_plan_12 : decode prog_8_method_6_code 12 = .ok (.bipush 6, 2) := by decide +kernel
theorem d_SE_plan_14 : decode prog_8_method_6_code 14 = .ok (.invokestatic 70, 3) := by decide +kernel
theorem d_SE_plan_17 : decode prog_8_method_6_code 17 = .ok (.ishl, 1) := by decide +kernel
theorem d_SE_plan_18 : decode prog_8_method_6_code 18 = .ok (.iconst 1, 1) := by decide +kernel
theorem d_SE_plan_19 : decode prog_8_method_6_code 19 = .ok (.isub, 1) := by decide +kernel
theorem d_SE_plan_20 : decode prog_8_method_6_code 20 = .ok (.iaload, 1) := by decide +kernel
theorem d_SE_plan_21 : decode prog_8_method_6_code 21 = .ok (.ireturn, 1) := by decide +kernel
theorem d_SE_least_0 : decode prog_8_method_7_code 0 = .ok (.aload_n 0, 1) := by decide +kernel
theorem d_SE_least_1 : decode prog_8_method_7_code 1 = .ok (.invokevirtual 75, 3) := by decide +kernel
theorem d_SE_least_4 : decode prog_8_method_7_code 4 = .ok (.ldc 63, 2) := by decide +kernel
theorem d_SE_least_6 : decode prog_8_method_7_code 6 = .ok (.idiv, 1) := by decide +kernel
theorem d_SE_least_7 : decode prog_8_method_7_code 7 = .ok (.ireturn, 1) := by decide +kernel
theorem d_SE_placeOf_0 : decode prog_8_method_8_code 0 = .ok (.iload_n 1, 1) := by decide +kernel
theorem d_SE_placeOf_1 : decode prog_8_method_8_code 1 = .ok (.ifCond .lt 25, 3) := by decide +kernel
theorem d_SE_placeOf_4 : decode prog_8_method_8_code 4 = .ok (.iload_n 1, 1) := by decide +kernel
theorem d_SE_placeOf_5 : decode prog_8_method_8_code 5 = .ok (.bipush 6, 2) := by decide +kernel
theorem d_SE_placeOf_7 : decode prog_8_method_8_code 7 = .ok (.if_icmp .ge 19, 3) := by decide +kernel
theorem d_SE_placeOf_10 : decode prog_8_method_8_code 10 = .ok (.aload_n 0, 1) := by decide +kernel
theorem d_SE_placeOf_11 : decode prog_8_method_8_code 11 = .ok (.invokevirtual 75, 3) := by decide +kernel
theorem d_SE_placeOf_14 : decode prog_8_method_8_code 14 = .ok (.getstatic 64, 3) := by decide +kernel
theorem d_SE_placeOf_17 : decode prog_8_method_8_code 17 = .ok (.iload_n 1, 1) := by decide +kernel
theorem d_SE_placeOf_18 : decode prog_8_method_8_code 18 = .ok (.iaload, 1) := by decide +kernel
theorem d_SE_placeOf_19 : decode prog_8_method_8_code 19 = .ok (.idiv, 1) := by decide +kernel
theorem d_SE_placeOf_20 : decode prog_8_method_8_code 20 = .ok (.bipush 6, 2) := by decide +kernel
theorem d_SE_placeOf_22 : decode prog_8_method_8_code 22 = .ok (.irem, 1) := by decide +kernel
theorem d_SE_placeOf_23 : decode prog_8_method_8_code 23 = .ok (.goto 5, 3) := by decide +kernel
theorem d_SE_placeOf_26 : decode prog_8_method_8_code 26 = .ok (.bipush (-9), 2) := by decide +kernel
theorem d_SE_placeOf_28 : decode prog_8_method_8_code 28 = .ok (.ireturn, 1) := by decide +kernel
theorem d_SN_init_0 : decode prog_9_method_1_code 0 = .ok (.aload_n 0, 1) := by decide +kernel
theorem d_SN_init_1 : decode prog_9_method_1_code 1 = .ok (.invokespecial 3, 3) := by decide +kernel
theorem d_SN_init_4 : decode prog_9_method_1_code 4 = .ok (.aload_n 0, 1) := by decide +kernel
theorem d_SN_init_5 : decode prog_9_method_1_code 5 = .ok (.aload_n 1, 1) := by decide +kernel
theorem d_SN_init_6 : decode prog_9_method_1_code 6 = .ok (.putfield 9, 3) := by decide +kernel
theorem d_SN_init_9 : decode prog_9_method_1_code 9 = .ok (.aload_n 0, 1) := by decide +kernel
theorem d_SN_init_10 : decode prog_9_method_1_code 10 = .ok (.aload_n 2, 1) := by decide +kernel
theorem d_SN_init_11 : decode prog_9_method_1_code 11 = .ok (.putfield 15, 3) := by decide +kernel
theorem d_SN_init_14 : decode prog_9_method_1_code 14 = .ok (.aload_n 0, 1) := by decide +kernel
theorem d_SN_init_15 : decode prog_9_method_1_code 15 = .ok (.bipush 37, 2) := by decide +kernel
theorem d_SN_init_17 : decode prog_9_method_1_code 17 = .ok (.newarray .long, 2) := by decide +kernel
theorem d_SN_init_19 : decode prog_9_method_1_code 19 = .ok (.putfield 19, 3) := by decide +kernel
theorem d_SN_init_22 : decode prog_9_method_1_code 22 = .ok (.return_, 1) := by decide +kernel
theorem d_SN_weighEnough_0 : decode prog_9_method_2_code 0 = .ok (.aload_n 0, 1) := by decide +kernel
theorem d_SN_weighEnough_1 : decode prog_9_method_2_code 1 = .ok (.aload_n 0, 1) := by decide +kernel
theorem d_SN_weighEnough_2 : decode prog_9_method_2_code 2 = .ok (.getfield 15, 3) := by decide +kernel
theorem d_SN_weighEnough_5 : decode prog_9_method_2_code 5 = .ok (.iload_n 1, 1) := by decide +kernel
theorem d_SN_weighEnough_6 : decode prog_9_method_2_code 6 = .ok (.invokevirtual 23, 3) := by decide +kernel
theorem d_SN_weighEnough_9 : decode prog_9_method_2_code 9 = .ok (.iload_n 2, 1) := by decide +kernel
theorem d_SN_weighEnough_10 : decode prog_9_method_2_code 10 = .ok (.iload_n 3, 1) := by decide +kernel
theorem d_SN_weighEnough_11 : decode prog_9_method_2_code 11 = .ok (.invokevirtual 29, 3) := by decide +kernel
theorem d_SN_weighEnough_14 : decode prog_9_method_2_code 14 = .ok (.aload_n 0, 1) := by decide +kernel
theorem d_SN_weighEnough_15 : decode prog_9_method_2_code 15 = .ok (.aload_n 0, 1) := by decide +kernel
theorem d_SN_weighEnough_16 : decode prog_9_method_2_code 16 = .ok (.getfield 33, 3) := by decide +kernel
theorem d_SN_weighEnough_19 : decode prog_9_method_2_code 19 = .ok (.aload_n 0, 1) := by decide +kernel
theorem d_SN_weighEnough_20 : decode prog_9_method_2_code 20 = .ok (.aload_n 0, 1) := by decide +kernel
theorem d_SN_weighEnough_21 : decode prog_9_method_2_code 21 = .ok (.getfield 9, 3) := by decide +kernel
theorem d_SN_weighEnough_24 : decode prog_9_method_2_code 24 = .ok (.getfield 37, 3) := by decide +kernel
theorem d_SN_weighEnough_27 : decode prog_9_method_2_code 27 = .ok (.iload_n 1, 1) := by decide +kernel
theorem d_SN_weighEnough_28 : decode prog_9_method_2_code 28 = .ok (.iaload, 1) := by decide +kernel
theorem d_SN_weighEnough_29 : decode prog_9_method_2_code 29 = .ok (.invokevirtual 43, 3) := by decide +kernel
theorem d_SN_weighEnough_32 : decode prog_9_method_2_code 32 = .ok (.lsub, 1) := by decide +kernel
theorem d_SN_weighEnough_33 : decode prog_9_method_2_code 33 = .ok (.aload_n 0, 1) := by decide +kernel
theorem d_SN_weighEnough_34 : decode prog_9_method_2_code 34 = .ok (.getfield 33, 3) := by decide +kernel
theorem d_SN_weighEnough_37 : decode prog_9_method_2_code 37 = .ok (.invokevirtual 47, 3) := by decide +kernel
theorem d_SN_weighEnough_40 : decode prog_9_method_2_code 40 = .ok (.return_, 1) := by decide +kernel
theorem d_SN_weighGuilt_0 : decode prog_9_method_3_code 0 = .ok (.aload_n 0, 1) := by decide +kernel
theorem d_SN_weighGuilt_1 : decode prog_9_method_3_code 1 = .ok (.getfield 15, 3) := by decide +kernel
theorem d_SN_weighGuilt_4 : decode prog_9_method_3_code 4 = .ok (.getfield 51, 3) := by decide +kernel
theorem d_SN_weighGuilt_7 : decode prog_9_method_3_code 7 = .ok (.iload_n 1, 1) := by decide +kernel
theorem d_SN_weighGuilt_8 : decode prog_9_method_3_code 8 = .ok (.iaload, 1) := by decide +kernel
theorem d_SN_weighGuilt_9 : decode prog_9_method_3_code 9 = .ok (.istore 4, 2) := by decide +kernel
theorem d_SN_weighGuilt_11 : decode prog_9_method_3_code 11 = .ok (.aload_n 0, 1) := by decide +kernel
theorem d_SN_weighGuilt_12 : decode prog_9_method_3_code 12 = .ok (.getfield 9, 3) := by decide +kernel
theorem d_SN_weighGuilt_15 : decode prog_9_method_3_code 15 = .ok (.getfield 37, 3) := by decide +kernel
theorem d_SN_weighGuilt_18 : decode prog_9_method_3_code 18 = .ok (.iload 4, 2) := by decide +kernel
theorem d_SN_weighGuilt_20 : decode prog_9_method_3_code 20 = .ok (.iaload, 1) := by decide +kernel
theorem d_SN_weighGuilt_21 : decode prog_9_method_3_code 21 = .ok (.istore 5, 2) := by decide +kernel
theorem d_SN_weighGuilt_23 : decode prog_9_method_3_code 23 = .ok (.aload_n 0, 1) := by decide +kernel
theorem d_SN_weighGuilt_24 : decode prog_9_method_3_code 24 = .ok (.getfield 15, 3) := by decide +kernel
theorem d_SN_weighGuilt_27 : decode prog_9_method_3_code 27 = .ok (.iload_n 1, 1) := by decide +kernel
theorem d_SN_weighGuilt_28 : decode prog_9_method_3_code 28 = .ok (.iload_n 2, 1) := by decide +kernel
theorem d_SN_weighGuilt_29 : decode prog_9_method_3_code 29 = .ok (.aload_n 0, 1) := by decide +kernel
theorem d_SN_weighGuilt_30 : decode prog_9_method_3_code 30 = .ok (.getfield 15, 3) := by decide +kernel
theorem d_SN_weighGuilt_33 : decode prog_9_method_3_code 33 = .ok (.getfield 54, 3) := by decide +kernel
theorem d_SN_weighGuilt_36 : decode prog_9_method_3_code 36 = .ok (.iadd, 1) := by decide +kernel
theorem d_SN_weighGuilt_37 : decode prog_9_method_3_code 37 = .ok (.invokevirtual 58, 3) := by decide +kernel
theorem d_SN_weighGuilt_40 : decode prog_9_method_3_code 40 = .ok (.istore 6, 2) := by decide +kernel
theorem d_SN_weighGuilt_42 : decode prog_9_method_3_code 42 = .ok (.aload_n 0, 1) := by decide +kernel
theorem d_SN_weighGuilt_43 : decode prog_9_method_3_code 43 = .ok (.aload_n 0, 1) := by decide +kernel
theorem d_SN_weighGuilt_44 : decode prog_9_method_3_code 44 = .ok (.getfield 15, 3) := by decide +kernel
theorem d_SN_weighGuilt_47 : decode prog_9_method_3_code 47 = .ok (.iload 4, 2) := by decide +kernel
theorem d_SN_weighGuilt_49 : decode prog_9_method_3_code 49 = .ok (.invokevirtual 23, 3) := by decide +kernel
theorem d_SN_weighGuilt_52 : decode prog_9_method_3_code 52 = .ok (.iconst 1, 1) := by decide +kernel
theorem d_SN_weighGuilt_53 : decode prog_9_method_3_code 53 = .ok (.iload_n 1, 1) := by decide +kernel
theorem d_SN_weighGuilt_54 : decode prog_9_method_3_code 54 = .ok (.ishl, 1) := by decide +kernel
theorem d_SN_weighGuilt_55 : decode prog_9_method_3_code 55 = .ok (.iconst (-1), 1) := by decide +kernel
theorem d_SN_weighGuilt_56 : decode prog_9_method_3_code 56 = .ok (.ixor, 1) := by decide +kernel
theorem d_SN_weighGuilt_57 : decode prog_9_method_3_code 57 = .ok (.iand, 1) := by decide +kernel
theorem d_SN_weighGuilt_58 : decode prog_9_method_3_code 58 = .ok (.iload_n 2, 1) := by decide +kernel
theorem d_SN_weighGuilt_59 : decode prog_9_method_3_code 59 = .ok (.iload_n 3, 1) := by decide +kernel
theorem d_SN_weighGuilt_60 : decode prog_9_method_3_code 60 = .ok (.invokevirtual 29, 3) := by decide +kernel
theorem d_SN_weighGuilt_63 : decode prog_9_method_3_code 63 = .ok (.iload 6, 2) := by decide +kernel
theorem d_SN_weighGuilt_65 : decode prog_9_method_3_code 65 = .ok (.ifCond .le 15, 3) := by decide +kernel
theorem d_SN_weighGuilt_68 : decode prog_9_method_3_code 68 = .ok (.iload_n 3, 1) := by decide +kernel
theorem d_SN_weighGuilt_69 : decode prog_9_method_3_code 69 = .ok (.i2l, 1) := by decide +kernel
theorem d_SN_weighGuilt_70 : decode prog_9_method_3_code 70 = .ok (.aload_n 0, 1) := by decide +kernel
theorem d_SN_weighGuilt_71 : decode prog_9_method_3_code 71 = .ok (.iload 5, 2) := by decide +kernel
theorem d_SN_weighGuilt_73 : decode prog_9_method_3_code 73 = .ok (.invokevirtual 43, 3) := by decide +kernel
theorem d_SN_weighGuilt_76 : decode prog_9_method_3_code 76 = .ok (.lmul, 1) := by decide +kernel
theorem d_SN_weighGuilt_77 : decode prog_9_method_3_code 77 = .ok (.goto 4, 3) := by decide +kernel
theorem d_SN_weighGuilt_80 : decode prog_9_method_3_code 80 = .ok (.lconst 0, 1) := by decide +kernel
theorem d_SN_weighGuilt_81 : decode prog_9_method_3_code 81 = .ok (.lstore 7, 2) := by decide +kernel
theorem d_SN_weighGuilt_83 : decode prog_9_method_3_code 83 = .ok (.iload 6, 2) := by decide +kernel
theorem d_SN_weighGuilt_85 : decode prog_9_method_3_code 85 = .ok (.ifCond .le 21, 3) := by decide +kernel
theorem d_SN_weighGuilt_88 : decode prog_9_method_3_code 88 = .ok (.bipush 10, 2) := by decide +kernel
theorem d_SN_weighGuilt_90 : decode prog_9_method_3_code 90 = .ok (.iload_n 3, 1) := by decide +kernel
theorem d_SN_weighGuilt_91 : decode prog_9_method_3_code 91 = .ok (.isub, 1) := by decide +kernel
theorem d_SN_weighGuilt_92 : decode prog_9_method_3_code 92 = .ok (.i2l, 1) := by decide +kernel
theorem d_SN_weighGuilt_93 : decode prog_9_method_3_code 93 = .ok (.aload_n 0, 1) := by decide +kernel
theorem d_SN_weighGuilt_94 : decode prog_9_method_3_code 94 = .ok (.iload 5, 2) := by decide +kernel
theorem d_SN_weighGuilt_96 : decode prog_9_method_3_code 96 = .ok (.iload 6, 2) := by decide +kernel
theorem d_SN_weighGuilt_98 : decode prog_9_method_3_code 98 = .ok (.isub, 1) := by decide +kernel
theorem d_SN_weighGuilt_99 : decode prog_9_method_3_code 99 = .ok (.invokevirtual 43, 3) := by decide +kernel
theorem d_SN_weighGuilt_102 : decode prog_9_method_3_code 102 = .ok (.lmul, 1) := by decide +kernel
theorem d_SN_weighGuilt_103 : decode prog_9_method_3_code 103 = .ok (.goto 9, 3) := by decide +kernel
theorem d_SN_weighGuilt_106 : decode prog_9_method_3_code 106 = .ok (.aload_n 0, 1) := by decide +kernel
theorem d_SN_weighGuilt_107 : decode prog_9_method_3_code 107 = .ok (.iload 5, 2) := by decide +kernel
theorem d_SN_weighGuilt_109 : decode prog_9_method_3_code 109 = .ok (.invokevirtual 43, 3) := by decide +kernel
theorem d_SN_weighGuilt_112 : decode prog_9_method_3_code 112 = .ok (.lstore 9, 2) := by decide +kernel
theorem d_SN_weighGuilt_114 : decode prog_9_method_3_code 114 = .ok (.lload 7, 2) := by decide +kernel
theorem d_SN_weighGuilt_116 : decode prog_9_method_3_code 116 = .ok (.lload 9, 2) := by decide +kernel
theorem d_SN_weighGuilt_118 : decode prog_9_method_3_code 118 = .ok (.ladd, 1) := by decide +kernel
theorem d_SN_weighGuilt_119 : decode prog_9_method_3_code 119 = .ok (.lconst 0, 1) := by decide +kernel
theorem d_SN_weighGuilt_120 : decode prog_9_method_3_code 120 = .ok (.lcmp, 1) := by decide +kernel
theorem d_SN_weighGuilt_121 : decode prog_9_method_3_code 121 = .ok (.ifCond .ne 5, 3) := by decide +kernel
theorem d_SN_weighGuilt_124 : decode prog_9_method_3_code 124 = .ok (.iconst 0, 1) := by decide +kernel
theorem d_SN_weighGuilt_125 : decode prog_9_method_3_code 125 = .ok (.ireturn, 1) := by decide +kernel
theorem d_SN_weighGuilt_126 : decode prog_9_method_3_code 126 = .ok (.aload_n 0, 1) := by decide +kernel
theorem d_SN_weighGuilt_127 : decode prog_9_method_3_code 127 = .ok (.lload 7, 2) := by decide +kernel
theorem d_SN_weighGuilt_129 : decode prog_9_method_3_code 129 = .ok (.lload 7, 2) := by decide +kernel
theorem d_SN_weighGuilt_131 : decode prog_9_method_3_code 131 = .ok (.lload 9, 2) := by decide +kernel
theorem d_SN_weighGuilt_133 : decode prog_9_method_3_code 133 = .ok (.ladd, 1) := by decide +kernel
theorem d_SN_weighGuilt_134 : decode prog_9_method_3_code 134 = .ok (.invokevirtual 47, 3) := by decide +kernel
theorem d_SN_weighGuilt_137 : decode prog_9_method_3_code 137 = .ok (.iconst 1, 1) := by decide +kernel
theorem d_SN_weighGuilt_138 : decode prog_9_method_3_code 138 = .ok (.ireturn, 1) := by decide +kernel
theorem d_SN_spread_0 : decode prog_9_method_4_code 0 = .ok (.iconst 0, 1) := by decide +kernel
theorem d_SN_spread_1 : decode prog_9_method_4_code 1 = .ok (.istore 4, 2) := by decide +kernel
theorem d_SN_spread_3 : decode prog_9_method_4_code 3 = .ok (.iload 4, 2) := by decide +kernel
theorem d_SN_spread_5 : decode prog_9_method_4_code 5 = .ok (.bipush 36, 2) := by decide +kernel
theorem d_SN_spread_7 : decode prog_9_method_4_code 7 = .ok (.if_icmp .gt 17, 3) := by decide +kernel
theorem d_SN_spread_10 : decode prog_9_method_4_code 10 = .ok (.aload_n 0, 1) := by decide +kernel
theorem d_SN_spread_11 : decode prog_9_method_4_code 11 = .ok (.getfield 19, 3) := by decide +kernel
theorem d_SN_spread_14 : decode prog_9_method_4_code 14 = .ok (.iload 4, 2) := by decide +kernel
theorem d_SN_spread_16 : decode prog_9_method_4_code 16 = .ok (.lconst 0, 1) := by decide +kernel
theorem d_SN_spread_17 : decode prog_9_method_4_code 17 = .ok (.lastore, 1) := by decide +kernel
theorem d_SN_spread_18 : decode prog_9_method_4_code 18 = .ok (.iinc 4 1, 3) := by decide +kernel
theorem d_SN_spread_21 : decode prog_9_method_4_code 21 = .ok (.goto (-18), 3) := by decide +kernel
theorem d_SN_spread_24 : decode prog_9_method_4_code 24 = .ok (.aload_n 0, 1) := by decide +kernel
theorem d_SN_spread_25 : decode prog_9_method_4_code 25 = .ok (.getfield 19, 3) := by decide +kernel
theorem d_SN_spread_28 : decode prog_9_method_4_code 28 = .ok (.iconst 0, 1) := by decide +kernel
theorem d_SN_spread_29 : decode prog_9_method_4_code 29 = .ok (.lconst 1, 1) := by decide +kernel
theorem d_SN_spread_30 : decode prog_9_method_4_code 30 = .ok (.lastore, 1) := by decide +kernel
theorem d_SN_spread_31 : decode prog_9_method_4_code 31 = .ok (.aload_n 0, 1) := by decide +kernel
theorem d_SN_spread_32 : decode prog_9_method_4_code 32 = .ok (.lconst 1, 1) := by decide +kernel
theorem d_SN_spread_33 : decode prog_9_method_4_code 33 = .ok (.putfield 33, 3) := by decide +kernel
theorem d_SN_spread_36 : decode prog_9_method_4_code 36 = .ok (.iconst 0, 1) := by decide +kernel
theorem d_SN_spread_37 : decode prog_9_method_4_code 37 = .ok (.istore 4, 2) := by decide +kernel
theorem d_SN_spread_39 : decode prog_9_method_4_code 39 = .ok (.iload 4, 2) := by decide +kernel
theorem d_SN_spread_41 : decode prog_9_method_4_code 41 = .ok (.aload_n 0, 1) := by decide +kernel
theorem d_SN_spread_42 : decode prog_9_method_4_code 42 = .ok (.getfield 15, 3) := by decide +kernel
theorem d_SN_spread_45 : decode prog_9_method_4_code 45 = .ok (.getfield 62, 3) := by decide +kernel
theorem d_SN_spread_48 : decode prog_9_method_4_code 48 = .ok (.if_icmp .ge 51, 3) := by decide +kernel
theorem d_SN_spread_51 : decode prog_9_method_4_code 51 = .ok (.aload_n 0, 1) := by decide +kernel
theorem d_SN_spread_52 : decode prog_9_method_4_code 52 = .ok (.getfield 15, 3) := by decide +kernel
theorem d_SN_spread_55 : decode prog_9_method_4_code 55 = .ok (.iload 4, 2) := by decide +kernel
theorem d_SN_spread_57 : decode prog_9_method_4_code 57 = .ok (.iload_n 2, 1) := by decide +kernel
theorem d_SN_spread_58 : decode prog_9_method_4_code 58 = .ok (.aload_n 0, 1) := by decide +kernel
theorem d_SN_spread_59 : decode prog_9_method_4_code 59 = .ok (.getfield 15, 3) := by decide +kernel
theorem d_SN_spread_62 : decode prog_9_method_4_code 62 = .ok (.getfield 54, 3) := by decide +kernel
theorem d_SN_spread_65 : decode prog_9_method_4_code 65 = .ok (.iadd, 1) := by decide +kernel
theorem d_SN_spread_66 : decode prog_9_method_4_code 66 = .ok (.invokevirtual 58, 3) := by decide +kernel
theorem d_SN_spread_69 : decode prog_9_method_4_code 69 = .ok (.istore 5, 2) := by decide +kernel
theorem d_SN_spread_71 : decode prog_9_method_4_code 71 = .ok (.iload_n 1, 1) := by decide +kernel
theorem d_SN_spread_72 : decode prog_9_method_4_code 72 = .ok (.iload 4, 2) := by decide +kernel
theorem d_SN_spread_74 : decode prog_9_method_4_code 74 = .ok (.ishr, 1) := by decide +kernel
theorem d_SN_spread_75 : decode prog_9_method_4_code 75 = .ok (.iconst 1, 1) := by decide +kernel
theorem d_SN_spread_76 : decode prog_9_method_4_code 76 = .ok (.iand, 1) := by decide +kernel
theorem d_SN_spread_77 : decode prog_9_method_4_code 77 = .ok (.iconst 1, 1) := by decide +kernel
theorem d_SN_spread_78 : decode prog_9_method_4_code 78 = .ok (.if_icmp .ne 15, 3) := by decide +kernel
theorem d_SN_spread_81 : decode prog_9_method_4_code 81 = .ok (.iload 5, 2) := by decide +kernel
theorem d_SN_spread_83 : decode prog_9_method_4_code 83 = .ok (.ifCond .le 10, 3) := by decide +kernel
theorem d_SN_spread_86 : decode prog_9_method_4_code 86 = .ok (.aload_n 0, 1) := by decide +kernel
theorem d_SN_spread_87 : decode prog_9_method_4_code 87 = .ok (.iload 5, 2) := by decide +kernel
theorem d_SN_spread_89 : decode prog_9_method_4_code 89 = .ok (.iload_n 3, 1) := by decide +kernel
theorem d_SN_spread_90 : decode prog_9_method_4_code 90 = .ok (.invokevirtual 65, 3) := by decide +kernel
theorem d_SN_spread_93 : decode prog_9_method_4_code 93 = .ok (.iinc 4 1, 3) := by decide +kernel
theorem d_SN_spread_96 : decode prog_9_method_4_code 96 = .ok (.goto (-57), 3) := by decide +kernel
theorem d_SN_spread_99 : decode prog_9_method_4_code 99 = .ok (.return_, 1) := by decide +kernel
theorem d_SN_admit_0 : decode prog_9_method_5_code 0 = .ok (.bipush 36, 2) := by decide +kernel
theorem d_SN_admit_2 : decode prog_9_method_5_code 2 = .ok (.istore_n 3, 1) := by decide +kernel
theorem d_SN_admit_3 : decode prog_9_method_5_code 3 = .ok (.iload_n 3, 1) := by decide +kernel
theorem d_SN_admit_4 : decode prog_9_method_5_code 4 = .ok (.ifCond .lt 52, 3) := by decide +kernel
theorem d_SN_admit_7 : decode prog_9_method_5_code 7 = .ok (.iload_n 3, 1) := by decide +kernel
theorem d_SN_admit_8 : decode prog_9_method_5_code 8 = .ok (.iload_n 1, 1) := by decide +kernel
theorem d_SN_admit_9 : decode prog_9_method_5_code 9 = .ok (.if_icmp .lt 20, 3) := by decide +kernel
theorem d_SN_admit_12 : decode prog_9_method_5_code 12 = .ok (.aload_n 0, 1) := by decide +kernel
theorem d_SN_admit_13 : decode prog_9_method_5_code 13 = .ok (.getfield 19, 3) := by decide +kernel
theorem d_SN_admit_16 : decode prog_9_method_5_code 16 = .ok (.iload_n 3, 1) := by decide +kernel
theorem d_SN_admit_17 : decode prog_9_method_5_code 17 = .ok (.iload_n 1, 1) := by decide +kernel
theorem d_SN_admit_18 : decode prog_9_method_5_code 18 = .ok (.isub, 1) := by decide +kernel
theorem d_SN_admit_19 : decode prog_9_method_5_code 19 = .ok (.laload, 1) := by decide +kernel
theorem d_SN_admit_20 : decode prog_9_method_5_code 20 = .ok (.bipush 10, 2) := by decide +kernel
theorem d_SN_admit_22 : decode prog_9_method_5_code 22 = .ok (.iload_n 2, 1) := by decide +kernel
theorem d_SN_admit_23 : decode prog_9_method_5_code 23 = .ok (.isub, 1) := by decide +kernel
theorem d_SN_admit_24 : decode prog_9_method_5_code 24 = .ok (.i2l, 1) := by decide +kernel
theorem d_SN_admit_25 : decode prog_9_method_5_code 25 = .ok (.lmul, 1) := by decide +kernel
theorem d_SN_admit_26 : decode prog_9_method_5_code 26 = .ok (.goto 4, 3) := by decide +kernel
theorem d_SN_admit_29 : decode prog_9_method_5_code 29 = .ok (.lconst 0, 1) := by decide +kernel
theorem d_SN_admit_30 : decode prog_9_method_5_code 30 = .ok (.lstore 4, 2) := by decide +kernel
theorem d_SN_admit_32 : decode prog_9_method_5_code 32 = .ok (.aload_n 0, 1) := by decide +kernel
theorem d_SN_admit_33 : decode prog_9_method_5_code 33 = .ok (.getfield 19, 3) := by decide +kernel
theorem d_SN_admit_36 : decode prog_9_method_5_code 36 = .ok (.iload_n 3, 1) := by decide +kernel
theorem d_SN_admit_37 : decode prog_9_method_5_code 37 = .ok (.aload_n 0, 1) := by decide +kernel
theorem d_SN_admit_38 : decode prog_9_method_5_code 38 = .ok (.getfield 19, 3) := by decide +kernel
theorem d_SN_admit_41 : decode prog_9_method_5_code 41 = .ok (.iload_n 3, 1) := by decide +kernel
theorem d_SN_admit_42 : decode prog_9_method_5_code 42 = .ok (.laload, 1) := by decide +kernel
theorem d_SN_admit_43 : decode prog_9_method_5_code 43 = .ok (.iload_n 2, 1) := by decide +kernel
theorem d_SN_admit_44 : decode prog_9_method_5_code 44 = .ok (.i2l, 1) := by decide +kernel
theorem d_SN_admit_45 : decode prog_9_method_5_code 45 = .ok (.lmul, 1) := by decide +kernel
theorem d_SN_admit_46 : decode prog_9_method_5_code 46 = .ok (.lload 4, 2) := by decide +kernel
theorem d_SN_admit_48 : decode prog_9_method_5_code 48 = .ok (.ladd, 1) := by decide +kernel
theorem d_SN_admit_49 : decode prog_9_method_5_code 49 = .ok (.lastore, 1) := by decide +kernel
theorem d_SN_admit_50 : decode prog_9_method_5_code 50 = .ok (.iinc 3 (-1), 3) := by decide +kernel
theorem d_SN_admit_53 : decode prog_9_method_5_code 53 = .ok (.goto (-50), 3) := by decide +kernel
theorem d_SN_admit_56 : decode prog_9_method_5_code 56 = .ok (.aload_n 0, 1) := by decide +kernel
theorem d_SN_admit_57 : decode prog_9_method_5_code 57 = .ok (.dup, 1) := by decide +kernel
theorem d_SN_admit_58 : decode prog_9_method_5_code 58 = .ok (.getfield 33, 3) := by decide +kernel
theorem d_SN_admit_61 : decode prog_9_method_5_code 61 = .ok (.ldc2_w 69, 3) := by decide +kernel
theorem d_SN_admit_64 : decode prog_9_method_5_code 64 = .ok (.lmul, 1) := by decide +kernel
theorem d_SN_admit_65 : decode prog_9_method_5_code 65 = .ok (.putfield 33, 3) := by decide +kernel
theorem d_SN_admit_68 : decode prog_9_method_5_code 68 = .ok (.return_, 1) := by decide +kernel
theorem d_SN_casesUnder_0 : decode prog_9_method_6_code 0 = .ok (.lconst 0, 1) := by decide +kernel
theorem d_SN_casesUnder_1 : decode prog_9_method_6_code 1 = .ok (.lstore_n 2, 1) := by decide +kernel
theorem d_SN_casesUnder_2 : decode prog_9_method_6_code 2 = .ok (.iconst 0, 1) := by decide +kernel
theorem d_SN_casesUnder_3 : decode prog_9_method_6_code 3 = .ok (.istore 4, 2) := by decide +kernel
theorem d_SN_casesUnder_5 : decode prog_9_method_6_code 5 = .ok (.iload 4, 2) := by decide +kernel
theorem d_SN_casesUnder_7 : decode prog_9_method_6_code 7 = .ok (.iload_n 1, 1) := by decide +kernel
theorem d_SN_casesUnder_8 : decode prog_9_method_6_code 8 = .ok (.if_icmp .ge 26, 3) := by decide +kernel
theorem d_SN_casesUnder_11 : decode prog_9_method_6_code 11 = .ok (.iload 4, 2) := by decide +kernel
theorem d_SN_casesUnder_13 : decode prog_9_method_6_code 13 = .ok (.bipush 36, 2) := by decide +kernel
theorem d_SN_casesUnder_15 : decode prog_9_method_6_code 15 = .ok (.if_icmp .gt 19, 3) := by decide +kernel
theorem d_SN_casesUnder_18 : decode prog_9_method_6_code 18 = .ok (.lload_n 2, 1) := by decide +kernel
theorem d_SN_casesUnder_19 : decode prog_9_method_6_code 19 = .ok (.aload_n 0, 1) := by decide +kernel
theorem d_SN_casesUnder_20 : decode prog_9_method_6_code 20 = .ok (.getfield 19, 3) := by decide +kernel
theorem d_SN_casesUnder_23 : decode prog_9_method_6_code 23 = .ok (.iload 4, 2) := by decide +kernel
theorem d_SN_casesUnder_25 : decode prog_9_method_6_code 25 = .ok (.laload, 1) := by decide +kernel
theorem d_SN_casesUnder_26 : decode prog_9_method_6_code 26 = .ok (.ladd, 1) := by decide +kernel
theorem d_SN_casesUnder_27 : decode prog_9_method_6_code 27 = .ok (.lstore_n 2, 1) := by decide +kernel
theorem d_SN_casesUnder_28 : decode prog_9_method_6_code 28 = .ok (.iinc 4 1, 3) := by decide +kernel
theorem d_SN_casesUnder_31 : decode prog_9_method_6_code 31 = .ok (.goto (-26), 3) := by decide +kernel
theorem d_SN_casesUnder_34 : decode prog_9_method_6_code 34 = .ok (.lload_n 2, 1) := by decide +kernel
theorem d_SN_casesUnder_35 : decode prog_9_method_6_code 35 = .ok (.lreturn, 1) := by decide +kernel
theorem d_SN_reduce_0 : decode prog_9_method_7_code 0 = .ok (.lload_n 3, 1) := by decide +kernel
theorem d_SN_reduce_1 : decode prog_9_method_7_code 1 = .ok (.lstore 5, 2) := by decide +kernel
theorem d_SN_reduce_3 : decode prog_9_method_7_code 3 = .ok (.lload_n 1, 1) := by decide +kernel
theorem d_SN_reduce_4 : decode prog_9_method_7_code 4 = .ok (.lstore 7, 2) := by decide +kernel
theorem d_SN_reduce_6 : decode prog_9_method_7_code 6 = .ok (.iconst 0, 1) := by decide +kernel
theorem d_SN_reduce_7 : decode prog_9_method_7_code 7 = .ok (.istore 9, 2) := by decide +kernel
theorem d_SN_reduce_9 : decode prog_9_method_7_code 9 = .ok (.iload 9, 2) := by decide +kernel
theorem d_SN_reduce_11 : decode prog_9_method_7_code 11 = .ok (.sipush 200, 3) := by decide +kernel
theorem d_SN_reduce_14 : decode prog_9_method_7_code 14 = .ok (.if_icmp .ge 31, 3) := by decide +kernel
theorem d_SN_reduce_17 : decode prog_9_method_7_code 17 = .ok (.lload 7, 2) := by decide +kernel
theorem d_SN_reduce_19 : decode prog_9_method_7_code 19 = .ok (.lconst 0, 1) := by decide +kernel
theorem d_SN_reduce_20 : decode prog_9_method_7_code 20 = .ok (.lcmp, 1) := by decide +kernel
theorem d_SN_reduce_21 : decode prog_9_method_7_code 21 = .ok (.ifCond .eq 24, 3) := by decide +kernel
theorem d_SN_reduce_24 : decode prog_9_method_7_code 24 = .ok (.lload 5, 2) := by decide +kernel
theorem d_SN_reduce_26 : decode prog_9_method_7_code 26 = .ok (.lload 7, 2) := by decide +kernel
theorem d_SN_reduce_28 : decode prog_9_method_7_code 28 = .ok (.lrem, 1) := by decide +kernel
theorem d_SN_reduce_29 : decode prog_9_method_7_code 29 = .ok (.lstore 10, 2) := by decide +kernel
theorem d_SN_reduce_31 : decode prog_9_method_7_code 31 = .ok (.lload 7, 2) := by decide +kernel
theorem d_SN_reduce_33 : decode prog_9_method_7_code 33 = .ok (.lstore 5, 2) := by decide +kernel
theorem d_SN_reduce_35 : decode prog_9_method_7_code 35 = .ok (.lload 10, 2) := by decide +kernel
theorem d_SN_reduce_37 : decode prog_9_method_7_code 37 = .ok (.lstore 7, 2) := by decide +kernel
theorem d_SN_reduce_39 : decode prog_9_method_7_code 39 = .ok (.iinc 9 1, 3) := by decide +kernel
theorem d_SN_reduce_42 : decode prog_9_method_7_code 42 = .ok (.goto (-33), 3) := by decide +kernel
theorem d_SN_reduce_45 : decode prog_9_method_7_code 45 = .ok (.aload_n 0, 1) := by decide +kernel
theorem d_SN_reduce_46 : decode prog_9_method_7_code 46 = .ok (.lload 5, 2) := by decide +kernel
theorem d_SN_reduce_48 : decode prog_9_method_7_code 48 = .ok (.lconst 0, 1) := by decide +kernel
theorem d_SN_reduce_49 : decode prog_9_method_7_code 49 = .ok (.lcmp, 1) := by decide +kernel
theorem d_SN_reduce_50 : decode prog_9_method_7_code 50 = .ok (.ifCond .ne 7, 3) := by decide +kernel
theorem d_SN_reduce_53 : decode prog_9_method_7_code 53 = .ok (.lload_n 1, 1) := by decide +kernel
theorem d_SN_reduce_54 : decode prog_9_method_7_code 54 = .ok (.goto 7, 3) := by decide +kernel
theorem d_SN_reduce_57 : decode prog_9_method_7_code 57 = .ok (.lload_n 1, 1) := by decide +kernel
theorem d_SN_reduce_58 : decode prog_9_method_7_code 58 = .ok (.lload 5, 2) := by decide +kernel
theorem d_SN_reduce_60 : decode prog_9_method_7_code 60 = .ok (.ldiv, 1) := by decide +kernel
theorem d_SN_reduce_61 : decode prog_9_method_7_code 61 = .ok (.putfield 71, 3) := by decide +kernel
theorem d_SN_reduce_64 : decode prog_9_method_7_code 64 = .ok (.aload_n 0, 1) := by decide +kernel
theorem d_SN_reduce_65 : decode prog_9_method_7_code 65 = .ok (.lload 5, 2) := by decide +kernel
theorem d_SN_reduce_67 : decode prog_9_method_7_code 67 = .ok (.lconst 0, 1) := by decide +kernel
theorem d_SN_reduce_68 : decode prog_9_method_7_code 68 = .ok (.lcmp, 1) := by decide +kernel
theorem d_SN_reduce_69 : decode prog_9_method_7_code 69 = .ok (.ifCond .ne 7, 3) := by decide +kernel
theorem d_SN_reduce_72 : decode prog_9_method_7_code 72 = .ok (.lload_n 3, 1) := by decide +kernel
theorem d_SN_reduce_73 : decode prog_9_method_7_code 73 = .ok (.goto 7, 3) := by decide +kernel
theorem d_SN_reduce_76 : decode prog_9_method_7_code 76 = .ok (.lload_n 3, 1) := by decide +kernel
theorem d_SN_reduce_77 : decode prog_9_method_7_code 77 = .ok (.lload 5, 2) := by decide +kernel
theorem d_SN_reduce_79 : decode prog_9_method_7_code 79 = .ok (.ldiv, 1) := by decide +kernel
theorem d_SN_reduce_80 : decode prog_9_method_7_code 80 = .ok (.putfield 74, 3) := by decide +kernel
theorem d_SN_reduce_83 : decode prog_9_method_7_code 83 = .ok (.return_, 1) := by decide +kernel
theorem d_BB_init_0 : decode prog_1_method_1_code 0 = .ok (.aload_n 0, 1) := by decide +kernel
theorem d_BB_init_1 : decode prog_1_method_1_code 1 = .ok (.invokespecial 1, 3) := by decide +kernel
theorem d_BB_init_4 : decode prog_1_method_1_code 4 = .ok (.aload_n 0, 1) := by decide +kernel
theorem d_BB_init_5 : decode prog_1_method_1_code 5 = .ok (.new 7, 3) := by decide +kernel
theorem d_BB_init_8 : decode prog_1_method_1_code 8 = .ok (.dup, 1) := by decide +kernel
theorem d_BB_init_9 : decode prog_1_method_1_code 9 = .ok (.invokespecial 9, 3) := by decide +kernel
theorem d_BB_init_12 : decode prog_1_method_1_code 12 = .ok (.putfield 10, 3) := by decide +kernel
theorem d_BB_init_15 : decode prog_1_method_1_code 15 = .ok (.aload_n 0, 1) := by decide +kernel
theorem d_BB_init_16 : decode prog_1_method_1_code 16 = .ok (.new 16, 3) := by decide +kernel
theorem d_BB_init_19 : decode prog_1_method_1_code 19 = .ok (.dup, 1) := by decide +kernel
theorem d_BB_init_20 : decode prog_1_method_1_code 20 = .ok (.invokespecial 18, 3) := by decide +kernel
theorem d_BB_init_23 : decode prog_1_method_1_code 23 = .ok (.putfield 19, 3) := by decide +kernel
theorem d_BB_init_26 : decode prog_1_method_1_code 26 = .ok (.aload_n 0, 1) := by decide +kernel
theorem d_BB_init_27 : decode prog_1_method_1_code 27 = .ok (.new 23, 3) := by decide +kernel
theorem d_BB_init_30 : decode prog_1_method_1_code 30 = .ok (.dup, 1) := by decide +kernel
theorem d_BB_init_31 : decode prog_1_method_1_code 31 = .ok (.invokespecial 25, 3) := by decide +kernel
theorem d_BB_init_34 : decode prog_1_method_1_code 34 = .ok (.putfield 26, 3) := by decide +kernel
theorem d_BB_init_37 : decode prog_1_method_1_code 37 = .ok (.aload_n 0, 1) := by decide +kernel
theorem d_BB_init_38 : decode prog_1_method_1_code 38 = .ok (.new 30, 3) := by decide +kernel
theorem d_BB_init_41 : decode prog_1_method_1_code 41 = .ok (.dup, 1) := by decide +kernel
theorem d_BB_init_42 : decode prog_1_method_1_code 42 = .ok (.aload_n 0, 1) := by decide +kernel
theorem d_BB_init_43 : decode prog_1_method_1_code 43 = .ok (.getfield 19, 3) := by decide +kernel
theorem d_BB_init_46 : decode prog_1_method_1_code 46 = .ok (.aload_n 0, 1) := by decide +kernel
theorem d_BB_init_47 : decode prog_1_method_1_code 47 = .ok (.getfield 26, 3) := by decide +kernel
theorem d_BB_init_50 : decode prog_1_method_1_code 50 = .ok (.invokespecial 32, 3) := by decide +kernel
theorem d_BB_init_53 : decode prog_1_method_1_code 53 = .ok (.putfield 35, 3) := by decide +kernel
theorem d_BB_init_56 : decode prog_1_method_1_code 56 = .ok (.aload_n 0, 1) := by decide +kernel
theorem d_BB_init_57 : decode prog_1_method_1_code 57 = .ok (.new 39, 3) := by decide +kernel
theorem d_BB_init_60 : decode prog_1_method_1_code 60 = .ok (.dup, 1) := by decide +kernel
theorem d_BB_init_61 : decode prog_1_method_1_code 61 = .ok (.aload_n 0, 1) := by decide +kernel
theorem d_BB_init_62 : decode prog_1_method_1_code 62 = .ok (.getfield 26, 3) := by decide +kernel
theorem d_BB_init_65 : decode prog_1_method_1_code 65 = .ok (.aload_n 0, 1) := by decide +kernel
theorem d_BB_init_66 : decode prog_1_method_1_code 66 = .ok (.getfield 35, 3) := by decide +kernel
theorem d_BB_init_69 : decode prog_1_method_1_code 69 = .ok (.invokespecial 41, 3) := by decide +kernel
theorem d_BB_init_72 : decode prog_1_method_1_code 72 = .ok (.putfield 44, 3) := by decide +kernel
theorem d_BB_init_75 : decode prog_1_method_1_code 75 = .ok (.aload_n 0, 1) := by decide +kernel
theorem d_BB_init_76 : decode prog_1_method_1_code 76 = .ok (.new 48, 3) := by decide +kernel
theorem d_BB_init_79 : decode prog_1_method_1_code 79 = .ok (.dup, 1) := by decide +kernel
theorem d_BB_init_80 : decode prog_1_method_1_code 80 = .ok (.aload_n 0, 1) := by decide +kernel
theorem d_BB_init_81 : decode prog_1_method_1_code 81 = .ok (.getfield 19, 3) := by decide +kernel
theorem d_BB_init_84 : decode prog_1_method_1_code 84 = .ok (.aload_n 0, 1) := by decide +kernel
theorem d_BB_init_85 : decode prog_1_method_1_code 85 = .ok (.getfield 26, 3) := by decide +kernel
theorem d_BB_init_88 : decode prog_1_method_1_code 88 = .ok (.aload_n 0, 1) := by decide +kernel
theorem d_BB_init_89 : decode prog_1_method_1_code 89 = .ok (.getfield 35, 3) := by decide +kernel
theorem d_BB_init_92 : decode prog_1_method_1_code 92 = .ok (.invokespecial 50, 3) := by decide +kernel
theorem d_BB_init_95 : decode prog_1_method_1_code 95 = .ok (.putfield 53, 3) := by decide +kernel
theorem d_BB_init_98 : decode prog_1_method_1_code 98 = .ok (.aload_n 0, 1) := by decide +kernel
theorem d_BB_init_99 : decode prog_1_method_1_code 99 = .ok (.new 57, 3) := by decide +kernel
theorem d_BB_init_102 : decode prog_1_method_1_code 102 = .ok (.dup, 1) := by decide +kernel
theorem d_BB_init_103 : decode prog_1_method_1_code 103 = .ok (.aload_n 0, 1) := by decide +kernel
theorem d_BB_init_104 : decode prog_1_method_1_code 104 = .ok (.getfield 19, 3) := by decide +kernel
theorem d_BB_init_107 : decode prog_1_method_1_code 107 = .ok (.aload_n 0, 1) := by decide +kernel
theorem d_BB_init_108 : decode prog_1_method_1_code 108 = .ok (.getfield 26, 3) := by decide +kernel
theorem d_BB_init_111 : decode prog_1_method_1_code 111 = .ok (.aload_n 0, 1) := by decide +kernel
theorem d_BB_init_112 : decode prog_1_method_1_code 112 = .ok (.getfield 35, 3) := by decide +kernel
theorem d_BB_init_115 : decode prog_1_method_1_code 115 = .ok (.invokespecial 59, 3) := by decide +kernel
theorem d_BB_init_118 : decode prog_1_method_1_code 118 = .ok (.putfield 60, 3) := by decide +kernel
theorem d_BB_init_121 : decode prog_1_method_1_code 121 = .ok (.aload_n 0, 1) := by decide +kernel
theorem d_BB_init_122 : decode prog_1_method_1_code 122 = .ok (.new 64, 3) := by decide +kernel
theorem d_BB_init_125 : decode prog_1_method_1_code 125 = .ok (.dup, 1) := by decide +kernel
theorem d_BB_init_126 : decode prog_1_method_1_code 126 = .ok (.aload_n 0, 1) := by decide +kernel
theorem d_BB_init_127 : decode prog_1_method_1_code 127 = .ok (.getfield 19, 3) := by decide +kernel
theorem d_BB_init_130 : decode prog_1_method_1_code 130 = .ok (.aload_n 0, 1) := by decide +kernel
theorem d_BB_init_131 : decode prog_1_method_1_code 131 = .ok (.getfield 26, 3) := by decide +kernel
theorem d_BB_init_134 : decode prog_1_method_1_code 134 = .ok (.invokespecial 66, 3) := by decide +kernel
theorem d_BB_init_137 : decode prog_1_method_1_code 137 = .ok (.putfield 67, 3) := by decide +kernel
theorem d_BB_init_140 : decode prog_1_method_1_code 140 = .ok (.aload_n 0, 1) := by decide +kernel
theorem d_BB_init_141 : decode prog_1_method_1_code 141 = .ok (.iconst 2, 1) := by decide +kernel
theorem d_BB_init_142 : decode prog_1_method_1_code 142 = .ok (.anewarray 23, 3) := by decide +kernel
theorem d_BB_init_145 : decode prog_1_method_1_code 145 = .ok (.putfield 71, 3) := by decide +kernel
theorem d_BB_init_148 : decode prog_1_method_1_code 148 = .ok (.aload_n 0, 1) := by decide +kernel
theorem d_BB_init_149 : decode prog_1_method_1_code 149 = .ok (.iconst 2, 1) := by decide +kernel
theorem d_BB_init_150 : decode prog_1_method_1_code 150 = .ok (.newarray .boolean, 2) := by decide +kernel
theorem d_BB_init_152 : decode prog_1_method_1_code 152 = .ok (.putfield 75, 3) := by decide +kernel
theorem d_BB_init_155 : decode prog_1_method_1_code 155 = .ok (.iconst 0, 1) := by decide +kernel
theorem d_BB_init_156 : decode prog_1_method_1_code 156 = .ok (.istore_n 1, 1) := by decide +kernel
theorem d_BB_init_157 : decode prog_1_method_1_code 157 = .ok (.iload_n 1, 1) := by decide +kernel
theorem d_BB_init_158 : decode prog_1_method_1_code 158 = .ok (.iconst 2, 1) := by decide +kernel
theorem d_BB_init_159 : decode prog_1_method_1_code 159 = .ok (.if_icmp .ge 22, 3) := by decide +kernel
theorem d_BB_init_162 : decode prog_1_method_1_code 162 = .ok (.aload_n 0, 1) := by decide +kernel
theorem d_BB_init_163 : decode prog_1_method_1_code 163 = .ok (.getfield 71, 3) := by decide +kernel
theorem d_BB_init_166 : decode prog_1_method_1_code 166 = .ok (.iload_n 1, 1) := by decide +kernel
theorem d_BB_init_167 : decode prog_1_method_1_code 167 = .ok (.new 23, 3) := by decide +kernel
theorem d_BB_init_170 : decode prog_1_method_1_code 170 = .ok (.dup, 1) := by decide +kernel
theorem d_BB_init_171 : decode prog_1_method_1_code 171 = .ok (.invokespecial 25, 3) := by decide +kernel
theorem d_BB_init_174 : decode prog_1_method_1_code 174 = .ok (.aastore, 1) := by decide +kernel
theorem d_BB_init_175 : decode prog_1_method_1_code 175 = .ok (.iinc 1 1, 3) := by decide +kernel
theorem d_BB_init_178 : decode prog_1_method_1_code 178 = .ok (.goto (-21), 3) := by decide +kernel
theorem d_BB_init_181 : decode prog_1_method_1_code 181 = .ok (.return_, 1) := by decide +kernel
theorem d_BB_write_0 : decode prog_1_method_2_code 0 = .ok (.iload_n 1, 1) := by decide +kernel
theorem d_BB_write_1 : decode prog_1_method_2_code 1 = .ok (.iconst 1, 1) := by decide +kernel
theorem d_BB_write_2 : decode prog_1_method_2_code 2 = .ok (.if_icmp .lt 9, 3) := by decide +kernel
theorem d_BB_write_5 : decode prog_1_method_2_code 5 = .ok (.iload_n 1, 1) := by decide +kernel
theorem d_BB_write_6 : decode prog_1_method_2_code 6 = .ok (.bipush 8, 2) := by decide +kernel
theorem d_BB_write_8 : decode prog_1_method_2_code 8 = .ok (.if_icmp .le 6, 3) := by decide +kernel
theorem d_BB_write_11 : decode prog_1_method_2_code 11 = .ok (.bipush (-2), 2) := by decide +kernel
theorem d_BB_write_13 : decode prog_1_method_2_code 13 = .ok (.ireturn, 1) := by decide +kernel
theorem d_BB_write_14 : decode prog_1_method_2_code 14 = .ok (.aload_n 0, 1) := by decide +kernel
theorem d_BB_write_15 : decode prog_1_method_2_code 15 = .ok (.getfield 10, 3) := by decide +kernel
theorem d_BB_write_18 : decode prog_1_method_2_code 18 = .ok (.iload_n 1, 1) := by decide +kernel
theorem d_BB_write_19 : decode prog_1_method_2_code 19 = .ok (.invokevirtual 79, 3) := by decide +kernel
theorem d_BB_write_22 : decode prog_1_method_2_code 22 = .ok (.ifCond .eq 15, 3) := by decide +kernel
theorem d_BB_write_25 : decode prog_1_method_2_code 25 = .ok (.aload_n 0, 1) := by decide +kernel
theorem d_BB_write_26 : decode prog_1_method_2_code 26 = .ok (.getfield 10, 3) := by decide +kernel
theorem d_BB_write_29 : decode prog_1_method_2_code 29 = .ok (.iload_n 1, 1) := by decide +kernel
theorem d_BB_write_30 : decode prog_1_method_2_code 30 = .ok (.lload_n 2, 1) := by decide +kernel
theorem d_BB_write_31 : decode prog_1_method_2_code 31 = .ok (.invokevirtual 83, 3) := by decide +kernel
theorem d_BB_write_34 : decode prog_1_method_2_code 34 = .ok (.goto 5, 3) := by decide +kernel
theorem d_BB_write_37 : decode prog_1_method_2_code 37 = .ok (.bipush (-4), 2) := by decide +kernel
theorem d_BB_write_39 : decode prog_1_method_2_code 39 = .ok (.ireturn, 1) := by decide +kernel
theorem d_BB_wipe_0 : decode prog_1_method_3_code 0 = .ok (.aload_n 0, 1) := by decide +kernel
theorem d_BB_wipe_1 : decode prog_1_method_3_code 1 = .ok (.getfield 10, 3) := by decide +kernel
theorem d_BB_wipe_4 : decode prog_1_method_3_code 4 = .ok (.invokevirtual 87, 3) := by decide +kernel
theorem d_BB_wipe_7 : decode prog_1_method_3_code 7 = .ok (.ireturn, 1) := by decide +kernel
theorem d_BB_fault_0 : decode prog_1_method_4_code 0 = .ok (.aload_n 0, 1) := by decide +kernel
theorem d_BB_fault_1 : decode prog_1_method_4_code 1 = .ok (.getfield 10, 3) := by decide +kernel
theorem d_BB_fault_4 : decode prog_1_method_4_code 4 = .ok (.invokevirtual 91, 3) := by decide +kernel
theorem d_BB_fault_7 : decode prog_1_method_4_code 7 = .ok (.ireturn, 1) := by decide +kernel
theorem d_BB_organ_0 : decode prog_1_method_5_code 0 = .ok (.aload_n 0, 1) := by decide +kernel
theorem d_BB_organ_1 : decode prog_1_method_5_code 1 = .ok (.getfield 10, 3) := by decide +kernel
theorem d_BB_organ_4 : decode prog_1_method_5_code 4 = .ok (.invokevirtual 91, 3) := by decide +kernel
theorem d_BB_organ_7 : decode prog_1_method_5_code 7 = .ok (.bipush (-9), 2) := by decide +kernel
theorem d_BB_organ_9 : decode prog_1_method_5_code 9 = .ok (.if_icmp .eq 6, 3) := by decide +kernel
theorem d_BB_organ_12 : decode prog_1_method_5_code 12 = .ok (.bipush (-3), 2) := by decide +kernel
theorem d_BB_organ_14 : decode prog_1_method_5_code 14 = .ok (.ireturn, 1) := by decide +kernel
theorem d_BB_organ_15 : decode prog_1_method_5_code 15 = .ok (.aload_n 0, 1) := by decide +kernel
theorem d_BB_organ_16 : decode prog_1_method_5_code 16 = .ok (.getfield 19, 3) := by decide +kernel
theorem d_BB_organ_19 : decode prog_1_method_5_code 19 = .ok (.aload_n 0, 1) := by decide +kernel
theorem d_BB_organ_20 : decode prog_1_method_5_code 20 = .ok (.getfield 10, 3) := by decide +kernel
theorem d_BB_organ_23 : decode prog_1_method_5_code 23 = .ok (.invokevirtual 94, 3) := by decide +kernel
theorem d_BB_organ_26 : decode prog_1_method_5_code 26 = .ok (.aload_n 0, 1) := by decide +kernel
theorem d_BB_organ_27 : decode prog_1_method_5_code 27 = .ok (.getfield 26, 3) := by decide +kernel
theorem d_BB_organ_30 : decode prog_1_method_5_code 30 = .ok (.aload_n 0, 1) := by decide +kernel
theorem d_BB_organ_31 : decode prog_1_method_5_code 31 = .ok (.getfield 10, 3) := by decide +kernel
theorem d_BB_organ_34 : decode prog_1_method_5_code 34 = .ok (.invokevirtual 98, 3) := by decide +kernel
theorem d_BB_organ_37 : decode prog_1_method_5_code 37 = .ok (.iconst 0, 1) := by decide +kernel
theorem d_BB_organ_38 : decode prog_1_method_5_code 38 = .ok (.istore_n 1, 1) := by decide +kernel
theorem d_BB_organ_39 : decode prog_1_method_5_code 39 = .ok (.iload_n 1, 1) := by decide +kernel
theorem d_BB_organ_40 : decode prog_1_method_5_code 40 = .ok (.iconst 2, 1) := by decide +kernel
theorem d_BB_organ_41 : decode prog_1_method_5_code 41 = .ok (.if_icmp .ge 16, 3) := by decide +kernel
theorem d_BB_organ_44 : decode prog_1_method_5_code 44 = .ok (.aload_n 0, 1) := by decide +kernel
theorem d_BB_organ_45 : decode prog_1_method_5_code 45 = .ok (.getfield 75, 3) := by decide +kernel
theorem d_BB_organ_48 : decode prog_1_method_5_code 48 = .ok (.iload_n 1, 1) := by decide +kernel
theorem d_BB_organ_49 : decode prog_1_method_5_code 49 = .ok (.iconst 0, 1) := by decide +kernel
theorem d_BB_organ_50 : decode prog_1_method_5_code 50 = .ok (.bastore, 1) := by decide +kernel
theorem d_BB_organ_51 : decode prog_1_method_5_code 51 = .ok (.iinc 1 1, 3) := by decide +kernel
theorem d_BB_organ_54 : decode prog_1_method_5_code 54 = .ok (.goto (-15), 3) := by decide +kernel
theorem d_BB_organ_57 : decode prog_1_method_5_code 57 = .ok (.bipush 100, 2) := by decide +kernel
theorem d_BB_organ_59 : decode prog_1_method_5_code 59 = .ok (.aload_n 0, 1) := by decide +kernel
theorem d_BB_organ_60 : decode prog_1_method_5_code 60 = .ok (.getfield 19, 3) := by decide +kernel
theorem d_BB_organ_63 : decode prog_1_method_5_code 63 = .ok (.getfield 99, 3) := by decide +kernel
theorem d_BB_organ_66 : decode prog_1_method_5_code 66 = .ok (.imul, 1) := by decide +kernel
theorem d_BB_organ_67 : decode prog_1_method_5_code 67 = .ok (.aload_n 0, 1) := by decide +kernel
theorem d_BB_organ_68 : decode prog_1_method_5_code 68 = .ok (.getfield 26, 3) := by decide +kernel
theorem d_BB_organ_71 : decode prog_1_method_5_code 71 = .ok (.getfield 103, 3) := by decide +kernel
theorem d_BB_organ_74 : decode prog_1_method_5_code 74 = .ok (.iadd, 1) := by decide +kernel
theorem d_BB_organ_75 : decode prog_1_method_5_code 75 = .ok (.ireturn, 1) := by decide +kernel
theorem d_BB_drinks_0 : decode prog_1_method_6_code 0 = .ok (.aload_n 0, 1) := by decide +kernel
theorem d_BB_drinks_1 : decode prog_1_method_6_code 1 = .ok (.getfield 19, 3) := by decide +kernel
theorem d_BB_drinks_4 : decode prog_1_method_6_code 4 = .ok (.iload_n 1, 1) := by decide +kernel
theorem d_BB_drinks_5 : decode prog_1_method_6_code 5 = .ok (.invokevirtual 104, 3) := by decide +kernel
theorem d_BB_drinks_8 : decode prog_1_method_6_code 8 = .ok (.ifCond .eq 15, 3) := by decide +kernel
theorem d_BB_drinks_11 : decode prog_1_method_6_code 11 = .ok (.aload_n 0, 1) := by decide +kernel
theorem d_BB_drinks_12 : decode prog_1_method_6_code 12 = .ok (.getfield 19, 3) := by decide +kernel
theorem d_BB_drinks_15 : decode prog_1_method_6_code 15 = .ok (.getfield 107, 3) := by decide +kernel
theorem d_BB_drinks_18 : decode prog_1_method_6_code 18 = .ok (.iload_n 1, 1) := by decide +kernel
theorem d_BB_drinks_19 : decode prog_1_method_6_code 19 = .ok (.iaload, 1) := by decide +kernel
theorem d_BB_drinks_20 : decode prog_1_method_6_code 20 = .ok (.goto 4, 3) := by decide +kernel
theorem d_BB_drinks_23 : decode prog_1_method_6_code 23 = .ok (.iconst (-1), 1) := by decide +kernel
theorem d_BB_drinks_24 : decode prog_1_method_6_code 24 = .ok (.ireturn, 1) := by decide +kernel
theorem d_BB_sounds_0 : decode prog_1_method_7_code 0 = .ok (.aload_n 0, 1) := by decide +kernel
theorem d_BB_sounds_1 : decode prog_1_method_7_code 1 = .ok (.getfield 19, 3) := by decide +kernel
theorem d_BB_sounds_4 : decode prog_1_method_7_code 4 = .ok (.iload_n 1, 1) := by decide +kernel
theorem d_BB_sounds_5 : decode prog_1_method_7_code 5 = .ok (.iload_n 2, 1) := by decide +kernel
theorem d_BB_sounds_6 : decode prog_1_method_7_code 6 = .ok (.invokevirtual 111, 3) := by decide +kernel
theorem d_BB_sounds_9 : decode prog_1_method_7_code 9 = .ok (.ifCond .ne 5, 3) := by decide +kernel
theorem d_BB_sounds_12 : decode prog_1_method_7_code 12 = .ok (.iconst (-1), 1) := by decide +kernel
theorem d_BB_sounds_13 : decode prog_1_method_7_code 13 = .ok (.ireturn, 1) := by decide +kernel
theorem d_BB_sounds_14 : decode prog_1_method_7_code 14 = .ok (.aload_n 0, 1) := by decide +kernel
theorem d_BB_sounds_15 : decode prog_1_method_7_code 15 = .ok (.getfield 19, 3) := by decide +kernel
theorem d_BB_sounds_18 : decode prog_1_method_7_code 18 = .ok (.iload_n 1, 1) := by decide +kernel
theorem d_BB_sounds_19 : decode prog_1_method_7_code 19 = .ok (.iload_n 2, 1) := by decide +kernel
theorem d_BB_sounds_20 : decode prog_1_method_7_code 20 = .ok (.invokevirtual 115, 3) := by decide +kernel
theorem d_BB_sounds_23 : decode prog_1_method_7_code 23 = .ok (.ifCond .eq 7, 3) := by decide +kernel
theorem d_BB_sounds_26 : decode prog_1_method_7_code 26 = .ok (.iconst 1, 1) := by decide +kernel
theorem d_BB_sounds_27 : decode prog_1_method_7_code 27 = .ok (.goto 4, 3) := by decide +kernel
theorem d_BB_sounds_30 : decode prog_1_method_7_code 30 = .ok (.iconst 0, 1) := by decide +kernel
theorem d_BB_sounds_31 : decode prog_1_method_7_code 31 = .ok (.ireturn, 1) := by decide +kernel
theorem d_BB_person_0 : decode prog_1_method_8_code 0 = .ok (.aload_n 0, 1) := by decide +kernel
theorem d_BB_person_1 : decode prog_1_method_8_code 1 = .ok (.getfield 26, 3) := by decide +kernel
theorem d_BB_person_4 : decode prog_1_method_8_code 4 = .ok (.iload_n 1, 1) := by decide +kernel
theorem d_BB_person_5 : decode prog_1_method_8_code 5 = .ok (.invokevirtual 118, 3) := by decide +kernel
theorem d_BB_person_8 : decode prog_1_method_8_code 8 = .ok (.ifCond .ne 5, 3) := by decide +kernel
theorem d_BB_person_11 : decode prog_1_method_8_code 11 = .ok (.iconst (-1), 1) := by decide +kernel
theorem d_BB_person_12 : decode prog_1_method_8_code 12 = .ok (.ireturn, 1) := by decide +kernel
theorem d_BB_person_13 : decode prog_1_method_8_code 13 = .ok (.iload_n 2, 1) := by decide +kernel
theorem d_BB_person_14 : decode prog_1_method_8_code 14 = .ok (.tableswitch 92 0 4 #[34, 44, 54, 64, 74], 34) := by decide +kernel
theorem d_BB_person_48 : decode prog_1_method_8_code 48 = .ok (.aload_n 0, 1) := by decide +kernel
theorem d_BB_person_49 : decode prog_1_method_8_code 49 = .ok (.getfield 26, 3) := by decide +kernel
theorem d_BB_person_52 : decode prog_1_method_8_code 52 = .ok (.getfield 119, 3) := by decide +kernel
theorem d_BB_person_55 : decode prog_1_method_8_code 55 = .ok (.iload_n 1, 1) := by decide +kernel
theorem d_BB_person_56 : decode prog_1_method_8_code 56 = .ok (.iaload, 1) := by decide +kernel
theorem d_BB_person_57 : decode prog_1_method_8_code 57 = .ok (.ireturn, 1) := by decide +kernel
theorem d_BB_person_58 : decode prog_1_method_8_code 58 = .ok (.aload_n 0, 1) := by decide +kernel
theorem d_BB_person_59 : decode prog_1_method_8_code 59 = .ok (.getfield 26, 3) := by decide +kernel
theorem d_BB_person_62 : decode prog_1_method_8_code 62 = .ok (.getfield 122, 3) := by decide +kernel
theorem d_BB_person_65 : decode prog_1_method_8_code 65 = .ok (.iload_n 1, 1) := by decide +kernel
theorem d_BB_person_66 : decode prog_1_method_8_code 66 = .ok (.iaload, 1) := by decide +kernel
theorem d_BB_person_67 : decode prog_1_method_8_code 67 = .ok (.ireturn, 1) := by decide +kernel
theorem d_BB_person_68 : decode prog_1_method_8_code 68 = .ok (.aload_n 0, 1) := by decide +kernel
theorem d_BB_person_69 : decode prog_1_method_8_code 69 = .ok (.getfield 26, 3) := by decide +kernel
theorem d_BB_person_72 : decode prog_1_method_8_code 72 = .ok (.getfield 125, 3) := by decide +kernel
theorem d_BB_person_75 : decode prog_1_method_8_code 75 = .ok (.iload_n 1, 1) := by decide +kernel
theorem d_BB_person_76 : decode prog_1_method_8_code 76 = .ok (.iaload, 1) := by decide +kernel
theorem d_BB_person_77 : decode prog_1_method_8_code 77 = .ok (.ireturn, 1) := by decide +kernel
theorem d_BB_person_78 : decode prog_1_method_8_code 78 = .ok (.aload_n 0, 1) := by decide +kernel
theorem d_BB_person_79 : decode prog_1_method_8_code 79 = .ok (.getfield 26, 3) := by decide +kernel
theorem d_BB_person_82 : decode prog_1_method_8_code 82 = .ok (.getfield 128, 3) := by decide +kernel
theorem d_BB_person_85 : decode prog_1_method_8_code 85 = .ok (.iload_n 1, 1) := by decide +kernel
theorem d_BB_person_86 : decode prog_1_method_8_code 86 = .ok (.iaload, 1) := by decide +kernel
theorem d_BB_person_87 : decode prog_1_method_8_code 87 = .ok (.ireturn, 1) := by decide +kernel
theorem d_BB_person_88 : decode prog_1_method_8_code 88 = .ok (.aload_n 0, 1) := by decide +kernel
theorem d_BB_person_89 : decode prog_1_method_8_code 89 = .ok (.getfield 26, 3) := by decide +kernel
theorem d_BB_person_92 : decode prog_1_method_8_code 92 = .ok (.getfield 131, 3) := by decide +kernel
theorem d_BB_person_95 : decode prog_1_method_8_code 95 = .ok (.iload_n 1, 1) := by decide +kernel
theorem d_BB_person_96 : decode prog_1_method_8_code 96 = .ok (.baload, 1) := by decide +kernel
theorem d_BB_person_97 : decode prog_1_method_8_code 97 = .ok (.ifCond .eq 7, 3) := by decide +kernel
theorem d_BB_person_100 : decode prog_1_method_8_code 100 = .ok (.iconst 1, 1) := by decide +kernel
theorem d_BB_person_101 : decode prog_1_method_8_code 101 = .ok (.goto 4, 3) := by decide +kernel
theorem d_BB_person_104 : decode prog_1_method_8_code 104 = .ok (.iconst 0, 1) := by decide +kernel
theorem d_BB_person_105 : decode prog_1_method_8_code 105 = .ok (.ireturn, 1) := by decide +kernel
theorem d_BB_person_106 : decode prog_1_method_8_code 106 = .ok (.bipush (-2), 2) := by decide +kernel
theorem d_BB_person_108 : decode prog_1_method_8_code 108 = .ok (.ireturn, 1) := by decide +kernel
theorem d_BB_seat_0 : decode prog_1_method_9_code 0 = .ok (.aload_n 0, 1) := by decide +kernel
theorem d_BB_seat_1 : decode prog_1_method_9_code 1 = .ok (.getfield 26, 3) := by decide +kernel
theorem d_BB_seat_4 : decode prog_1_method_9_code 4 = .ok (.iload_n 1, 1) := by decide +kernel
theorem d_BB_seat_5 : decode prog_1_method_9_code 5 = .ok (.invokevirtual 118, 3) := by decide +kernel
theorem d_BB_seat_8 : decode prog_1_method_9_code 8 = .ok (.ifCond .eq 14, 3) := by decide +kernel
theorem d_BB_seat_11 : decode prog_1_method_9_code 11 = .ok (.aload_n 0, 1) := by decide +kernel
theorem d_BB_seat_12 : decode prog_1_method_9_code 12 = .ok (.getfield 19, 3) := by decide +kernel
theorem d_BB_seat_15 : decode prog_1_method_9_code 15 = .ok (.iload_n 2, 1) := by decide +kernel
theorem d_BB_seat_16 : decode prog_1_method_9_code 16 = .ok (.invokevirtual 104, 3) := by decide +kernel
theorem d_BB_seat_19 : decode prog_1_method_9_code 19 = .ok (.ifCond .ne 5, 3) := by decide +kernel
theorem d_BB_seat_22 : decode prog_1_method_9_code 22 = .ok (.iconst (-1), 1) := by decide +kernel
theorem d_BB_seat_23 : decode prog_1_method_9_code 23 = .ok (.ireturn, 1) := by decide +kernel
theorem d_BB_seat_24 : decode prog_1_method_9_code 24 = .ok (.aload_n 0, 1) := by decide +kernel
theorem d_BB_seat_25 : decode prog_1_method_9_code 25 = .ok (.getfield 26, 3) := by decide +kernel
theorem d_BB_seat_28 : decode prog_1_method_9_code 28 = .ok (.getfield 125, 3) := by decide +kernel
theorem d_BB_seat_31 : decode prog_1_method_9_code 31 = .ok (.iload_n 1, 1) := by decide +kernel
theorem d_BB_seat_32 : decode prog_1_method_9_code 32 = .ok (.iaload, 1) := by decide +kernel
theorem d_BB_seat_33 : decode prog_1_method_9_code 33 = .ok (.istore_n 3, 1) := by decide +kernel
theorem d_BB_seat_34 : decode prog_1_method_9_code 34 = .ok (.aload_n 0, 1) := by decide +kernel
theorem d_BB_seat_35 : decode prog_1_method_9_code 35 = .ok (.getfield 26, 3) := by decide +kernel
theorem d_BB_seat_38 : decode prog_1_method_9_code 38 = .ok (.getfield 125, 3) := by decide +kernel
theorem d_BB_seat_41 : decode prog_1_method_9_code 41 = .ok (.iload_n 1, 1) := by decide +kernel
theorem d_BB_seat_42 : decode prog_1_method_9_code 42 = .ok (.iload_n 2, 1) := by decide +kernel
theorem d_BB_seat_43 : decode prog_1_method_9_code 43 = .ok (.iastore, 1) := by decide +kernel
theorem d_BB_seat_44 : decode prog_1_method_9_code 44 = .ok (.iload_n 3, 1) := by decide +kernel
theorem d_BB_seat_45 : decode prog_1_method_9_code 45 = .ok (.ireturn, 1) := by decide +kernel
theorem d_BB_phase_0 : decode prog_1_method_10_code 0 = .ok (.aload_n 0, 1) := by decide +kernel
theorem d_BB_phase_1 : decode prog_1_method_10_code 1 = .ok (.getfield 26, 3) := by decide +kernel
theorem d_BB_phase_4 : decode prog_1_method_10_code 4 = .ok (.iload_n 1, 1) := by decide +kernel
theorem d_BB_phase_5 : decode prog_1_method_10_code 5 = .ok (.invokevirtual 118, 3) := by decide +kernel
theorem d_BB_phase_8 : decode prog_1_method_10_code 8 = .ok (.ifCond .ne 5, 3) := by decide +kernel
theorem d_BB_phase_11 : decode prog_1_method_10_code 11 = .ok (.iconst (-1), 1) := by decide +kernel
theorem d_BB_phase_12 : decode prog_1_method_10_code 12 = .ok (.ireturn, 1) := by decide +kernel
theorem d_BB_phase_13 : decode prog_1_method_10_code 13 = .ok (.iload_n 2, 1) := by decide +kernel
theorem d_BB_phase_14 : decode prog_1_method_10_code 14 = .ok (.ifCond .lt 16, 3) := by decide +kernel
theorem d_BB_phase_17 : decode prog_1_method_10_code 17 = .ok (.iload_n 2, 1) := by decide +kernel
theorem d_BB_phase_18 : decode prog_1_method_10_code 18 = .ok (.aload_n 0, 1) := by decide +kernel
theorem d_BB_phase_19 : decode prog_1_method_10_code 19 = .ok (.getfield 26, 3) := by decide +kernel
theorem d_BB_phase_22 : decode prog_1_method_10_code 22 = .ok (.getfield 119, 3) := by decide +kernel
theorem d_BB_phase_25 : decode prog_1_method_10_code 25 = .ok (.iload_n 1, 1) := by decide +kernel
theorem d_BB_phase_26 : decode prog_1_method_10_code 26 = .ok (.iaload, 1) := by decide +kernel
theorem d_BB_phase_27 : decode prog_1_method_10_code 27 = .ok (.if_icmp .le 6, 3) := by decide +kernel
theorem d_BB_phase_30 : decode prog_1_method_10_code 30 = .ok (.bipush (-2), 2) := by decide +kernel
theorem d_BB_phase_32 : decode prog_1_method_10_code 32 = .ok (.ireturn, 1) := by decide +kernel
theorem d_BB_phase_33 : decode prog_1_method_10_code 33 = .ok (.aload_n 0, 1) := by decide +kernel
theorem d_BB_phase_34 : decode prog_1_method_10_code 34 = .ok (.getfield 26, 3) := by decide +kernel
theorem d_BB_phase_37 : decode prog_1_method_10_code 37 = .ok (.getfield 128, 3) := by decide +kernel
theorem d_BB_phase_40 : decode prog_1_method_10_code 40 = .ok (.iload_n 1, 1) := by decide +kernel
theorem d_BB_phase_41 : decode prog_1_method_10_code 41 = .ok (.iaload, 1) := by decide +kernel
theorem d_BB_phase_42 : decode prog_1_method_10_code 42 = .ok (.istore_n 3, 1) := by decide +kernel
theorem d_BB_phase_43 : decode prog_1_method_10_code 43 = .ok (.aload_n 0, 1) := by decide +kernel
theorem d_BB_phase_44 : decode prog_1_method_10_code 44 = .ok (.getfield 26, 3) := by decide +kernel
theorem d_BB_phase_47 : decode prog_1_method_10_code 47 = .ok (.getfield 128, 3) := by decide +kernel
theorem d_BB_phase_50 : decode prog_1_method_10_code 50 = .ok (.iload_n 1, 1) := by decide +kernel
theorem d_BB_phase_51 : decode prog_1_method_10_code 51 = .ok (.iload_n 2, 1) := by decide +kernel
theorem d_BB_phase_52 : decode prog_1_method_10_code 52 = .ok (.iastore, 1) := by decide +kernel
theorem d_BB_phase_53 : decode prog_1_method_10_code 53 = .ok (.iload_n 3, 1) := by decide +kernel
theorem d_BB_phase_54 : decode prog_1_method_10_code 54 = .ok (.ireturn, 1) := by decide +kernel
theorem d_BB_bribe_0 : decode prog_1_method_11_code 0 = .ok (.aload_n 0, 1) := by decide +kernel
theorem d_BB_bribe_1 : decode prog_1_method_11_code 1 = .ok (.getfield 26, 3) := by decide +kernel
theorem d_BB_bribe_4 : decode prog_1_method_11_code 4 = .ok (.iload_n 1, 1) := by decide +kernel
theorem d_BB_bribe_5 : decode prog_1_method_11_code 5 = .ok (.invokevirtual 118, 3) := by decide +kernel
theorem d_BB_bribe_8 : decode prog_1_method_11_code 8 = .ok (.ifCond .ne 5, 3) := by decide +kernel
theorem d_BB_bribe_11 : decode prog_1_method_11_code 11 = .ok (.iconst (-1), 1) := by decide +kernel
theorem d_BB_bribe_12 : decode prog_1_method_11_code 12 = .ok (.ireturn, 1) := by decide +kernel
theorem d_BB_bribe_13 : decode prog_1_method_11_code 13 = .ok (.aload_n 0, 1) := by decide +kernel
theorem d_BB_bribe_14 : decode prog_1_method_11_code 14 = .ok (.getfield 26, 3) := by decide +kernel
theorem d_BB_bribe_17 : decode prog_1_method_11_code 17 = .ok (.getfield 131, 3) := by decide +kernel
theorem d_BB_bribe_20 : decode prog_1_method_11_code 20 = .ok (.iload_n 1, 1) := by decide +kernel
theorem d_BB_bribe_21 : decode prog_1_method_11_code 21 = .ok (.baload, 1) := by decide +kernel
theorem d_BB_bribe_22 : decode prog_1_method_11_code 22 = .ok (.istore_n 3, 1) := by decide +kernel
theorem d_BB_bribe_23 : decode prog_1_method_11_code 23 = .ok (.aload_n 0, 1) := by decide +kernel
theorem d_BB_bribe_24 : decode prog_1_method_11_code 24 = .ok (.getfield 26, 3) := by decide +kernel
theorem d_BB_bribe_27 : decode prog_1_method_11_code 27 = .ok (.getfield 131, 3) := by decide +kernel
theorem d_BB_bribe_30 : decode prog_1_method_11_code 30 = .ok (.iload_n 1, 1) := by decide +kernel
theorem d_BB_bribe_31 : decode prog_1_method_11_code 31 = .ok (.iload_n 2, 1) := by decide +kernel
theorem d_BB_bribe_32 : decode prog_1_method_11_code 32 = .ok (.bastore, 1) := by decide +kernel
theorem d_BB_bribe_33 : decode prog_1_method_11_code 33 = .ok (.iload_n 3, 1) := by decide +kernel
theorem d_BB_bribe_34 : decode prog_1_method_11_code 34 = .ok (.iload_n 2, 1) := by decide +kernel
theorem d_BB_bribe_35 : decode prog_1_method_11_code 35 = .ok (.if_icmp .ne 7, 3) := by decide +kernel
theorem d_BB_bribe_38 : decode prog_1_method_11_code 38 = .ok (.iconst 0, 1) := by decide +kernel
theorem d_BB_bribe_39 : decode prog_1_method_11_code 39 = .ok (.goto 4, 3) := by decide +kernel
theorem d_BB_bribe_42 : decode prog_1_method_11_code 42 = .ok (.iconst 1, 1) := by decide +kernel
theorem d_BB_bribe_43 : decode prog_1_method_11_code 43 = .ok (.ireturn, 1) := by decide +kernel
theorem d_BB_grow_0 : decode prog_1_method_12_code 0 = .ok (.aload_n 0, 1) := by decide +kernel
theorem d_BB_grow_1 : decode prog_1_method_12_code 1 = .ok (.getfield 26, 3) := by decide +kernel
theorem d_BB_grow_4 : decode prog_1_method_12_code 4 = .ok (.iload_n 1, 1) := by decide +kernel
theorem d_BB_grow_5 : decode prog_1_method_12_code 5 = .ok (.invokevirtual 118, 3) := by decide +kernel
theorem d_BB_grow_8 : decode prog_1_method_12_code 8 = .ok (.ifCond .ne 5, 3) := by decide +kernel
theorem d_BB_grow_11 : decode prog_1_method_12_code 11 = .ok (.iconst (-1), 1) := by decide +kernel
theorem d_BB_grow_12 : decode prog_1_method_12_code 12 = .ok (.ireturn, 1) := by decide +kernel
theorem d_BB_grow_13 : decode prog_1_method_12_code 13 = .ok (.aload_n 0, 1) := by decide +kernel
theorem d_BB_grow_14 : decode prog_1_method_12_code 14 = .ok (.getfield 26, 3) := by decide +kernel
theorem d_BB_grow_17 : decode prog_1_method_12_code 17 = .ok (.getfield 119, 3) := by decide +kernel
theorem d_BB_grow_20 : decode prog_1_method_12_code 20 = .ok (.iload_n 1, 1) := by decide +kernel
theorem d_BB_grow_21 : decode prog_1_method_12_code 21 = .ok (.iaload, 1) := by decide +kernel
theorem d_BB_grow_22 : decode prog_1_method_12_code 22 = .ok (.bipush 9, 2) := by decide +kernel
theorem d_BB_grow_24 : decode prog_1_method_12_code 24 = .ok (.if_icmp .lt 6, 3) := by decide +kernel
theorem d_BB_grow_27 : decode prog_1_method_12_code 27 = .ok (.bipush (-3), 2) := by decide +kernel
theorem d_BB_grow_29 : decode prog_1_method_12_code 29 = .ok (.ireturn, 1) := by decide +kernel
theorem d_BB_grow_30 : decode prog_1_method_12_code 30 = .ok (.aload_n 0, 1) := by decide +kernel
theorem d_BB_grow_31 : decode prog_1_method_12_code 31 = .ok (.getfield 26, 3) := by decide +kernel
theorem d_BB_grow_34 : decode prog_1_method_12_code 34 = .ok (.getfield 119, 3) := by decide +kernel
theorem d_BB_grow_37 : decode prog_1_method_12_code 37 = .ok (.iload_n 1, 1) := by decide +kernel
theorem d_BB_grow_38 : decode prog_1_method_12_code 38 = .ok (.dup2, 1) := by decide +kernel
theorem d_BB_grow_39 : decode prog_1_method_12_code 39 = .ok (.iaload, 1) := by decide +kernel
theorem d_BB_grow_40 : decode prog_1_method_12_code 40 = .ok (.iconst 1, 1) := by decide +kernel
theorem d_BB_grow_41 : decode prog_1_method_12_code 41 = .ok (.iadd, 1) := by decide +kernel
theorem d_BB_grow_42 : decode prog_1_method_12_code 42 = .ok (.iastore, 1) := by decide +kernel
theorem d_BB_grow_43 : decode prog_1_method_12_code 43 = .ok (.aload_n 0, 1) := by decide +kernel
theorem d_BB_grow_44 : decode prog_1_method_12_code 44 = .ok (.getfield 26, 3) := by decide +kernel
theorem d_BB_grow_47 : decode prog_1_method_12_code 47 = .ok (.getfield 119, 3) := by decide +kernel
theorem d_BB_grow_50 : decode prog_1_method_12_code 50 = .ok (.iload_n 1, 1) := by decide +kernel
theorem d_BB_grow_51 : decode prog_1_method_12_code 51 = .ok (.iaload, 1) := by decide +kernel
theorem d_BB_grow_52 : decode prog_1_method_12_code 52 = .ok (.ireturn, 1) := by decide +kernel
theorem d_BB_store_0 : decode prog_1_method_13_code 0 = .ok (.iload_n 1, 1) := by decide +kernel
theorem d_BB_store_1 : decode prog_1_method_13_code 1 = .ok (.ifCond .lt 9, 3) := by decide +kernel
theorem d_BB_store_4 : decode prog_1_method_13_code 4 = .ok (.iload_n 1, 1) := by decide +kernel
theorem d_BB_store_5 : decode prog_1_method_13_code 5 = .ok (.bipush 9, 2) := by decide +kernel
theorem d_BB_store_7 : decode prog_1_method_13_code 7 = .ok (.if_icmp .le 6, 3) := by decide +kernel
theorem d_BB_store_10 : decode prog_1_method_13_code 10 = .ok (.bipush (-2), 2) := by decide +kernel
theorem d_BB_store_12 : decode prog_1_method_13_code 12 = .ok (.ireturn, 1) := by decide +kernel
theorem d_BB_store_13 : decode prog_1_method_13_code 13 = .ok (.aload_n 0, 1) := by decide +kernel
theorem d_BB_store_14 : decode prog_1_method_13_code 14 = .ok (.getfield 26, 3) := by decide +kernel
theorem d_BB_store_17 : decode prog_1_method_13_code 17 = .ok (.getfield 134, 3) := by decide +kernel
theorem d_BB_store_20 : decode prog_1_method_13_code 20 = .ok (.istore_n 2, 1) := by decide +kernel
theorem d_BB_store_21 : decode prog_1_method_13_code 21 = .ok (.aload_n 0, 1) := by decide +kernel
theorem d_BB_store_22 : decode prog_1_method_13_code 22 = .ok (.getfield 26, 3) := by decide +kernel
theorem d_BB_store_25 : decode prog_1_method_13_code 25 = .ok (.iload_n 1, 1) := by decide +kernel
theorem d_BB_store_26 : decode prog_1_method_13_code 26 = .ok (.putfield 134, 3) := by decide +kernel
theorem d_BB_store_29 : decode prog_1_method_13_code 29 = .ok (.iload_n 2, 1) := by decide +kernel
theorem d_BB_store_30 : decode prog_1_method_13_code 30 = .ok (.ireturn, 1) := by decide +kernel
theorem d_BB_late_0 : decode prog_1_method_14_code 0 = .ok (.iload_n 1, 1) := by decide +kernel
theorem d_BB_late_1 : decode prog_1_method_14_code 1 = .ok (.ifCond .lt 9, 3) := by decide +kernel
theorem d_BB_late_4 : decode prog_1_method_14_code 4 = .ok (.iload_n 1, 1) := by decide +kernel
theorem d_BB_late_5 : decode prog_1_method_14_code 5 = .ok (.bipush 99, 2) := by decide +kernel
theorem d_BB_late_7 : decode prog_1_method_14_code 7 = .ok (.if_icmp .le 6, 3) := by decide +kernel
theorem d_BB_late_10 : decode prog_1_method_14_code 10 = .ok (.bipush (-2), 2) := by decide +kernel
theorem d_BB_late_12 : decode prog_1_method_14_code 12 = .ok (.ireturn, 1) := by decide +kernel
theorem d_BB_late_13 : decode prog_1_method_14_code 13 = .ok (.aload_n 0, 1) := by decide +kernel
theorem d_BB_late_14 : decode prog_1_method_14_code 14 = .ok (.getfield 26, 3) := by decide +kernel
theorem d_BB_late_17 : decode prog_1_method_14_code 17 = .ok (.getfield 137, 3) := by decide +kernel
theorem d_BB_late_20 : decode prog_1_method_14_code 20 = .ok (.istore_n 2, 1) := by decide +kernel
theorem d_BB_late_21 : decode prog_1_method_14_code 21 = .ok (.aload_n 0, 1) := by decide +kernel
theorem d_BB_late_22 : decode prog_1_method_14_code 22 = .ok (.getfield 26, 3) := by decide +kernel
theorem d_BB_late_25 : decode prog_1_method_14_code 25 = .ok (.iload_n 1, 1) := by decide +kernel
theorem d_BB_late_26 : decode prog_1_method_14_code 26 = .ok (.putfield 137, 3) := by decide +kernel
theorem d_BB_late_29 : decode prog_1_method_14_code 29 = .ok (.iload_n 2, 1) := by decide +kernel
theorem d_BB_late_30 : decode prog_1_method_14_code 30 = .ok (.ireturn, 1) := by decide +kernel
theorem d_BB_gives_0 : decode prog_1_method_15_code 0 = .ok (.aload_n 0, 1) := by decide +kernel
theorem d_BB_gives_1 : decode prog_1_method_15_code 1 = .ok (.getfield 26, 3) := by decide +kernel
theorem d_BB_gives_4 : decode prog_1_method_15_code 4 = .ok (.iload_n 1, 1) := by decide +kernel
theorem d_BB_gives_5 : decode prog_1_method_15_code 5 = .ok (.invokevirtual 118, 3) := by decide +kernel
theorem d_BB_gives_8 : decode prog_1_method_15_code 8 = .ok (.ifCond .eq 14, 3) := by decide +kernel
theorem d_BB_gives_11 : decode prog_1_method_15_code 11 = .ok (.aload_n 0, 1) := by decide +kernel
theorem d_BB_gives_12 : decode prog_1_method_15_code 12 = .ok (.getfield 19, 3) := by decide +kernel
theorem d_BB_gives_15 : decode prog_1_method_15_code 15 = .ok (.iload_n 2, 1) := by decide +kernel
theorem d_BB_gives_16 : decode prog_1_method_15_code 16 = .ok (.invokevirtual 140, 3) := by decide +kernel
theorem d_BB_gives_19 : decode prog_1_method_15_code 19 = .ok (.ifCond .ne 5, 3) := by decide +kernel
theorem d_BB_gives_22 : decode prog_1_method_15_code 22 = .ok (.iconst (-1), 1) := by decide +kernel
theorem d_BB_gives_23 : decode prog_1_method_15_code 23 = .ok (.ireturn, 1) := by decide +kernel
theorem d_BB_gives_24 : decode prog_1_method_15_code 24 = .ok (.aload_n 0, 1) := by decide +kernel
theorem d_BB_gives_25 : decode prog_1_method_15_code 25 = .ok (.getfield 26, 3) := by decide +kernel
theorem d_BB_gives_28 : decode prog_1_method_15_code 28 = .ok (.iload_n 1, 1) := by decide +kernel
theorem d_BB_gives_29 : decode prog_1_method_15_code 29 = .ok (.iload_n 2, 1) := by decide +kernel
theorem d_BB_gives_30 : decode prog_1_method_15_code 30 = .ok (.aload_n 0, 1) := by decide +kernel
theorem d_BB_gives_31 : decode prog_1_method_15_code 31 = .ok (.getfield 26, 3) := by decide +kernel
theorem d_BB_gives_34 : decode prog_1_method_15_code 34 = .ok (.getfield 137, 3) := by decide +kernel
theorem d_BB_gives_37 : decode prog_1_method_15_code 37 = .ok (.iadd, 1) := by decide +kernel
theorem d_BB_gives_38 : decode prog_1_method_15_code 38 = .ok (.invokevirtual 143, 3) := by decide +kernel
theorem d_BB_gives_41 : decode prog_1_method_15_code 41 = .ok (.ireturn, 1) := by decide +kernel
theorem d_BB_air_0 : decode prog_1_method_16_code 0 = .ok (.aload_n 0, 1) := by decide +kernel
theorem d_BB_air_1 : decode prog_1_method_16_code 1 = .ok (.getfield 19, 3) := by decide +kernel
theorem d_BB_air_4 : decode prog_1_method_16_code 4 = .ok (.iload_n 1, 1) := by decide +kernel
theorem d_BB_air_5 : decode prog_1_method_16_code 5 = .ok (.iload_n 2, 1) := by decide +kernel
theorem d_BB_air_6 : decode prog_1_method_16_code 6 = .ok (.invokevirtual 111, 3) := by decide +kernel
theorem d_BB_air_9 : decode prog_1_method_16_code 9 = .ok (.ifCond .ne 5, 3) := by decide +kernel
theorem d_BB_air_12 : decode prog_1_method_16_code 12 = .ok (.iconst (-1), 1) := by decide +kernel
theorem d_BB_air_13 : decode prog_1_method_16_code 13 = .ok (.ireturn, 1) := by decide +kernel
theorem d_BB_air_14 : decode prog_1_method_16_code 14 = .ok (.aload_n 0, 1) := by decide +kernel
theorem d_BB_air_15 : decode prog_1_method_16_code 15 = .ok (.getfield 35, 3) := by decide +kernel
theorem d_BB_air_18 : decode prog_1_method_16_code 18 = .ok (.aload_n 0, 1) := by decide +kernel
theorem d_BB_air_19 : decode prog_1_method_16_code 19 = .ok (.getfield 26, 3) := by decide +kernel
theorem d_BB_air_22 : decode prog_1_method_16_code 22 = .ok (.iload_n 1, 1) := by decide +kernel
theorem d_BB_air_23 : decode prog_1_method_16_code 23 = .ok (.invokevirtual 147, 3) := by decide +kernel
theorem d_BB_air_26 : decode prog_1_method_16_code 26 = .ok (.aload_n 0, 1) := by decide +kernel
theorem d_BB_air_27 : decode prog_1_method_16_code 27 = .ok (.getfield 26, 3) := by decide +kernel
theorem d_BB_air_30 : decode prog_1_method_16_code 30 = .ok (.getfield 137, 3) := by decide +kernel
theorem d_BB_air_33 : decode prog_1_method_16_code 33 = .ok (.invokevirtual 151, 3) := by decide +kernel
theorem d_BB_air_36 : decode prog_1_method_16_code 36 = .ok (.aload_n 0, 1) := by decide +kernel
theorem d_BB_air_37 : decode prog_1_method_16_code 37 = .ok (.getfield 35, 3) := by decide +kernel
theorem d_BB_air_40 : decode prog_1_method_16_code 40 = .ok (.getfield 155, 3) := by decide +kernel
theorem d_BB_air_43 : decode prog_1_method_16_code 43 = .ok (.iload_n 2, 1) := by decide +kernel
theorem d_BB_air_44 : decode prog_1_method_16_code 44 = .ok (.iaload, 1) := by decide +kernel
theorem d_BB_air_45 : decode prog_1_method_16_code 45 = .ok (.ireturn, 1) := by decide +kernel
theorem d_BB_stored_0 : decode prog_1_method_17_code 0 = .ok (.aload_n 0, 1) := by decide +kernel
theorem d_BB_stored_1 : decode prog_1_method_17_code 1 = .ok (.getfield 19, 3) := by decide +kernel
theorem d_BB_stored_4 : decode prog_1_method_17_code 4 = .ok (.iload_n 1, 1) := by decide +kernel
theorem d_BB_stored_5 : decode prog_1_method_17_code 5 = .ok (.iload_n 2, 1) := by decide +kernel
theorem d_BB_stored_6 : decode prog_1_method_17_code 6 = .ok (.invokevirtual 111, 3) := by decide +kernel
theorem d_BB_stored_9 : decode prog_1_method_17_code 9 = .ok (.ifCond .ne 5, 3) := by decide +kernel
theorem d_BB_stored_12 : decode prog_1_method_17_code 12 = .ok (.iconst (-1), 1) := by decide +kernel
theorem d_BB_stored_13 : decode prog_1_method_17_code 13 = .ok (.ireturn, 1) := by decide +kernel
theorem d_BB_stored_14 : decode prog_1_method_17_code 14 = .ok (.aload_n 0, 1) := by decide +kernel
theorem d_BB_stored_15 : decode prog_1_method_17_code 15 = .ok (.getfield 35, 3) := by decide +kernel
theorem d_BB_stored_18 : decode prog_1_method_17_code 18 = .ok (.iload_n 1, 1) := by decide +kernel
theorem d_BB_stored_19 : decode prog_1_method_17_code 19 = .ok (.aload_n 0, 1) := by decide +kernel
theorem d_BB_stored_20 : decode prog_1_method_17_code 20 = .ok (.getfield 26, 3) := by decide +kernel
theorem d_BB_stored_23 : decode prog_1_method_17_code 23 = .ok (.getfield 137, 3) := by decide +kernel
theorem d_BB_stored_26 : decode prog_1_method_17_code 26 = .ok (.invokevirtual 158, 3) := by decide +kernel
theorem d_BB_stored_29 : decode prog_1_method_17_code 29 = .ok (.pop, 1) := by decide +kernel
theorem d_BB_stored_30 : decode prog_1_method_17_code 30 = .ok (.aload_n 0, 1) := by decide +kernel
theorem d_BB_stored_31 : decode prog_1_method_17_code 31 = .ok (.getfield 35, 3) := by decide +kernel
theorem d_BB_stored_34 : decode prog_1_method_17_code 34 = .ok (.getfield 161, 3) := by decide +kernel
theorem d_BB_stored_37 : decode prog_1_method_17_code 37 = .ok (.iload_n 2, 1) := by decide +kernel
theorem d_BB_stored_38 : decode prog_1_method_17_code 38 = .ok (.iaload, 1) := by decide +kernel
theorem d_BB_stored_39 : decode prog_1_method_17_code 39 = .ok (.ireturn, 1) := by decide +kernel
theorem d_BB_sags_0 : decode prog_1_method_18_code 0 = .ok (.aload_n 0, 1) := by decide +kernel
theorem d_BB_sags_1 : decode prog_1_method_18_code 1 = .ok (.getfield 19, 3) := by decide +kernel
theorem d_BB_sags_4 : decode prog_1_method_18_code 4 = .ok (.iload_n 1, 1) := by decide +kernel
theorem d_BB_sags_5 : decode prog_1_method_18_code 5 = .ok (.iload_n 2, 1) := by decide +kernel
theorem d_BB_sags_6 : decode prog_1_method_18_code 6 = .ok (.invokevirtual 111, 3) := by decide +kernel
theorem d_BB_sags_9 : decode prog_1_method_18_code 9 = .ok (.ifCond .ne 5, 3) := by decide +kernel
theorem d_BB_sags_12 : decode prog_1_method_18_code 12 = .ok (.iconst (-1), 1) := by decide +kernel
theorem d_BB_sags_13 : decode prog_1_method_18_code 13 = .ok (.ireturn, 1) := by decide +kernel
theorem d_BB_sags_14 : decode prog_1_method_18_code 14 = .ok (.aload_n 0, 1) := by decide +kernel
theorem d_BB_sags_15 : decode prog_1_method_18_code 15 = .ok (.getfield 35, 3) := by decide +kernel
theorem d_BB_sags_18 : decode prog_1_method_18_code 18 = .ok (.iload_n 1, 1) := by decide +kernel
theorem d_BB_sags_19 : decode prog_1_method_18_code 19 = .ok (.aload_n 0, 1) := by decide +kernel
theorem d_BB_sags_20 : decode prog_1_method_18_code 20 = .ok (.getfield 26, 3) := by decide +kernel
theorem d_BB_sags_23 : decode prog_1_method_18_code 23 = .ok (.getfield 137, 3) := by decide +kernel
theorem d_BB_sags_26 : decode prog_1_method_18_code 26 = .ok (.invokevirtual 158, 3) := by decide +kernel
theorem d_BB_sags_29 : decode prog_1_method_18_code 29 = .ok (.pop, 1) := by decide +kernel
theorem d_BB_sags_30 : decode prog_1_method_18_code 30 = .ok (.aload_n 0, 1) := by decide +kernel
theorem d_BB_sags_31 : decode prog_1_method_18_code 31 = .ok (.getfield 35, 3) := by decide +kernel
theorem d_BB_sags_34 : decode prog_1_method_18_code 34 = .ok (.getfield 164, 3) := by decide +kernel
theorem d_BB_sags_37 : decode prog_1_method_18_code 37 = .ok (.iload_n 2, 1) := by decide +kernel
theorem d_BB_sags_38 : decode prog_1_method_18_code 38 = .ok (.iaload, 1) := by decide +kernel
theorem d_BB_sags_39 : decode prog_1_method_18_code 39 = .ok (.ireturn, 1) := by decide +kernel
theorem d_BB_total_0 : decode prog_1_method_19_code 0 = .ok (.aload_n 0, 1) := by decide +kernel
theorem d_BB_total_1 : decode prog_1_method_19_code 1 = .ok (.getfield 35, 3) := by decide +kernel
theorem d_BB_total_4 : decode prog_1_method_19_code 4 = .ok (.aload_n 0, 1) := by decide +kernel
theorem d_BB_total_5 : decode prog_1_method_19_code 5 = .ok (.getfield 26, 3) := by decide +kernel
theorem d_BB_total_8 : decode prog_1_method_19_code 8 = .ok (.getfield 137, 3) := by decide +kernel
theorem d_BB_total_11 : decode prog_1_method_19_code 11 = .ok (.invokevirtual 167, 3) := by decide +kernel
theorem d_BB_total_14 : decode prog_1_method_19_code 14 = .ok (.ireturn, 1) := by decide +kernel
theorem d_BB_first_0 : decode prog_1_method_20_code 0 = .ok (.bipush (-9), 2) := by decide +kernel
theorem d_BB_first_2 : decode prog_1_method_20_code 2 = .ok (.istore_n 1, 1) := by decide +kernel
theorem d_BB_first_3 : decode prog_1_method_20_code 3 = .ok (.iconst 0, 1) := by decide +kernel
theorem d_BB_first_4 : decode prog_1_method_20_code 4 = .ok (.istore_n 2, 1) := by decide +kernel
theorem d_BB_first_5 : decode prog_1_method_20_code 5 = .ok (.iload_n 2, 1) := by decide +kernel
theorem d_BB_first_6 : decode prog_1_method_20_code 6 = .ok (.aload_n 0, 1) := by decide +kernel
theorem d_BB_first_7 : decode prog_1_method_20_code 7 = .ok (.getfield 19, 3) := by decide +kernel
theorem d_BB_first_10 : decode prog_1_method_20_code 10 = .ok (.getfield 99, 3) := by decide +kernel
theorem d_BB_first_13 : decode prog_1_method_20_code 13 = .ok (.if_icmp .ge 62, 3) := by decide +kernel
theorem d_BB_first_16 : decode prog_1_method_20_code 16 = .ok (.aload_n 0, 1) := by decide +kernel
theorem d_BB_first_17 : decode prog_1_method_20_code 17 = .ok (.getfield 35, 3) := by decide +kernel
theorem d_BB_first_20 : decode prog_1_method_20_code 20 = .ok (.iload_n 2, 1) := by decide +kernel
theorem d_BB_first_21 : decode prog_1_method_20_code 21 = .ok (.aload_n 0, 1) := by decide +kernel
theorem d_BB_first_22 : decode prog_1_method_20_code 22 = .ok (.getfield 26, 3) := by decide +kernel
theorem d_BB_first_25 : decode prog_1_method_20_code 25 = .ok (.getfield 137, 3) := by decide +kernel
theorem d_BB_first_28 : decode prog_1_method_20_code 28 = .ok (.invokevirtual 158, 3) := by decide +kernel
theorem d_BB_first_31 : decode prog_1_method_20_code 31 = .ok (.pop, 1) := by decide +kernel
theorem d_BB_first_32 : decode prog_1_method_20_code 32 = .ok (.aload_n 0, 1) := by decide +kernel
theorem d_BB_first_33 : decode prog_1_method_20_code 33 = .ok (.getfield 35, 3) := by decide +kernel
theorem d_BB_first_36 : decode prog_1_method_20_code 36 = .ok (.invokevirtual 170, 3) := by decide +kernel
theorem d_BB_first_39 : decode prog_1_method_20_code 39 = .ok (.istore_n 3, 1) := by decide +kernel
theorem d_BB_first_40 : decode prog_1_method_20_code 40 = .ok (.iload_n 3, 1) := by decide +kernel
theorem d_BB_first_41 : decode prog_1_method_20_code 41 = .ok (.bipush (-9), 2) := by decide +kernel
theorem d_BB_first_43 : decode prog_1_method_20_code 43 = .ok (.if_icmp .eq 26, 3) := by decide +kernel
theorem d_BB_first_46 : decode prog_1_method_20_code 46 = .ok (.iload_n 1, 1) := by decide +kernel
theorem d_BB_first_47 : decode prog_1_method_20_code 47 = .ok (.bipush (-9), 2) := by decide +kernel
theorem d_BB_first_49 : decode prog_1_method_20_code 49 = .ok (.if_icmp .eq 13, 3) := by decide +kernel
theorem d_BB_first_52 : decode prog_1_method_20_code 52 = .ok (.bipush 10, 2) := by decide +kernel
theorem d_BB_first_54 : decode prog_1_method_20_code 54 = .ok (.iload_n 3, 1) := by decide +kernel
theorem d_BB_first_55 : decode prog_1_method_20_code 55 = .ok (.imul, 1) := by decide +kernel
theorem d_BB_first_56 : decode prog_1_method_20_code 56 = .ok (.iload_n 2, 1) := by decide +kernel
theorem d_BB_first_57 : decode prog_1_method_20_code 57 = .ok (.iadd, 1) := by decide +kernel
theorem d_BB_first_58 : decode prog_1_method_20_code 58 = .ok (.iload_n 1, 1) := by decide +kernel
theorem d_BB_first_59 : decode prog_1_method_20_code 59 = .ok (.if_icmp .ge 10, 3) := by decide +kernel
theorem d_BB_first_62 : decode prog_1_method_20_code 62 = .ok (.bipush 10, 2) := by decide +kernel
theorem d_BB_first_64 : decode prog_1_method_20_code 64 = .ok (.iload_n 3, 1) := by decide +kernel
theorem d_BB_first_65 : decode prog_1_method_20_code 65 = .ok (.imul, 1) := by decide +kernel
theorem d_BB_first_66 : decode prog_1_method_20_code 66 = .ok (.iload_n 2, 1) := by decide +kernel
theorem d_BB_first_67 : decode prog_1_method_20_code 67 = .ok (.iadd, 1) := by decide +kernel
theorem d_BB_first_68 : decode prog_1_method_20_code 68 = .ok (.istore_n 1, 1) := by decide +kernel
theorem d_BB_first_69 : decode prog_1_method_20_code 69 = .ok (.iinc 2 1, 3) := by decide +kernel
theorem d_BB_first_72 : decode prog_1_method_20_code 72 = .ok (.goto (-67), 3) := by decide +kernel
theorem d_BB_first_75 : decode prog_1_method_20_code 75 = .ok (.iload_n 1, 1) := by decide +kernel
theorem d_BB_first_76 : decode prog_1_method_20_code 76 = .ok (.ireturn, 1) := by decide +kernel
theorem d_BB_worst_0 : decode prog_1_method_21_code 0 = .ok (.bipush (-9), 2) := by decide +kernel
theorem d_BB_worst_2 : decode prog_1_method_21_code 2 = .ok (.istore_n 1, 1) := by decide +kernel
theorem d_BB_worst_3 : decode prog_1_method_21_code 3 = .ok (.iconst 0, 1) := by decide +kernel
theorem d_BB_worst_4 : decode prog_1_method_21_code 4 = .ok (.istore_n 2, 1) := by decide +kernel
theorem d_BB_worst_5 : decode prog_1_method_21_code 5 = .ok (.iconst 0, 1) := by decide +kernel
theorem d_BB_worst_6 : decode prog_1_method_21_code 6 = .ok (.istore_n 3, 1) := by decide +kernel
theorem d_BB_worst_7 : decode prog_1_method_21_code 7 = .ok (.iload_n 3, 1) := by decide +kernel
theorem d_BB_worst_8 : decode prog_1_method_21_code 8 = .ok (.aload_n 0, 1) := by decide +kernel
theorem d_BB_worst_9 : decode prog_1_method_21_code 9 = .ok (.getfield 19, 3) := by decide +kernel
theorem d_BB_worst_12 : decode prog_1_method_21_code 12 = .ok (.getfield 99, 3) := by decide +kernel
theorem d_BB_worst_15 : decode prog_1_method_21_code 15 = .ok (.if_icmp .ge 37, 3) := by decide +kernel
theorem d_BB_worst_18 : decode prog_1_method_21_code 18 = .ok (.aload_n 0, 1) := by decide +kernel
theorem d_BB_worst_19 : decode prog_1_method_21_code 19 = .ok (.getfield 35, 3) := by decide +kernel
theorem d_BB_worst_22 : decode prog_1_method_21_code 22 = .ok (.iload_n 3, 1) := by decide +kernel
theorem d_BB_worst_23 : decode prog_1_method_21_code 23 = .ok (.aload_n 0, 1) := by decide +kernel
theorem d_BB_worst_24 : decode prog_1_method_21_code 24 = .ok (.getfield 26, 3) := by decide +kernel
theorem d_BB_worst_27 : decode prog_1_method_21_code 27 = .ok (.getfield 137, 3) := by decide +kernel
theorem d_BB_worst_30 : decode prog_1_method_21_code 30 = .ok (.invokevirtual 158, 3) := by decide +kernel
theorem d_BB_worst_33 : decode prog_1_method_21_code 33 = .ok (.istore 4, 2) := by decide +kernel
theorem d_BB_worst_35 : decode prog_1_method_21_code 35 = .ok (.iload 4, 2) := by decide +kernel
theorem d_BB_worst_37 : decode prog_1_method_21_code 37 = .ok (.iload_n 2, 1) := by decide +kernel
theorem d_BB_worst_38 : decode prog_1_method_21_code 38 = .ok (.if_icmp .le 8, 3) := by decide +kernel
theorem d_BB_worst_41 : decode prog_1_method_21_code 41 = .ok (.iload 4, 2) := by decide +kernel
theorem d_BB_worst_43 : decode prog_1_method_21_code 43 = .ok (.istore_n 2, 1) := by decide +kernel
theorem d_BB_worst_44 : decode prog_1_method_21_code 44 = .ok (.iload_n 3, 1) := by decide +kernel
theorem d_BB_worst_45 : decode prog_1_method_21_code 45 = .ok (.istore_n 1, 1) := by decide +kernel
theorem d_BB_worst_46 : decode prog_1_method_21_code 46 = .ok (.iinc 3 1, 3) := by decide +kernel
theorem d_BB_worst_49 : decode prog_1_method_21_code 49 = .ok (.goto (-42), 3) := by decide +kernel
theorem d_BB_worst_52 : decode prog_1_method_21_code 52 = .ok (.iload_n 1, 1) := by decide +kernel
theorem d_BB_worst_53 : decode prog_1_method_21_code 53 = .ok (.ireturn, 1) := by decide +kernel
theorem d_BB_bestLate_0 : decode prog_1_method_22_code 0 = .ok (.iconst 0, 1) := by decide +kernel
theorem d_BB_bestLate_1 : decode prog_1_method_22_code 1 = .ok (.istore_n 1, 1) := by decide +kernel
theorem d_BB_bestLate_2 : decode prog_1_method_22_code 2 = .ok (.aload_n 0, 1) := by decide +kernel
theorem d_BB_bestLate_3 : decode prog_1_method_22_code 3 = .ok (.getfield 35, 3) := by decide +kernel
theorem d_BB_bestLate_6 : decode prog_1_method_22_code 6 = .ok (.iconst 0, 1) := by decide +kernel
theorem d_BB_bestLate_7 : decode prog_1_method_22_code 7 = .ok (.invokevirtual 167, 3) := by decide +kernel
theorem d_BB_bestLate_10 : decode prog_1_method_22_code 10 = .ok (.istore_n 2, 1) := by decide +kernel
theorem d_BB_bestLate_11 : decode prog_1_method_22_code 11 = .ok (.iconst 1, 1) := by decide +kernel
theorem d_BB_bestLate_12 : decode prog_1_method_22_code 12 = .ok (.istore_n 3, 1) := by decide +kernel
theorem d_BB_bestLate_13 : decode prog_1_method_22_code 13 = .ok (.iload_n 3, 1) := by decide +kernel
theorem d_BB_bestLate_14 : decode prog_1_method_22_code 14 = .ok (.bipush 11, 2) := by decide +kernel
theorem d_BB_bestLate_16 : decode prog_1_method_22_code 16 = .ok (.if_icmp .gt 30, 3) := by decide +kernel
theorem d_BB_bestLate_19 : decode prog_1_method_22_code 19 = .ok (.aload_n 0, 1) := by decide +kernel
theorem d_BB_bestLate_20 : decode prog_1_method_22_code 20 = .ok (.getfield 35, 3) := by decide +kernel
theorem d_BB_bestLate_23 : decode prog_1_method_22_code 23 = .ok (.iload_n 3, 1) := by decide +kernel
theorem d_BB_bestLate_24 : decode prog_1_method_22_code 24 = .ok (.invokevirtual 167, 3) := by decide +kernel
theorem d_BB_bestLate_27 : decode prog_1_method_22_code 27 = .ok (.istore 4, 2) := by decide +kernel
theorem d_BB_bestLate_29 : decode prog_1_method_22_code 29 = .ok (.iload 4, 2) := by decide +kernel
theorem d_BB_bestLate_31 : decode prog_1_method_22_code 31 = .ok (.iload_n 2, 1) := by decide +kernel
theorem d_BB_bestLate_32 : decode prog_1_method_22_code 32 = .ok (.if_icmp .ge 8, 3) := by decide +kernel
theorem d_BB_bestLate_35 : decode prog_1_method_22_code 35 = .ok (.iload 4, 2) := by decide +kernel
theorem d_BB_bestLate_37 : decode prog_1_method_22_code 37 = .ok (.istore_n 2, 1) := by decide +kernel
theorem d_BB_bestLate_38 : decode prog_1_method_22_code 38 = .ok (.iload_n 3, 1) := by decide +kernel
theorem d_BB_bestLate_39 : decode prog_1_method_22_code 39 = .ok (.istore_n 1, 1) := by decide +kernel
theorem d_BB_bestLate_40 : decode prog_1_method_22_code 40 = .ok (.iinc 3 1, 3) := by decide +kernel
theorem d_BB_bestLate_43 : decode prog_1_method_22_code 43 = .ok (.goto (-30), 3) := by decide +kernel
theorem d_BB_bestLate_46 : decode prog_1_method_22_code 46 = .ok (.iload_n 1, 1) := by decide +kernel
theorem d_BB_bestLate_47 : decode prog_1_method_22_code 47 = .ok (.ireturn, 1) := by decide +kernel
theorem d_BB_phases_0 : decode prog_1_method_23_code 0 = .ok (.aload_n 0, 1) := by decide +kernel
theorem d_BB_phases_1 : decode prog_1_method_23_code 1 = .ok (.getfield 19, 3) := by decide +kernel
theorem d_BB_phases_4 : decode prog_1_method_23_code 4 = .ok (.iload_n 1, 1) := by decide +kernel
theorem d_BB_phases_5 : decode prog_1_method_23_code 5 = .ok (.invokevirtual 104, 3) := by decide +kernel
theorem d_BB_phases_8 : decode prog_1_method_23_code 8 = .ok (.ifCond .ne 5, 3) := by decide +kernel
theorem d_BB_phases_11 : decode prog_1_method_23_code 11 = .ok (.iconst (-1), 1) := by decide +kernel
theorem d_BB_phases_12 : decode prog_1_method_23_code 12 = .ok (.ireturn, 1) := by decide +kernel
theorem d_BB_phases_13 : decode prog_1_method_23_code 13 = .ok (.aload_n 0, 1) := by decide +kernel
theorem d_BB_phases_14 : decode prog_1_method_23_code 14 = .ok (.getfield 44, 3) := by decide +kernel
theorem d_BB_phases_17 : decode prog_1_method_23_code 17 = .ok (.iload_n 1, 1) := by decide +kernel
theorem d_BB_phases_18 : decode prog_1_method_23_code 18 = .ok (.invokevirtual 173, 3) := by decide +kernel
theorem d_BB_phases_21 : decode prog_1_method_23_code 21 = .ok (.ifCond .eq 13, 3) := by decide +kernel
theorem d_BB_phases_24 : decode prog_1_method_23_code 24 = .ok (.aload_n 0, 1) := by decide +kernel
theorem d_BB_phases_25 : decode prog_1_method_23_code 25 = .ok (.getfield 44, 3) := by decide +kernel
theorem d_BB_phases_28 : decode prog_1_method_23_code 28 = .ok (.getfield 176, 3) := by decide +kernel
theorem d_BB_phases_31 : decode prog_1_method_23_code 31 = .ok (.goto 5, 3) := by decide +kernel
theorem d_BB_phases_34 : decode prog_1_method_23_code 34 = .ok (.bipush (-3), 2) := by decide +kernel
theorem d_BB_phases_36 : decode prog_1_method_23_code 36 = .ok (.ireturn, 1) := by decide +kernel
theorem d_BB_phaseAt_0 : decode prog_1_method_24_code 0 = .ok (.aload_n 0, 1) := by decide +kernel
theorem d_BB_phaseAt_1 : decode prog_1_method_24_code 1 = .ok (.getfield 19, 3) := by decide +kernel
theorem d_BB_phaseAt_4 : decode prog_1_method_24_code 4 = .ok (.iload_n 1, 1) := by decide +kernel
theorem d_BB_phaseAt_5 : decode prog_1_method_24_code 5 = .ok (.invokevirtual 104, 3) := by decide +kernel
theorem d_BB_phaseAt_8 : decode prog_1_method_24_code 8 = .ok (.ifCond .ne 5, 3) := by decide +kernel
theorem d_BB_phaseAt_11 : decode prog_1_method_24_code 11 = .ok (.iconst (-1), 1) := by decide +kernel
theorem d_BB_phaseAt_12 : decode prog_1_method_24_code 12 = .ok (.ireturn, 1) := by decide +kernel
theorem d_BB_phaseAt_13 : decode prog_1_method_24_code 13 = .ok (.aload_n 0, 1) := by decide +kernel
theorem d_BB_phaseAt_14 : decode prog_1_method_24_code 14 = .ok (.getfield 44, 3) := by decide +kernel
theorem d_BB_phaseAt_17 : decode prog_1_method_24_code 17 = .ok (.iload_n 1, 1) := by decide +kernel
theorem d_BB_phaseAt_18 : decode prog_1_method_24_code 18 = .ok (.invokevirtual 173, 3) := by decide +kernel
theorem d_BB_phaseAt_21 : decode prog_1_method_24_code 21 = .ok (.ifCond .ne 6, 3) := by decide +kernel
theorem d_BB_phaseAt_24 : decode prog_1_method_24_code 24 = .ok (.bipush (-3), 2) := by decide +kernel
theorem d_BB_phaseAt_26 : decode prog_1_method_24_code 26 = .ok (.ireturn, 1) := by decide +kernel
theorem d_BB_phaseAt_27 : decode prog_1_method_24_code 27 = .ok (.aload_n 0, 1) := by decide +kernel
theorem d_BB_phaseAt_28 : decode prog_1_method_24_code 28 = .ok (.getfield 44, 3) := by decide +kernel
theorem d_BB_phaseAt_31 : decode prog_1_method_24_code 31 = .ok (.iload_n 2, 1) := by decide +kernel
theorem d_BB_phaseAt_32 : decode prog_1_method_24_code 32 = .ok (.invokevirtual 179, 3) := by decide +kernel
theorem d_BB_phaseAt_35 : decode prog_1_method_24_code 35 = .ok (.ireturn, 1) := by decide +kernel
theorem d_BB_seats_0 : decode prog_1_method_25_code 0 = .ok (.aload_n 0, 1) := by decide +kernel
theorem d_BB_seats_1 : decode prog_1_method_25_code 1 = .ok (.getfield 53, 3) := by decide +kernel
theorem d_BB_seats_4 : decode prog_1_method_25_code 4 = .ok (.invokevirtual 182, 3) := by decide +kernel
theorem d_BB_seats_7 : decode prog_1_method_25_code 7 = .ok (.ifCond .eq 13, 3) := by decide +kernel
theorem d_BB_seats_10 : decode prog_1_method_25_code 10 = .ok (.aload_n 0, 1) := by decide +kernel
theorem d_BB_seats_11 : decode prog_1_method_25_code 11 = .ok (.getfield 53, 3) := by decide +kernel
theorem d_BB_seats_14 : decode prog_1_method_25_code 14 = .ok (.invokevirtual 185, 3) := by decide +kernel
theorem d_BB_seats_17 : decode prog_1_method_25_code 17 = .ok (.goto 5, 3) := by decide +kernel
theorem d_BB_seats_20 : decode prog_1_method_25_code 20 = .ok (.bipush (-3), 2) := by decide +kernel
theorem d_BB_seats_22 : decode prog_1_method_25_code 22 = .ok (.ireturn, 1) := by decide +kernel
theorem d_BB_seatAt_0 : decode prog_1_method_26_code 0 = .ok (.aload_n 0, 1) := by decide +kernel
theorem d_BB_seatAt_1 : decode prog_1_method_26_code 1 = .ok (.getfield 26, 3) := by decide +kernel
theorem d_BB_seatAt_4 : decode prog_1_method_26_code 4 = .ok (.iload_n 1, 1) := by decide +kernel
theorem d_BB_seatAt_5 : decode prog_1_method_26_code 5 = .ok (.invokevirtual 118, 3) := by decide +kernel
theorem d_BB_seatAt_8 : decode prog_1_method_26_code 8 = .ok (.ifCond .ne 5, 3) := by decide +kernel
theorem d_BB_seatAt_11 : decode prog_1_method_26_code 11 = .ok (.iconst (-1), 1) := by decide +kernel
theorem d_BB_seatAt_12 : decode prog_1_method_26_code 12 = .ok (.ireturn, 1) := by decide +kernel
theorem d_BB_seatAt_13 : decode prog_1_method_26_code 13 = .ok (.aload_n 0, 1) := by decide +kernel
theorem d_BB_seatAt_14 : decode prog_1_method_26_code 14 = .ok (.getfield 53, 3) := by decide +kernel
theorem d_BB_seatAt_17 : decode prog_1_method_26_code 17 = .ok (.invokevirtual 182, 3) := by decide +kernel
theorem d_BB_seatAt_20 : decode prog_1_method_26_code 20 = .ok (.ifCond .eq 14, 3) := by decide +kernel
theorem d_BB_seatAt_23 : decode prog_1_method_26_code 23 = .ok (.aload_n 0, 1) := by decide +kernel
theorem d_BB_seatAt_24 : decode prog_1_method_26_code 24 = .ok (.getfield 53, 3) := by decide +kernel
theorem d_BB_seatAt_27 : decode prog_1_method_26_code 27 = .ok (.iload_n 1, 1) := by decide +kernel
theorem d_BB_seatAt_28 : decode prog_1_method_26_code 28 = .ok (.invokevirtual 187, 3) := by decide +kernel
theorem d_BB_seatAt_31 : decode prog_1_method_26_code 31 = .ok (.goto 5, 3) := by decide +kernel
theorem d_BB_seatAt_34 : decode prog_1_method_26_code 34 = .ok (.bipush (-3), 2) := by decide +kernel
theorem d_BB_seatAt_36 : decode prog_1_method_26_code 36 = .ok (.ireturn, 1) := by decide +kernel
theorem d_BB_bribes_0 : decode prog_1_method_27_code 0 = .ok (.iconst 0, 1) := by decide +kernel
theorem d_BB_bribes_1 : decode prog_1_method_27_code 1 = .ok (.istore_n 1, 1) := by decide +kernel
theorem d_BB_bribes_2 : decode prog_1_method_27_code 2 = .ok (.iconst 0, 1) := by decide +kernel
theorem d_BB_bribes_3 : decode prog_1_method_27_code 3 = .ok (.istore_n 2, 1) := by decide +kernel
theorem d_BB_bribes_4 : decode prog_1_method_27_code 4 = .ok (.iload_n 2, 1) := by decide +kernel
theorem d_BB_bribes_5 : decode prog_1_method_27_code 5 = .ok (.aload_n 0, 1) := by decide +kernel
theorem d_BB_bribes_6 : decode prog_1_method_27_code 6 = .ok (.getfield 19, 3) := by decide +kernel
theorem d_BB_bribes_9 : decode prog_1_method_27_code 9 = .ok (.getfield 99, 3) := by decide +kernel
theorem d_BB_bribes_12 : decode prog_1_method_27_code 12 = .ok (.if_icmp .ge 31, 3) := by decide +kernel
theorem d_BB_bribes_15 : decode prog_1_method_27_code 15 = .ok (.aload_n 0, 1) := by decide +kernel
theorem d_BB_bribes_16 : decode prog_1_method_27_code 16 = .ok (.getfield 60, 3) := by decide +kernel
theorem d_BB_bribes_19 : decode prog_1_method_27_code 19 = .ok (.iload_n 2, 1) := by decide +kernel
theorem d_BB_bribes_20 : decode prog_1_method_27_code 20 = .ok (.invokevirtual 190, 3) := by decide +kernel
theorem d_BB_bribes_23 : decode prog_1_method_27_code 23 = .ok (.istore_n 3, 1) := by decide +kernel
theorem d_BB_bribes_24 : decode prog_1_method_27_code 24 = .ok (.iload_n 3, 1) := by decide +kernel
theorem d_BB_bribes_25 : decode prog_1_method_27_code 25 = .ok (.bipush (-9), 2) := by decide +kernel
theorem d_BB_bribes_27 : decode prog_1_method_27_code 27 = .ok (.if_icmp .ne 6, 3) := by decide +kernel
theorem d_BB_bribes_30 : decode prog_1_method_27_code 30 = .ok (.bipush (-9), 2) := by decide +kernel
theorem d_BB_bribes_32 : decode prog_1_method_27_code 32 = .ok (.ireturn, 1) := by decide +kernel
theorem d_BB_bribes_33 : decode prog_1_method_27_code 33 = .ok (.iload_n 1, 1) := by decide +kernel
theorem d_BB_bribes_34 : decode prog_1_method_27_code 34 = .ok (.iload_n 3, 1) := by decide +kernel
theorem d_BB_bribes_35 : decode prog_1_method_27_code 35 = .ok (.ior, 1) := by decide +kernel
theorem d_BB_bribes_36 : decode prog_1_method_27_code 36 = .ok (.istore_n 1, 1) := by decide +kernel
theorem d_BB_bribes_37 : decode prog_1_method_27_code 37 = .ok (.iinc 2 1, 3) := by decide +kernel
theorem d_BB_bribes_40 : decode prog_1_method_27_code 40 = .ok (.goto (-36), 3) := by decide +kernel
theorem d_BB_bribes_43 : decode prog_1_method_27_code 43 = .ok (.iload_n 1, 1) := by decide +kernel
theorem d_BB_bribes_44 : decode prog_1_method_27_code 44 = .ok (.ireturn, 1) := by decide +kernel
theorem d_BB_needed_0 : decode prog_1_method_28_code 0 = .ok (.aload_n 0, 1) := by decide +kernel
theorem d_BB_needed_1 : decode prog_1_method_28_code 1 = .ok (.getfield 26, 3) := by decide +kernel
theorem d_BB_needed_4 : decode prog_1_method_28_code 4 = .ok (.iload_n 1, 1) := by decide +kernel
theorem d_BB_needed_5 : decode prog_1_method_28_code 5 = .ok (.invokevirtual 118, 3) := by decide +kernel
theorem d_BB_needed_8 : decode prog_1_method_28_code 8 = .ok (.ifCond .ne 5, 3) := by decide +kernel
theorem d_BB_needed_11 : decode prog_1_method_28_code 11 = .ok (.iconst (-1), 1) := by decide +kernel
theorem d_BB_needed_12 : decode prog_1_method_28_code 12 = .ok (.ireturn, 1) := by decide +kernel
theorem d_BB_needed_13 : decode prog_1_method_28_code 13 = .ok (.aload_n 0, 1) := by decide +kernel
theorem d_BB_needed_14 : decode prog_1_method_28_code 14 = .ok (.getfield 26, 3) := by decide +kernel
theorem d_BB_needed_17 : decode prog_1_method_28_code 17 = .ok (.getfield 125, 3) := by decide +kernel
theorem d_BB_needed_20 : decode prog_1_method_28_code 20 = .ok (.iload_n 1, 1) := by decide +kernel
theorem d_BB_needed_21 : decode prog_1_method_28_code 21 = .ok (.iaload, 1) := by decide +kernel
theorem d_BB_needed_22 : decode prog_1_method_28_code 22 = .ok (.istore_n 2, 1) := by decide +kernel
theorem d_BB_needed_23 : decode prog_1_method_28_code 23 = .ok (.aload_n 0, 1) := by decide +kernel
theorem d_BB_needed_24 : decode prog_1_method_28_code 24 = .ok (.getfield 35, 3) := by decide +kernel
theorem d_BB_needed_27 : decode prog_1_method_28_code 27 = .ok (.iload_n 2, 1) := by decide +kernel
theorem d_BB_needed_28 : decode prog_1_method_28_code 28 = .ok (.aload_n 0, 1) := by decide +kernel
theorem d_BB_needed_29 : decode prog_1_method_28_code 29 = .ok (.getfield 26, 3) := by decide +kernel
theorem d_BB_needed_32 : decode prog_1_method_28_code 32 = .ok (.getfield 137, 3) := by decide +kernel
theorem d_BB_needed_35 : decode prog_1_method_28_code 35 = .ok (.invokevirtual 158, 3) := by decide +kernel
theorem d_BB_needed_38 : decode prog_1_method_28_code 38 = .ok (.istore_n 3, 1) := by decide +kernel
theorem d_BB_needed_39 : decode prog_1_method_28_code 39 = .ok (.aload_n 0, 1) := by decide +kernel
theorem d_BB_needed_40 : decode prog_1_method_28_code 40 = .ok (.getfield 35, 3) := by decide +kernel
theorem d_BB_needed_43 : decode prog_1_method_28_code 43 = .ok (.aload_n 0, 1) := by decide +kernel
theorem d_BB_needed_44 : decode prog_1_method_28_code 44 = .ok (.getfield 26, 3) := by decide +kernel
theorem d_BB_needed_47 : decode prog_1_method_28_code 47 = .ok (.iload_n 2, 1) := by decide +kernel
theorem d_BB_needed_48 : decode prog_1_method_28_code 48 = .ok (.invokevirtual 147, 3) := by decide +kernel
theorem d_BB_needed_51 : decode prog_1_method_28_code 51 = .ok (.iconst 1, 1) := by decide +kernel
theorem d_BB_needed_52 : decode prog_1_method_28_code 52 = .ok (.iload_n 1, 1) := by decide +kernel
theorem d_BB_needed_53 : decode prog_1_method_28_code 53 = .ok (.ishl, 1) := by decide +kernel
theorem d_BB_needed_54 : decode prog_1_method_28_code 54 = .ok (.iconst (-1), 1) := by decide +kernel
theorem d_BB_needed_55 : decode prog_1_method_28_code 55 = .ok (.ixor, 1) := by decide +kernel
theorem d_BB_needed_56 : decode prog_1_method_28_code 56 = .ok (.iand, 1) := by decide +kernel
theorem d_BB_needed_57 : decode prog_1_method_28_code 57 = .ok (.aload_n 0, 1) := by decide +kernel
theorem d_BB_needed_58 : decode prog_1_method_28_code 58 = .ok (.getfield 26, 3) := by decide +kernel
theorem d_BB_needed_61 : decode prog_1_method_28_code 61 = .ok (.getfield 137, 3) := by decide +kernel
theorem d_BB_needed_64 : decode prog_1_method_28_code 64 = .ok (.invokevirtual 151, 3) := by decide +kernel
theorem d_BB_needed_67 : decode prog_1_method_28_code 67 = .ok (.aload_n 0, 1) := by decide +kernel
theorem d_BB_needed_68 : decode prog_1_method_28_code 68 = .ok (.getfield 35, 3) := by decide +kernel
theorem d_BB_needed_71 : decode prog_1_method_28_code 71 = .ok (.iload_n 2, 1) := by decide +kernel
theorem d_BB_needed_72 : decode prog_1_method_28_code 72 = .ok (.invokevirtual 192, 3) := by decide +kernel
theorem d_BB_needed_75 : decode prog_1_method_28_code 75 = .ok (.iload_n 3, 1) := by decide +kernel
theorem d_BB_needed_76 : decode prog_1_method_28_code 76 = .ok (.isub, 1) := by decide +kernel
theorem d_BB_needed_77 : decode prog_1_method_28_code 77 = .ok (.ireturn, 1) := by decide +kernel
theorem d_BB_never_0 : decode prog_1_method_29_code 0 = .ok (.iconst 0, 1) := by decide +kernel
theorem d_BB_never_1 : decode prog_1_method_29_code 1 = .ok (.istore_n 1, 1) := by decide +kernel
theorem d_BB_never_2 : decode prog_1_method_29_code 2 = .ok (.iload_n 1, 1) := by decide +kernel
theorem d_BB_never_3 : decode prog_1_method_29_code 3 = .ok (.aload_n 0, 1) := by decide +kernel
theorem d_BB_never_4 : decode prog_1_method_29_code 4 = .ok (.getfield 19, 3) := by decide +kernel
theorem d_BB_never_7 : decode prog_1_method_29_code 7 = .ok (.getfield 195, 3) := by decide +kernel
theorem d_BB_never_10 : decode prog_1_method_29_code 10 = .ok (.if_icmp .ge 84, 3) := by decide +kernel
theorem d_BB_never_13 : decode prog_1_method_29_code 13 = .ok (.iconst 0, 1) := by decide +kernel
theorem d_BB_never_14 : decode prog_1_method_29_code 14 = .ok (.istore_n 2, 1) := by decide +kernel
theorem d_BB_never_15 : decode prog_1_method_29_code 15 = .ok (.iload_n 2, 1) := by decide +kernel
theorem d_BB_never_16 : decode prog_1_method_29_code 16 = .ok (.aload_n 0, 1) := by decide +kernel
theorem d_BB_never_17 : decode prog_1_method_29_code 17 = .ok (.getfield 19, 3) := by decide +kernel
theorem d_BB_never_20 : decode prog_1_method_29_code 20 = .ok (.getfield 99, 3) := by decide +kernel
theorem d_BB_never_23 : decode prog_1_method_29_code 23 = .ok (.if_icmp .ge 65, 3) := by decide +kernel
theorem d_BB_never_26 : decode prog_1_method_29_code 26 = .ok (.aload_n 0, 1) := by decide +kernel
theorem d_BB_never_27 : decode prog_1_method_29_code 27 = .ok (.getfield 26, 3) := by decide +kernel
theorem d_BB_never_30 : decode prog_1_method_29_code 30 = .ok (.aload_n 0, 1) := by decide +kernel
theorem d_BB_never_31 : decode prog_1_method_29_code 31 = .ok (.getfield 26, 3) := by decide +kernel
theorem d_BB_never_34 : decode prog_1_method_29_code 34 = .ok (.iload_n 2, 1) := by decide +kernel
theorem d_BB_never_35 : decode prog_1_method_29_code 35 = .ok (.invokevirtual 147, 3) := by decide +kernel
theorem d_BB_never_38 : decode prog_1_method_29_code 38 = .ok (.invokevirtual 198, 3) := by decide +kernel
theorem d_BB_never_41 : decode prog_1_method_29_code 41 = .ok (.aload_n 0, 1) := by decide +kernel
theorem d_BB_never_42 : decode prog_1_method_29_code 42 = .ok (.getfield 26, 3) := by decide +kernel
theorem d_BB_never_45 : decode prog_1_method_29_code 45 = .ok (.getfield 134, 3) := by decide +kernel
theorem d_BB_never_48 : decode prog_1_method_29_code 48 = .ok (.iadd, 1) := by decide +kernel
theorem d_BB_never_49 : decode prog_1_method_29_code 49 = .ok (.istore_n 3, 1) := by decide +kernel
theorem d_BB_never_50 : decode prog_1_method_29_code 50 = .ok (.aload_n 0, 1) := by decide +kernel
theorem d_BB_never_51 : decode prog_1_method_29_code 51 = .ok (.getfield 19, 3) := by decide +kernel
theorem d_BB_never_54 : decode prog_1_method_29_code 54 = .ok (.iload_n 2, 1) := by decide +kernel
theorem d_BB_never_55 : decode prog_1_method_29_code 55 = .ok (.iload_n 1, 1) := by decide +kernel
theorem d_BB_never_56 : decode prog_1_method_29_code 56 = .ok (.invokevirtual 115, 3) := by decide +kernel
theorem d_BB_never_59 : decode prog_1_method_29_code 59 = .ok (.ifCond .eq 23, 3) := by decide +kernel
theorem d_BB_never_62 : decode prog_1_method_29_code 62 = .ok (.aload_n 0, 1) := by decide +kernel
theorem d_BB_never_63 : decode prog_1_method_29_code 63 = .ok (.getfield 19, 3) := by decide +kernel
theorem d_BB_never_66 : decode prog_1_method_29_code 66 = .ok (.getfield 107, 3) := by decide +kernel
theorem d_BB_never_69 : decode prog_1_method_29_code 69 = .ok (.iload_n 2, 1) := by decide +kernel
theorem d_BB_never_70 : decode prog_1_method_29_code 70 = .ok (.iaload, 1) := by decide +kernel
theorem d_BB_never_71 : decode prog_1_method_29_code 71 = .ok (.iload_n 3, 1) := by decide +kernel
theorem d_BB_never_72 : decode prog_1_method_29_code 72 = .ok (.if_icmp .le 10, 3) := by decide +kernel
theorem d_BB_never_75 : decode prog_1_method_29_code 75 = .ok (.bipush 10, 2) := by decide +kernel
theorem d_BB_never_77 : decode prog_1_method_29_code 77 = .ok (.iload_n 1, 1) := by decide +kernel
theorem d_BB_never_78 : decode prog_1_method_29_code 78 = .ok (.imul, 1) := by decide +kernel
theorem d_BB_never_79 : decode prog_1_method_29_code 79 = .ok (.iload_n 2, 1) := by decide +kernel
theorem d_BB_never_80 : decode prog_1_method_29_code 80 = .ok (.iadd, 1) := by decide +kernel
theorem d_BB_never_81 : decode prog_1_method_29_code 81 = .ok (.ireturn, 1) := by decide +kernel
theorem d_BB_never_82 : decode prog_1_method_29_code 82 = .ok (.iinc 2 1, 3) := by decide +kernel
theorem d_BB_never_85 : decode prog_1_method_29_code 85 = .ok (.goto (-70), 3) := by decide +kernel
theorem d_BB_never_88 : decode prog_1_method_29_code 88 = .ok (.iinc 1 1, 3) := by decide +kernel
theorem d_BB_never_91 : decode prog_1_method_29_code 91 = .ok (.goto (-89), 3) := by decide +kernel
theorem d_BB_never_94 : decode prog_1_method_29_code 94 = .ok (.bipush (-9), 2) := by decide +kernel
theorem d_BB_never_96 : decode prog_1_method_29_code 96 = .ok (.ireturn, 1) := by decide +kernel
theorem d_BB_steady_0 : decode prog_1_method_30_code 0 = .ok (.aload_n 0, 1) := by decide +kernel
theorem d_BB_steady_1 : decode prog_1_method_30_code 1 = .ok (.getfield 19, 3) := by decide +kernel
theorem d_BB_steady_4 : decode prog_1_method_30_code 4 = .ok (.iload_n 1, 1) := by decide +kernel
theorem d_BB_steady_5 : decode prog_1_method_30_code 5 = .ok (.iload_n 2, 1) := by decide +kernel
theorem d_BB_steady_6 : decode prog_1_method_30_code 6 = .ok (.invokevirtual 111, 3) := by decide +kernel
theorem d_BB_steady_9 : decode prog_1_method_30_code 9 = .ok (.ifCond .ne 7, 3) := by decide +kernel
theorem d_BB_steady_12 : decode prog_1_method_30_code 12 = .ok (.ldc2_w 201, 3) := by decide +kernel
theorem d_BB_steady_15 : decode prog_1_method_30_code 15 = .ok (.lreturn, 1) := by decide +kernel
theorem d_BB_steady_16 : decode prog_1_method_30_code 16 = .ok (.iload_n 3, 1) := by decide +kernel
theorem d_BB_steady_17 : decode prog_1_method_30_code 17 = .ok (.ifCond .lt 9, 3) := by decide +kernel
theorem d_BB_steady_20 : decode prog_1_method_30_code 20 = .ok (.iload_n 3, 1) := by decide +kernel
theorem d_BB_steady_21 : decode prog_1_method_30_code 21 = .ok (.bipush 10, 2) := by decide +kernel
theorem d_BB_steady_23 : decode prog_1_method_30_code 23 = .ok (.if_icmp .le 7, 3) := by decide +kernel
theorem d_BB_steady_26 : decode prog_1_method_30_code 26 = .ok (.ldc2_w 203, 3) := by decide +kernel
theorem d_BB_steady_29 : decode prog_1_method_30_code 29 = .ok (.lreturn, 1) := by decide +kernel
theorem d_BB_steady_30 : decode prog_1_method_30_code 30 = .ok (.aload_n 0, 1) := by decide +kernel
theorem d_BB_steady_31 : decode prog_1_method_30_code 31 = .ok (.getfield 67, 3) := by decide +kernel
theorem d_BB_steady_34 : decode prog_1_method_30_code 34 = .ok (.iload_n 1, 1) := by decide +kernel
theorem d_BB_steady_35 : decode prog_1_method_30_code 35 = .ok (.iload_n 2, 1) := by decide +kernel
theorem d_BB_steady_36 : decode prog_1_method_30_code 36 = .ok (.iload_n 3, 1) := by decide +kernel
theorem d_BB_steady_37 : decode prog_1_method_30_code 37 = .ok (.invokevirtual 205, 3) := by decide +kernel
theorem d_BB_steady_40 : decode prog_1_method_30_code 40 = .ok (.iload 4, 2) := by decide +kernel
theorem d_BB_steady_42 : decode prog_1_method_30_code 42 = .ok (.ifCond .eq 13, 3) := by decide +kernel
theorem d_BB_steady_45 : decode prog_1_method_30_code 45 = .ok (.aload_n 0, 1) := by decide +kernel
theorem d_BB_steady_46 : decode prog_1_method_30_code 46 = .ok (.getfield 67, 3) := by decide +kernel
theorem d_BB_steady_49 : decode prog_1_method_30_code 49 = .ok (.getfield 209, 3) := by decide +kernel
theorem d_BB_steady_52 : decode prog_1_method_30_code 52 = .ok (.goto 10, 3) := by decide +kernel
theorem d_BB_steady_55 : decode prog_1_method_30_code 55 = .ok (.aload_n 0, 1) := by decide +kernel
theorem d_BB_steady_56 : decode prog_1_method_30_code 56 = .ok (.getfield 67, 3) := by decide +kernel
theorem d_BB_steady_59 : decode prog_1_method_30_code 59 = .ok (.getfield 213, 3) := by decide +kernel
theorem d_BB_steady_62 : decode prog_1_method_30_code 62 = .ok (.lreturn, 1) := by decide +kernel
theorem d_BB_blame_0 : decode prog_1_method_31_code 0 = .ok (.aload_n 0, 1) := by decide +kernel
theorem d_BB_blame_1 : decode prog_1_method_31_code 1 = .ok (.getfield 26, 3) := by decide +kernel
theorem d_BB_blame_4 : decode prog_1_method_31_code 4 = .ok (.iload_n 1, 1) := by decide +kernel
theorem d_BB_blame_5 : decode prog_1_method_31_code 5 = .ok (.invokevirtual 118, 3) := by decide +kernel
theorem d_BB_blame_8 : decode prog_1_method_31_code 8 = .ok (.ifCond .eq 14, 3) := by decide +kernel
theorem d_BB_blame_11 : decode prog_1_method_31_code 11 = .ok (.aload_n 0, 1) := by decide +kernel
theorem d_BB_blame_12 : decode prog_1_method_31_code 12 = .ok (.getfield 19, 3) := by decide +kernel
theorem d_BB_blame_15 : decode prog_1_method_31_code 15 = .ok (.iload_n 2, 1) := by decide +kernel
theorem d_BB_blame_16 : decode prog_1_method_31_code 16 = .ok (.invokevirtual 140, 3) := by decide +kernel
theorem d_BB_blame_19 : decode prog_1_method_31_code 19 = .ok (.ifCond .ne 7, 3) := by decide +kernel
theorem d_BB_blame_22 : decode prog_1_method_31_code 22 = .ok (.ldc2_w 201, 3) := by decide +kernel
theorem d_BB_blame_25 : decode prog_1_method_31_code 25 = .ok (.lreturn, 1) := by decide +kernel
theorem d_BB_blame_26 : decode prog_1_method_31_code 26 = .ok (.iload_n 3, 1) := by decide +kernel
theorem d_BB_blame_27 : decode prog_1_method_31_code 27 = .ok (.ifCond .lt 9, 3) := by decide +kernel
theorem d_BB_blame_30 : decode prog_1_method_31_code 30 = .ok (.iload_n 3, 1) := by decide +kernel
theorem d_BB_blame_31 : decode prog_1_method_31_code 31 = .ok (.bipush 10, 2) := by decide +kernel
theorem d_BB_blame_33 : decode prog_1_method_31_code 33 = .ok (.if_icmp .le 7, 3) := by decide +kernel
theorem d_BB_blame_36 : decode prog_1_method_31_code 36 = .ok (.ldc2_w 203, 3) := by decide +kernel
theorem d_BB_blame_39 : decode prog_1_method_31_code 39 = .ok (.lreturn, 1) := by decide +kernel
theorem d_BB_blame_40 : decode prog_1_method_31_code 40 = .ok (.aload_n 0, 1) := by decide +kernel
theorem d_BB_blame_41 : decode prog_1_method_31_code 41 = .ok (.getfield 67, 3) := by decide +kernel
theorem d_BB_blame_44 : decode prog_1_method_31_code 44 = .ok (.iload_n 1, 1) := by decide +kernel
theorem d_BB_blame_45 : decode prog_1_method_31_code 45 = .ok (.iload_n 2, 1) := by decide +kernel
theorem d_BB_blame_46 : decode prog_1_method_31_code 46 = .ok (.iload_n 3, 1) := by decide +kernel
theorem d_BB_blame_47 : decode prog_1_method_31_code 47 = .ok (.invokevirtual 216, 3) := by decide +kernel
theorem d_BB_blame_50 : decode prog_1_method_31_code 50 = .ok (.ifCond .ne 7, 3) := by decide +kernel
theorem d_BB_blame_53 : decode prog_1_method_31_code 53 = .ok (.ldc2_w 220, 3) := by decide +kernel
theorem d_BB_blame_56 : decode prog_1_method_31_code 56 = .ok (.lreturn, 1) := by decide +kernel
theorem d_BB_blame_57 : decode prog_1_method_31_code 57 = .ok (.iload 4, 2) := by decide +kernel
theorem d_BB_blame_59 : decode prog_1_method_31_code 59 = .ok (.ifCond .eq 13, 3) := by decide +kernel
theorem d_BB_blame_62 : decode prog_1_method_31_code 62 = .ok (.aload_n 0, 1) := by decide +kernel
theorem d_BB_blame_63 : decode prog_1_method_31_code 63 = .ok (.getfield 67, 3) := by decide +kernel
theorem d_BB_blame_66 : decode prog_1_method_31_code 66 = .ok (.getfield 209, 3) := by decide +kernel
theorem d_BB_blame_69 : decode prog_1_method_31_code 69 = .ok (.goto 10, 3) := by decide +kernel
theorem d_BB_blame_72 : decode prog_1_method_31_code 72 = .ok (.aload_n 0, 1) := by decide +kernel
theorem d_BB_blame_73 : decode prog_1_method_31_code 73 = .ok (.getfield 67, 3) := by decide +kernel
theorem d_BB_blame_76 : decode prog_1_method_31_code 76 = .ok (.getfield 213, 3) := by decide +kernel
theorem d_BB_blame_79 : decode prog_1_method_31_code 79 = .ok (.lreturn, 1) := by decide +kernel
theorem d_BB_keep_0 : decode prog_1_method_32_code 0 = .ok (.iload_n 1, 1) := by decide +kernel
theorem d_BB_keep_1 : decode prog_1_method_32_code 1 = .ok (.ifCond .lt 8, 3) := by decide +kernel
theorem d_BB_keep_4 : decode prog_1_method_32_code 4 = .ok (.iload_n 1, 1) := by decide +kernel
theorem d_BB_keep_5 : decode prog_1_method_32_code 5 = .ok (.iconst 2, 1) := by decide +kernel
theorem d_BB_keep_6 : decode prog_1_method_32_code 6 = .ok (.if_icmp .lt 5, 3) := by decide +kernel
theorem d_BB_keep_9 : decode prog_1_method_32_code 9 = .ok (.iconst (-1), 1) := by decide +kernel
theorem d_BB_keep_10 : decode prog_1_method_32_code 10 = .ok (.ireturn, 1) := by decide +kernel
theorem d_BB_keep_11 : decode prog_1_method_32_code 11 = .ok (.aload_n 0, 1) := by decide +kernel
theorem d_BB_keep_12 : decode prog_1_method_32_code 12 = .ok (.getfield 71, 3) := by decide +kernel
theorem d_BB_keep_15 : decode prog_1_method_32_code 15 = .ok (.iload_n 1, 1) := by decide +kernel
theorem d_BB_keep_16 : decode prog_1_method_32_code 16 = .ok (.aaload, 1) := by decide +kernel
theorem d_BB_keep_17 : decode prog_1_method_32_code 17 = .ok (.aload_n 0, 1) := by decide +kernel
theorem d_BB_keep_18 : decode prog_1_method_32_code 18 = .ok (.getfield 26, 3) := by decide +kernel
theorem d_BB_keep_21 : decode prog_1_method_32_code 21 = .ok (.invokevirtual 222, 3) := by decide +kernel
theorem d_BB_keep_24 : decode prog_1_method_32_code 24 = .ok (.aload_n 0, 1) := by decide +kernel
theorem d_BB_keep_25 : decode prog_1_method_32_code 25 = .ok (.getfield 75, 3) := by decide +kernel
theorem d_BB_keep_28 : decode prog_1_method_32_code 28 = .ok (.iload_n 1, 1) := by decide +kernel
theorem d_BB_keep_29 : decode prog_1_method_32_code 29 = .ok (.iconst 1, 1) := by decide +kernel
theorem d_BB_keep_30 : decode prog_1_method_32_code 30 = .ok (.bastore, 1) := by decide +kernel
theorem d_BB_keep_31 : decode prog_1_method_32_code 31 = .ok (.aload_n 0, 1) := by decide +kernel
theorem d_BB_keep_32 : decode prog_1_method_32_code 32 = .ok (.getfield 26, 3) := by decide +kernel
theorem d_BB_keep_35 : decode prog_1_method_32_code 35 = .ok (.getfield 103, 3) := by decide +kernel
theorem d_BB_keep_38 : decode prog_1_method_32_code 38 = .ok (.ireturn, 1) := by decide +kernel
theorem d_BB_again_0 : decode prog_1_method_33_code 0 = .ok (.iload_n 1, 1) := by decide +kernel
theorem d_BB_again_1 : decode prog_1_method_33_code 1 = .ok (.ifCond .lt 8, 3) := by decide +kernel
theorem d_BB_again_4 : decode prog_1_method_33_code 4 = .ok (.iload_n 1, 1) := by decide +kernel
theorem d_BB_again_5 : decode prog_1_method_33_code 5 = .ok (.iconst 2, 1) := by decide +kernel
theorem d_BB_again_6 : decode prog_1_method_33_code 6 = .ok (.if_icmp .lt 5, 3) := by decide +kernel
theorem d_BB_again_9 : decode prog_1_method_33_code 9 = .ok (.iconst (-1), 1) := by decide +kernel
theorem d_BB_again_10 : decode prog_1_method_33_code 10 = .ok (.ireturn, 1) := by decide +kernel
theorem d_BB_again_11 : decode prog_1_method_33_code 11 = .ok (.aload_n 0, 1) := by decide +kernel
theorem d_BB_again_12 : decode prog_1_method_33_code 12 = .ok (.getfield 75, 3) := by decide +kernel
theorem d_BB_again_15 : decode prog_1_method_33_code 15 = .ok (.iload_n 1, 1) := by decide +kernel
theorem d_BB_again_16 : decode prog_1_method_33_code 16 = .ok (.baload, 1) := by decide +kernel
theorem d_BB_again_17 : decode prog_1_method_33_code 17 = .ok (.ifCond .ne 6, 3) := by decide +kernel
theorem d_BB_again_20 : decode prog_1_method_33_code 20 = .ok (.bipush (-3), 2) := by decide +kernel
theorem d_BB_again_22 : decode prog_1_method_33_code 22 = .ok (.ireturn, 1) := by decide +kernel
theorem d_BB_again_23 : decode prog_1_method_33_code 23 = .ok (.aload_n 0, 1) := by decide +kernel
theorem d_BB_again_24 : decode prog_1_method_33_code 24 = .ok (.getfield 26, 3) := by decide +kernel
theorem d_BB_again_27 : decode prog_1_method_33_code 27 = .ok (.aload_n 0, 1) := by decide +kernel
theorem d_BB_again_28 : decode prog_1_method_33_code 28 = .ok (.getfield 71, 3) := by decide +kernel
theorem d_BB_again_31 : decode prog_1_method_33_code 31 = .ok (.iload_n 1, 1) := by decide +kernel
theorem d_BB_again_32 : decode prog_1_method_33_code 32 = .ok (.aaload, 1) := by decide +kernel
theorem d_BB_again_33 : decode prog_1_method_33_code 33 = .ok (.invokevirtual 222, 3) := by decide +kernel
theorem d_BB_again_36 : decode prog_1_method_33_code 36 = .ok (.aload_n 0, 1) := by decide +kernel
theorem d_BB_again_37 : decode prog_1_method_33_code 37 = .ok (.getfield 26, 3) := by decide +kernel
theorem d_BB_again_40 : decode prog_1_method_33_code 40 = .ok (.getfield 103, 3) := by decide +kernel
theorem d_BB_again_43 : decode prog_1_method_33_code 43 = .ok (.ireturn, 1) := by decide +kernel
theorem d_BB_count_0 : decode prog_1_method_34_code 0 = .ok (.iload_n 1, 1) := by decide +kernel
theorem d_BB_count_1 : decode prog_1_method_34_code 1 = .ok (.tableswitch 99 0 6 #[43, 51, 59, 67, 75, 83, 91], 43) := by decide +kernel
theorem d_BB_count_44 : decode prog_1_method_34_code 44 = .ok (.aload_n 0, 1) := by decide +kernel
theorem d_BB_count_45 : decode prog_1_method_34_code 45 = .ok (.getfield 10, 3) := by decide +kernel
theorem d_BB_count_48 : decode prog_1_method_34_code 48 = .ok (.getfield 226, 3) := by decide +kernel
theorem d_BB_count_51 : decode prog_1_method_34_code 51 = .ok (.ireturn, 1) := by decide +kernel
theorem d_BB_count_52 : decode prog_1_method_34_code 52 = .ok (.aload_n 0, 1) := by decide +kernel
theorem d_BB_count_53 : decode prog_1_method_34_code 53 = .ok (.getfield 19, 3) := by decide +kernel
theorem d_BB_count_56 : decode prog_1_method_34_code 56 = .ok (.getfield 99, 3) := by decide +kernel
theorem d_BB_count_59 : decode prog_1_method_34_code 59 = .ok (.ireturn, 1) := by decide +kernel
theorem d_BB_count_60 : decode prog_1_method_34_code 60 = .ok (.aload_n 0, 1) := by decide +kernel
theorem d_BB_count_61 : decode prog_1_method_34_code 61 = .ok (.getfield 26, 3) := by decide +kernel
theorem d_BB_count_64 : decode prog_1_method_34_code 64 = .ok (.getfield 103, 3) := by decide +kernel
theorem d_BB_count_67 : decode prog_1_method_34_code 67 = .ok (.ireturn, 1) := by decide +kernel
theorem d_BB_count_68 : decode prog_1_method_34_code 68 = .ok (.aload_n 0, 1) := by decide +kernel
theorem d_BB_count_69 : decode prog_1_method_34_code 69 = .ok (.getfield 19, 3) := by decide +kernel
theorem d_BB_count_72 : decode prog_1_method_34_code 72 = .ok (.getfield 195, 3) := by decide +kernel
theorem d_BB_count_75 : decode prog_1_method_34_code 75 = .ok (.ireturn, 1) := by decide +kernel
theorem d_BB_count_76 : decode prog_1_method_34_code 76 = .ok (.aload_n 0, 1) := by decide +kernel
theorem d_BB_count_77 : decode prog_1_method_34_code 77 = .ok (.getfield 26, 3) := by decide +kernel
theorem d_BB_count_80 : decode prog_1_method_34_code 80 = .ok (.invokevirtual 229, 3) := by decide +kernel
theorem d_BB_count_83 : decode prog_1_method_34_code 83 = .ok (.ireturn, 1) := by decide +kernel
theorem d_BB_count_84 : decode prog_1_method_34_code 84 = .ok (.aload_n 0, 1) := by decide +kernel
theorem d_BB_count_85 : decode prog_1_method_34_code 85 = .ok (.getfield 26, 3) := by decide +kernel
theorem d_BB_count_88 : decode prog_1_method_34_code 88 = .ok (.getfield 137, 3) := by decide +kernel
theorem d_BB_count_91 : decode prog_1_method_34_code 91 = .ok (.ireturn, 1) := by decide +kernel
theorem d_BB_count_92 : decode prog_1_method_34_code 92 = .ok (.aload_n 0, 1) := by decide +kernel
theorem d_BB_count_93 : decode prog_1_method_34_code 93 = .ok (.getfield 26, 3) := by decide +kernel
theorem d_BB_count_96 : decode prog_1_method_34_code 96 = .ok (.getfield 134, 3) := by decide +kernel
theorem d_BB_count_99 : decode prog_1_method_34_code 99 = .ok (.ireturn, 1) := by decide +kernel
theorem d_BB_count_100 : decode prog_1_method_34_code 100 = .ok (.bipush (-2), 2) := by decide +kernel
theorem d_BB_count_102 : decode prog_1_method_34_code 102 = .ok (.ireturn, 1) := by decide +kernel
theorem d_IG_bitCount_0 : decode prog_12_method_49_code 0 = .ok (.iload_n 0, 1) := by decide +kernel
theorem d_IG_bitCount_1 : decode prog_12_method_49_code 1 = .ok (.iload_n 0, 1) := by decide +kernel
theorem d_IG_bitCount_2 : decode prog_12_method_49_code 2 = .ok (.iconst 1, 1) := by decide +kernel
theorem d_IG_bitCount_3 : decode prog_12_method_49_code 3 = .ok (.iushr, 1) := by decide +kernel
theorem d_IG_bitCount_4 : decode prog_12_method_49_code 4 = .ok (.ldc_w 265, 3) := by decide +kernel
theorem d_IG_bitCount_7 : decode prog_12_method_49_code 7 = .ok (.iand, 1) := by decide +kernel
theorem d_IG_bitCount_8 : decode prog_12_method_49_code 8 = .ok (.isub, 1) := by decide +kernel
theorem d_IG_bitCount_9 : decode prog_12_method_49_code 9 = .ok (.istore_n 0, 1) := by decide +kernel
theorem d_IG_bitCount_10 : decode prog_12_method_49_code 10 = .ok (.iload_n 0, 1) := by decide +kernel
theorem d_IG_bitCount_11 : decode prog_12_method_49_code 11 = .ok (.ldc_w 266, 3) := by decide +kernel
theorem d_IG_bitCount_14 : decode prog_12_method_49_code 14 = .ok (.iand, 1) := by decide +kernel
theorem d_IG_bitCount_15 : decode prog_12_method_49_code 15 = .ok (.iload_n 0, 1) := by decide +kernel
theorem d_IG_bitCount_16 : decode prog_12_method_49_code 16 = .ok (.iconst 2, 1) := by decide +kernel
theorem d_IG_bitCount_17 : decode prog_12_method_49_code 17 = .ok (.iushr, 1) := by decide +kernel
theorem d_IG_bitCount_18 : decode prog_12_method_49_code 18 = .ok (.ldc_w 266, 3) := by decide +kernel
theorem d_IG_bitCount_21 : decode prog_12_method_49_code 21 = .ok (.iand, 1) := by decide +kernel
theorem d_IG_bitCount_22 : decode prog_12_method_49_code 22 = .ok (.iadd, 1) := by decide +kernel
theorem d_IG_bitCount_23 : decode prog_12_method_49_code 23 = .ok (.istore_n 0, 1) := by decide +kernel
theorem d_IG_bitCount_24 : decode prog_12_method_49_code 24 = .ok (.iload_n 0, 1) := by decide +kernel
theorem d_IG_bitCount_25 : decode prog_12_method_49_code 25 = .ok (.iload_n 0, 1) := by decide +kernel
theorem d_IG_bitCount_26 : decode prog_12_method_49_code 26 = .ok (.iconst 4, 1) := by decide +kernel
theorem d_IG_bitCount_27 : decode prog_12_method_49_code 27 = .ok (.iushr, 1) := by decide +kernel
theorem d_IG_bitCount_28 : decode prog_12_method_49_code 28 = .ok (.iadd, 1) := by decide +kernel
theorem d_IG_bitCount_29 : decode prog_12_method_49_code 29 = .ok (.ldc_w 267, 3) := by decide +kernel
theorem d_IG_bitCount_32 : decode prog_12_method_49_code 32 = .ok (.iand, 1) := by decide +kernel
theorem d_IG_bitCount_33 : decode prog_12_method_49_code 33 = .ok (.istore_n 0, 1) := by decide +kernel
theorem d_IG_bitCount_34 : decode prog_12_method_49_code 34 = .ok (.iload_n 0, 1) := by decide +kernel
theorem d_IG_bitCount_35 : decode prog_12_method_49_code 35 = .ok (.iload_n 0, 1) := by decide +kernel
theorem d_IG_bitCount_36 : decode prog_12_method_49_code 36 = .ok (.bipush 8, 2) := by decide +kernel
theorem d_IG_bitCount_38 : decode prog_12_method_49_code 38 = .ok (.iushr, 1) := by decide +kernel
theorem d_IG_bitCount_39 : decode prog_12_method_49_code 39 = .ok (.iadd, 1) := by decide +kernel
theorem d_IG_bitCount_40 : decode prog_12_method_49_code 40 = .ok (.istore_n 0, 1) := by decide +kernel
theorem d_IG_bitCount_41 : decode prog_12_method_49_code 41 = .ok (.iload_n 0, 1) := by decide +kernel
theorem d_IG_bitCount_42 : decode prog_12_method_49_code 42 = .ok (.iload_n 0, 1) := by decide +kernel
theorem d_IG_bitCount_43 : decode prog_12_method_49_code 43 = .ok (.bipush 16, 2) := by decide +kernel
theorem d_IG_bitCount_45 : decode prog_12_method_49_code 45 = .ok (.iushr, 1) := by decide +kernel
theorem d_IG_bitCount_46 : decode prog_12_method_49_code 46 = .ok (.iadd, 1) := by decide +kernel
theorem d_IG_bitCount_47 : decode prog_12_method_49_code 47 = .ok (.istore_n 0, 1) := by decide +kernel
theorem d_IG_bitCount_48 : decode prog_12_method_49_code 48 = .ok (.iload_n 0, 1) := by decide +kernel
theorem d_IG_bitCount_49 : decode prog_12_method_49_code 49 = .ok (.bipush 63, 2) := by decide +kernel
theorem d_IG_bitCount_51 : decode prog_12_method_49_code 51 = .ok (.iand, 1) := by decide +kernel
theorem d_IG_bitCount_52 : decode prog_12_method_49_code 52 = .ok (.ireturn, 1) := by decide +kernel
theorem d_MT_floorMod_0 : decode prog_13_method_50_code 0 = .ok (.iload_n 0, 1) := by decide +kernel
theorem d_MT_floorMod_1 : decode prog_13_method_50_code 1 = .ok (.iload_n 1, 1) := by decide +kernel
theorem d_MT_floorMod_2 : decode prog_13_method_50_code 2 = .ok (.irem, 1) := by decide +kernel
theorem d_MT_floorMod_3 : decode prog_13_method_50_code 3 = .ok (.istore_n 2, 1) := by decide +kernel
theorem d_MT_floorMod_4 : decode prog_13_method_50_code 4 = .ok (.iload_n 0, 1) := by decide +kernel
theorem d_MT_floorMod_5 : decode prog_13_method_50_code 5 = .ok (.iload_n 1, 1) := by decide +kernel
theorem d_MT_floorMod_6 : decode prog_13_method_50_code 6 = .ok (.ixor, 1) := by decide +kernel
theorem d_MT_floorMod_7 : decode prog_13_method_50_code 7 = .ok (.ifCond .ge 11, 3) := by decide +kernel
theorem d_MT_floorMod_10 : decode prog_13_method_50_code 10 = .ok (.iload_n 2, 1) := by decide +kernel
theorem d_MT_floorMod_11 : decode prog_13_method_50_code 11 = .ok (.ifCond .eq 7, 3) := by decide +kernel
theorem d_MT_floorMod_14 : decode prog_13_method_50_code 14 = .ok (.iload_n 2, 1) := by decide +kernel
theorem d_MT_floorMod_15 : decode prog_13_method_50_code 15 = .ok (.iload_n 1, 1) := by decide +kernel
theorem d_MT_floorMod_16 : decode prog_13_method_50_code 16 = .ok (.iadd, 1) := by decide +kernel
theorem d_MT_floorMod_17 : decode prog_13_method_50_code 17 = .ok (.ireturn, 1) := by decide +kernel
theorem d_MT_floorMod_18 : decode prog_13_method_50_code 18 = .ok (.iload_n 2, 1) := by decide +kernel
theorem d_MT_floorMod_19 : decode prog_13_method_50_code 19 = .ok (.ireturn, 1) := by decide +kernel
theorem d_MT_max_0 : decode prog_13_method_65_code 0 = .ok (.iload_n 0, 1) := by decide +kernel
theorem d_MT_max_1 : decode prog_13_method_65_code 1 = .ok (.iload_n 1, 1) := by decide +kernel
theorem d_MT_max_2 : decode prog_13_method_65_code 2 = .ok (.if_icmp .lt 7, 3) := by decide +kernel
theorem d_MT_max_5 : decode prog_13_method_65_code 5 = .ok (.iload_n 0, 1) := by decide +kernel
theorem d_MT_max_6 : decode prog_13_method_65_code 6 = .ok (.goto 4, 3) := by decide +kernel
theorem d_MT_max_9 : decode prog_13_method_65_code 9 = .ok (.iload_n 1, 1) := by decide +kernel
theorem d_MT_max_10 : decode prog_13_method_65_code 10 = .ok (.ireturn, 1) := by decide +kernel
theorem d_MT_min_0 : decode prog_13_method_69_code 0 = .ok (.iload_n 0, 1) := by decide +kernel
theorem d_MT_min_1 : decode prog_13_method_69_code 1 = .ok (.iload_n 1, 1) := by decide +kernel
theorem d_MT_min_2 : decode prog_13_method_69_code 2 = .ok (.if_icmp .gt 7, 3) := by decide +kernel
theorem d_MT_min_5 : decode prog_13_method_69_code 5 = .ok (.iload_n 0, 1) := by decide +kernel
theorem d_MT_min_6 : decode prog_13_method_69_code 6 = .ok (.goto 4, 3) := by decide +kernel
theorem d_MT_min_9 : decode prog_13_method_69_code 9 = .ok (.iload_n 1, 1) := by decide +kernel
theorem d_MT_min_10 : decode prog_13_method_69_code 10 = .ok (.ireturn, 1) := by decide +kernel
end
section
/-! decode rows -/
theorem d_MO_init_0 : decode prog_11_method_1_code 0 = .ok (.aload_n 0, 1) := by decide +kernel
theorem d_MO_init_1 : decode prog_11_method_1_code 1 = .ok (.invokespecial 1, 3) := by decide +kernel
theorem d_MO_init_4 : decode prog_11_method_1_code 4 = .ok (.aload_n 0, 1) := by decide +kernel
theorem d_MO_init_5 : decode prog_11_method_1_code 5 = .ok (.bipush 6, 2) := by decide +kernel
theorem d_MO_init_7 : decode prog_11_method_1_code 7 = .ok (.newarray .int, 2) := by decide +kernel
theorem d_MO_init_9 : decode prog_11_method_1_code 9 = .ok (.putfield 7, 3) := by decide +kernel
theorem d_MO_init_12 : decode prog_11_method_1_code 12 = .ok (.aload_n 0, 1) := by decide +kernel
theorem d_MO_init_13 : decode prog_11_method_1_code 13 = .ok (.bipush 60, 2) := by decide +kernel
theorem d_MO_init_15 : decode prog_11_method_1_code 15 = .ok (.newarray .int, 2) := by decide +kernel
theorem d_MO_init_17 : decode prog_11_method_1_code 17 = .ok (.putfield 13, 3) := by decide +kernel
theorem d_MO_init_20 : decode prog_11_method_1_code 20 = .ok (.aload_n 0, 1) := by decide +kernel
theorem d_MO_init_21 : decode prog_11_method_1_code 21 = .ok (.bipush 24, 2) := by decide +kernel
theorem d_MO_init_23 : decode prog_11_method_1_code 23 = .ok (.newarray .int, 2) := by decide +kernel
theorem d_MO_init_25 : decode prog_11_method_1_code 25 = .ok (.putfield 16, 3) := by decide +kernel
theorem d_MO_init_28 : decode prog_11_method_1_code 28 = .ok (.aload_n 0, 1) := by decide +kernel
theorem d_MO_init_29 : decode prog_11_method_1_code 29 = .ok (.bipush 6, 2) := by decide +kernel
theorem d_MO_init_31 : decode prog_11_method_1_code 31 = .ok (.newarray .int, 2) := by decide +kernel
theorem d_MO_init_33 : decode prog_11_method_1_code 33 = .ok (.putfield 19, 3) := by decide +kernel
theorem d_MO_init_36 : decode prog_11_method_1_code 36 = .ok (.aload_n 0, 1) := by decide +kernel
theorem d_MO_init_37 : decode prog_11_method_1_code 37 = .ok (.bipush 60, 2) := by decide +kernel
theorem d_MO_init_39 : decode prog_11_method_1_code 39 = .ok (.newarray .int, 2) := by decide +kernel
theorem d_MO_init_41 : decode prog_11_method_1_code 41 = .ok (.putfield 22, 3) := by decide +kernel
theorem d_MO_init_44 : decode prog_11_method_1_code 44 = .ok (.aload_n 0, 1) := by decide +kernel
theorem d_MO_init_45 : decode prog_11_method_1_code 45 = .ok (.bipush 24, 2) := by decide +kernel
theorem d_MO_init_47 : decode prog_11_method_1_code 47 = .ok (.newarray .int, 2) := by decide +kernel
theorem d_MO_init_49 : decode prog_11_method_1_code 49 = .ok (.putfield 25, 3) := by decide +kernel
theorem d_MO_init_52 : decode prog_11_method_1_code 52 = .ok (.aload_n 0, 1) := by decide +kernel
theorem d_MO_init_53 : decode prog_11_method_1_code 53 = .ok (.bipush 104, 2) := by decide +kernel
theorem d_MO_init_55 : decode prog_11_method_1_code 55 = .ok (.newarray .int, 2) := by decide +kernel
theorem d_MO_init_57 : decode prog_11_method_1_code 57 = .ok (.putfield 28, 3) := by decide +kernel
theorem d_MO_init_60 : decode prog_11_method_1_code 60 = .ok (.aload_n 0, 1) := by decide +kernel
theorem d_MO_init_61 : decode prog_11_method_1_code 61 = .ok (.bipush 24, 2) := by decide +kernel
theorem d_MO_init_63 : decode prog_11_method_1_code 63 = .ok (.newarray .int, 2) := by decide +kernel
theorem d_MO_init_65 : decode prog_11_method_1_code 65 = .ok (.putfield 31, 3) := by decide +kernel
theorem d_MO_init_68 : decode prog_11_method_1_code 68 = .ok (.aload_n 0, 1) := by decide +kernel
theorem d_MO_init_69 : decode prog_11_method_1_code 69 = .ok (.bipush 24, 2) := by decide +kernel
theorem d_MO_init_71 : decode prog_11_method_1_code 71 = .ok (.newarray .int, 2) := by decide +kernel
theorem d_MO_init_73 : decode prog_11_method_1_code 73 = .ok (.putfield 34, 3) := by decide +kernel
theorem d_MO_init_76 : decode prog_11_method_1_code 76 = .ok (.aload_n 0, 1) := by decide +kernel
theorem d_MO_init_77 : decode prog_11_method_1_code 77 = .ok (.bipush 12, 2) := by decide +kernel
theorem d_MO_init_79 : decode prog_11_method_1_code 79 = .ok (.newarray .int, 2) := by decide +kernel
theorem d_MO_init_81 : decode prog_11_method_1_code 81 = .ok (.putfield 37, 3) := by decide +kernel
theorem d_MO_init_84 : decode prog_11_method_1_code 84 = .ok (.aload_n 0, 1) := by decide +kernel
theorem d_MO_init_85 : decode prog_11_method_1_code 85 = .ok (.bipush 12, 2) := by decide +kernel
theorem d_MO_init_87 : decode prog_11_method_1_code 87 = .ok (.newarray .int, 2) := by decide +kernel
theorem d_MO_init_89 : decode prog_11_method_1_code 89 = .ok (.putfield 40, 3) := by decide +kernel
theorem d_MO_init_92 : decode prog_11_method_1_code 92 = .ok (.aload_n 0, 1) := by decide +kernel
theorem d_MO_init_93 : decode prog_11_method_1_code 93 = .ok (.sipush 384, 3) := by decide +kernel
theorem d_MO_init_96 : decode prog_11_method_1_code 96 = .ok (.newarray .int, 2) := by decide +kernel
theorem d_MO_init_98 : decode prog_11_method_1_code 98 = .ok (.putfield 43, 3) := by decide +kernel
theorem d_MO_init_101 : decode prog_11_method_1_code 101 = .ok (.aload_n 0, 1) := by decide +kernel
theorem d_MO_init_102 : decode prog_11_method_1_code 102 = .ok (.bipush 6, 2) := by decide +kernel
theorem d_MO_init_104 : decode prog_11_method_1_code 104 = .ok (.newarray .int, 2) := by decide +kernel
theorem d_MO_init_106 : decode prog_11_method_1_code 106 = .ok (.putfield 46, 3) := by decide +kernel
theorem d_MO_init_109 : decode prog_11_method_1_code 109 = .ok (.aload_n 0, 1) := by decide +kernel
theorem d_MO_init_110 : decode prog_11_method_1_code 110 = .ok (.bipush 6, 2) := by decide +kernel
theorem d_MO_init_112 : decode prog_11_method_1_code 112 = .ok (.newarray .int, 2) := by decide +kernel
theorem d_MO_init_114 : decode prog_11_method_1_code 114 = .ok (.putfield 49, 3) := by decide +kernel
theorem d_MO_init_117 : decode prog_11_method_1_code 117 = .ok (.aload_n 0, 1) := by decide +kernel
theorem d_MO_init_118 : decode prog_11_method_1_code 118 = .ok (.bipush 12, 2) := by decide +kernel
theorem d_MO_init_120 : decode prog_11_method_1_code 120 = .ok (.newarray .int, 2) := by decide +kernel
theorem d_MO_init_122 : decode prog_11_method_1_code 122 = .ok (.putfield 52, 3) := by decide +kernel
theorem d_MO_init_125 : decode prog_11_method_1_code 125 = .ok (.aload_n 0, 1) := by decide +kernel
theorem d_MO_init_126 : decode prog_11_method_1_code 126 = .ok (.bipush 40, 2) := by decide +kernel
theorem d_MO_init_128 : decode prog_11_method_1_code 128 = .ok (.newarray .long, 2) := by decide +kernel
theorem d_MO_init_130 : decode prog_11_method_1_code 130 = .ok (.putfield 55, 3) := by decide +kernel
theorem d_MO_init_133 : decode prog_11_method_1_code 133 = .ok (.aload_n 0, 1) := by decide +kernel
theorem d_MO_init_134 : decode prog_11_method_1_code 134 = .ok (.iconst 2, 1) := by decide +kernel
theorem d_MO_init_135 : decode prog_11_method_1_code 135 = .ok (.newarray .boolean, 2) := by decide +kernel
theorem d_MO_init_137 : decode prog_11_method_1_code 137 = .ok (.putfield 59, 3) := by decide +kernel
theorem d_MO_init_140 : decode prog_11_method_1_code 140 = .ok (.aload_n 0, 1) := by decide +kernel
theorem d_MO_init_141 : decode prog_11_method_1_code 141 = .ok (.bipush 120, 2) := by decide +kernel
theorem d_MO_init_143 : decode prog_11_method_1_code 143 = .ok (.newarray .int, 2) := by decide +kernel
theorem d_MO_init_145 : decode prog_11_method_1_code 145 = .ok (.putfield 63, 3) := by decide +kernel
theorem d_MO_init_148 : decode prog_11_method_1_code 148 = .ok (.aload_n 0, 1) := by decide +kernel
theorem d_MO_init_149 : decode prog_11_method_1_code 149 = .ok (.iconst 4, 1) := by decide +kernel
theorem d_MO_init_150 : decode prog_11_method_1_code 150 = .ok (.newarray .int, 2) := by decide +kernel
theorem d_MO_init_152 : decode prog_11_method_1_code 152 = .ok (.putfield 66, 3) := by decide +kernel
theorem d_MO_init_155 : decode prog_11_method_1_code 155 = .ok (.aload_n 0, 1) := by decide +kernel
theorem d_MO_init_156 : decode prog_11_method_1_code 156 = .ok (.iconst 1, 1) := by decide +kernel
theorem d_MO_init_157 : decode prog_11_method_1_code 157 = .ok (.putfield 69, 3) := by decide +kernel
theorem d_MO_init_160 : decode prog_11_method_1_code 160 = .ok (.aload_n 0, 1) := by decide +kernel
theorem d_MO_init_161 : decode prog_11_method_1_code 161 = .ok (.getfield 19, 3) := by decide +kernel
theorem d_MO_init_164 : decode prog_11_method_1_code 164 = .ok (.iconst 0, 1) := by decide +kernel
theorem d_MO_init_165 : decode prog_11_method_1_code 165 = .ok (.iconst 1, 1) := by decide +kernel
theorem d_MO_init_166 : decode prog_11_method_1_code 166 = .ok (.iastore, 1) := by decide +kernel
theorem d_MO_init_167 : decode prog_11_method_1_code 167 = .ok (.return_, 1) := by decide +kernel
theorem d_MO_in_0 : decode prog_11_method_3_code 0 = .ok (.lload_n 0, 1) := by decide +kernel
theorem d_MO_in_1 : decode prog_11_method_3_code 1 = .ok (.lload_n 2, 1) := by decide +kernel
theorem d_MO_in_2 : decode prog_11_method_3_code 2 = .ok (.lcmp, 1) := by decide +kernel
theorem d_MO_in_3 : decode prog_11_method_3_code 3 = .ok (.ifCond .lt 14, 3) := by decide +kernel
theorem d_MO_in_6 : decode prog_11_method_3_code 6 = .ok (.lload_n 0, 1) := by decide +kernel
theorem d_MO_in_7 : decode prog_11_method_3_code 7 = .ok (.lload 4, 2) := by decide +kernel
theorem d_MO_in_9 : decode prog_11_method_3_code 9 = .ok (.lcmp, 1) := by decide +kernel
theorem d_MO_in_10 : decode prog_11_method_3_code 10 = .ok (.ifCond .gt 7, 3) := by decide +kernel
theorem d_MO_in_13 : decode prog_11_method_3_code 13 = .ok (.iconst 1, 1) := by decide +kernel
theorem d_MO_in_14 : decode prog_11_method_3_code 14 = .ok (.goto 4, 3) := by decide +kernel
theorem d_MO_in_17 : decode prog_11_method_3_code 17 = .ok (.iconst 0, 1) := by decide +kernel
theorem d_MO_in_18 : decode prog_11_method_3_code 18 = .ok (.ireturn, 1) := by decide +kernel
theorem d_MO_write_0 : decode prog_11_method_4_code 0 = .ok (.iload_n 1, 1) := by decide +kernel
theorem d_MO_write_1 : decode prog_11_method_4_code 1 = .ok (.i2l, 1) := by decide +kernel
theorem d_MO_write_2 : decode prog_11_method_4_code 2 = .ok (.lconst 1, 1) := by decide +kernel
theorem d_MO_write_3 : decode prog_11_method_4_code 3 = .ok (.ldc2_w 73, 3) := by decide +kernel
theorem d_MO_write_6 : decode prog_11_method_4_code 6 = .ok (.invokestatic 75, 3) := by decide +kernel
theorem d_MO_write_9 : decode prog_11_method_4_code 9 = .ok (.ifCond .ne 6, 3) := by decide +kernel
theorem d_MO_write_12 : decode prog_11_method_4_code 12 = .ok (.bipush (-2), 2) := by decide +kernel
theorem d_MO_write_14 : decode prog_11_method_4_code 14 = .ok (.ireturn, 1) := by decide +kernel
theorem d_MO_write_15 : decode prog_11_method_4_code 15 = .ok (.aload_n 0, 1) := by decide +kernel
theorem d_MO_write_16 : decode prog_11_method_4_code 16 = .ok (.getfield 79, 3) := by decide +kernel
theorem d_MO_write_19 : decode prog_11_method_4_code 19 = .ok (.iload_n 1, 1) := by decide +kernel
theorem d_MO_write_20 : decode prog_11_method_4_code 20 = .ok (.iadd, 1) := by decide +kernel
theorem d_MO_write_21 : decode prog_11_method_4_code 21 = .ok (.bipush 104, 2) := by decide +kernel
theorem d_MO_write_23 : decode prog_11_method_4_code 23 = .ok (.if_icmp .le 6, 3) := by decide +kernel
theorem d_MO_write_26 : decode prog_11_method_4_code 26 = .ok (.bipush (-4), 2) := by decide +kernel
theorem d_MO_write_28 : decode prog_11_method_4_code 28 = .ok (.ireturn, 1) := by decide +kernel
theorem d_MO_write_29 : decode prog_11_method_4_code 29 = .ok (.iload_n 1, 1) := by decide +kernel
theorem d_MO_write_30 : decode prog_11_method_4_code 30 = .ok (.iconst 1, 1) := by decide +kernel
theorem d_MO_write_31 : decode prog_11_method_4_code 31 = .ok (.isub, 1) := by decide +kernel
theorem d_MO_write_32 : decode prog_11_method_4_code 32 = .ok (.istore 4, 2) := by decide +kernel
theorem d_MO_write_34 : decode prog_11_method_4_code 34 = .ok (.iload 4, 2) := by decide +kernel
theorem d_MO_write_36 : decode prog_11_method_4_code 36 = .ok (.ifCond .lt 40, 3) := by decide +kernel
theorem d_MO_write_39 : decode prog_11_method_4_code 39 = .ok (.aload_n 0, 1) := by decide +kernel
theorem d_MO_write_40 : decode prog_11_method_4_code 40 = .ok (.getfield 28, 3) := by decide +kernel
theorem d_MO_write_43 : decode prog_11_method_4_code 43 = .ok (.aload_n 0, 1) := by decide +kernel
theorem d_MO_write_44 : decode prog_11_method_4_code 44 = .ok (.getfield 79, 3) := by decide +kernel
theorem d_MO_write_47 : decode prog_11_method_4_code 47 = .ok (.lload_n 2, 1) := by decide +kernel
theorem d_MO_write_48 : decode prog_11_method_4_code 48 = .ok (.bipush 8, 2) := by decide +kernel
theorem d_MO_write_50 : decode prog_11_method_4_code 50 = .ok (.iload 4, 2) := by decide +kernel
theorem d_MO_write_52 : decode prog_11_method_4_code 52 = .ok (.imul, 1) := by decide +kernel
theorem d_MO_write_53 : decode prog_11_method_4_code 53 = .ok (.lshr, 1) := by decide +kernel
theorem d_MO_write_54 : decode prog_11_method_4_code 54 = .ok (.ldc2_w 82, 3) := by decide +kernel
theorem d_MO_write_57 : decode prog_11_method_4_code 57 = .ok (.land, 1) := by decide +kernel
theorem d_MO_write_58 : decode prog_11_method_4_code 58 = .ok (.l2i, 1) := by decide +kernel
theorem d_MO_write_59 : decode prog_11_method_4_code 59 = .ok (.iastore, 1) := by decide +kernel
theorem d_MO_write_60 : decode prog_11_method_4_code 60 = .ok (.aload_n 0, 1) := by decide +kernel
theorem d_MO_write_61 : decode prog_11_method_4_code 61 = .ok (.dup, 1) := by decide +kernel
theorem d_MO_write_62 : decode prog_11_method_4_code 62 = .ok (.getfield 79, 3) := by decide +kernel
theorem d_MO_write_65 : decode prog_11_method_4_code 65 = .ok (.iconst 1, 1) := by decide +kernel
theorem d_MO_write_66 : decode prog_11_method_4_code 66 = .ok (.iadd, 1) := by decide +kernel
theorem d_MO_write_67 : decode prog_11_method_4_code 67 = .ok (.putfield 79, 3) := by decide +kernel
theorem d_MO_write_70 : decode prog_11_method_4_code 70 = .ok (.iinc 4 (-1), 3) := by decide +kernel
theorem d_MO_write_73 : decode prog_11_method_4_code 73 = .ok (.goto (-39), 3) := by decide +kernel
theorem d_MO_write_76 : decode prog_11_method_4_code 76 = .ok (.aload_n 0, 1) := by decide +kernel
theorem d_MO_write_77 : decode prog_11_method_4_code 77 = .ok (.getfield 79, 3) := by decide +kernel
theorem d_MO_write_80 : decode prog_11_method_4_code 80 = .ok (.ireturn, 1) := by decide +kernel
theorem d_MO_wipe_0 : decode prog_11_method_5_code 0 = .ok (.aload_n 0, 1) := by decide +kernel
theorem d_MO_wipe_1 : decode prog_11_method_5_code 1 = .ok (.getfield 79, 3) := by decide +kernel
theorem d_MO_wipe_4 : decode prog_11_method_5_code 4 = .ok (.istore_n 1, 1) := by decide +kernel
theorem d_MO_wipe_5 : decode prog_11_method_5_code 5 = .ok (.aload_n 0, 1) := by decide +kernel
theorem d_MO_wipe_6 : decode prog_11_method_5_code 6 = .ok (.iconst 0, 1) := by decide +kernel
theorem d_MO_wipe_7 : decode prog_11_method_5_code 7 = .ok (.putfield 79, 3) := by decide +kernel
theorem d_MO_wipe_10 : decode prog_11_method_5_code 10 = .ok (.iload_n 1, 1) := by decide +kernel
theorem d_MO_wipe_11 : decode prog_11_method_5_code 11 = .ok (.ireturn, 1) := by decide +kernel
theorem d_MO_here_0 : decode prog_11_method_6_code 0 = .ok (.aload_n 0, 1) := by decide +kernel
theorem d_MO_here_1 : decode prog_11_method_6_code 1 = .ok (.getfield 84, 3) := by decide +kernel
theorem d_MO_here_4 : decode prog_11_method_6_code 4 = .ok (.bipush (-9), 2) := by decide +kernel
theorem d_MO_here_6 : decode prog_11_method_6_code 6 = .ok (.if_icmp .ne 26, 3) := by decide +kernel
theorem d_MO_here_9 : decode prog_11_method_6_code 9 = .ok (.aload_n 0, 1) := by decide +kernel
theorem d_MO_here_10 : decode prog_11_method_6_code 10 = .ok (.getfield 87, 3) := by decide +kernel
theorem d_MO_here_13 : decode prog_11_method_6_code 13 = .ok (.aload_n 0, 1) := by decide +kernel
theorem d_MO_here_14 : decode prog_11_method_6_code 14 = .ok (.getfield 79, 3) := by decide +kernel
theorem d_MO_here_17 : decode prog_11_method_6_code 17 = .ok (.if_icmp .ge 15, 3) := by decide +kernel
theorem d_MO_here_20 : decode prog_11_method_6_code 20 = .ok (.aload_n 0, 1) := by decide +kernel
theorem d_MO_here_21 : decode prog_11_method_6_code 21 = .ok (.getfield 28, 3) := by decide +kernel
theorem d_MO_here_24 : decode prog_11_method_6_code 24 = .ok (.aload_n 0, 1) := by decide +kernel
theorem d_MO_here_25 : decode prog_11_method_6_code 25 = .ok (.getfield 87, 3) := by decide +kernel
theorem d_MO_here_28 : decode prog_11_method_6_code 28 = .ok (.iaload, 1) := by decide +kernel
theorem d_MO_here_29 : decode prog_11_method_6_code 29 = .ok (.goto 4, 3) := by decide +kernel
theorem d_MO_here_32 : decode prog_11_method_6_code 32 = .ok (.iconst (-1), 1) := by decide +kernel
theorem d_MO_here_33 : decode prog_11_method_6_code 33 = .ok (.ireturn, 1) := by decide +kernel
theorem d_MO_fail_0 : decode prog_11_method_7_code 0 = .ok (.aload_n 0, 1) := by decide +kernel
theorem d_MO_fail_1 : decode prog_11_method_7_code 1 = .ok (.aload_n 0, 1) := by decide +kernel
theorem d_MO_fail_2 : decode prog_11_method_7_code 2 = .ok (.getfield 84, 3) := by decide +kernel
theorem d_MO_fail_5 : decode prog_11_method_7_code 5 = .ok (.bipush (-9), 2) := by decide +kernel
theorem d_MO_fail_7 : decode prog_11_method_7_code 7 = .ok (.if_icmp .ne 10, 3) := by decide +kernel
theorem d_MO_fail_10 : decode prog_11_method_7_code 10 = .ok (.aload_n 0, 1) := by decide +kernel
theorem d_MO_fail_11 : decode prog_11_method_7_code 11 = .ok (.getfield 87, 3) := by decide +kernel
theorem d_MO_fail_14 : decode prog_11_method_7_code 14 = .ok (.goto 7, 3) := by decide +kernel
theorem d_MO_fail_17 : decode prog_11_method_7_code 17 = .ok (.aload_n 0, 1) := by decide +kernel
theorem d_MO_fail_18 : decode prog_11_method_7_code 18 = .ok (.getfield 84, 3) := by decide +kernel
theorem d_MO_fail_21 : decode prog_11_method_7_code 21 = .ok (.putfield 84, 3) := by decide +kernel
theorem d_MO_fail_24 : decode prog_11_method_7_code 24 = .ok (.return_, 1) := by decide +kernel
theorem d_MO_figure_0 : decode prog_11_method_8_code 0 = .ok (.aload_n 0, 1) := by decide +kernel
theorem d_MO_figure_1 : decode prog_11_method_8_code 1 = .ok (.invokevirtual 90, 3) := by decide +kernel
theorem d_MO_figure_4 : decode prog_11_method_8_code 4 = .ok (.bipush 48, 2) := by decide +kernel
theorem d_MO_figure_6 : decode prog_11_method_8_code 6 = .ok (.isub, 1) := by decide +kernel
theorem d_MO_figure_7 : decode prog_11_method_8_code 7 = .ok (.istore_n 3, 1) := by decide +kernel
theorem d_MO_figure_8 : decode prog_11_method_8_code 8 = .ok (.iload_n 3, 1) := by decide +kernel
theorem d_MO_figure_9 : decode prog_11_method_8_code 9 = .ok (.i2l, 1) := by decide +kernel
theorem d_MO_figure_10 : decode prog_11_method_8_code 10 = .ok (.iload_n 1, 1) := by decide +kernel
theorem d_MO_figure_11 : decode prog_11_method_8_code 11 = .ok (.i2l, 1) := by decide +kernel
theorem d_MO_figure_12 : decode prog_11_method_8_code 12 = .ok (.iload_n 2, 1) := by decide +kernel
theorem d_MO_figure_13 : decode prog_11_method_8_code 13 = .ok (.i2l, 1) := by decide +kernel
theorem d_MO_figure_14 : decode prog_11_method_8_code 14 = .ok (.invokestatic 75, 3) := by decide +kernel
theorem d_MO_figure_17 : decode prog_11_method_8_code 17 = .ok (.ifCond .ne 9, 3) := by decide +kernel
theorem d_MO_figure_20 : decode prog_11_method_8_code 20 = .ok (.aload_n 0, 1) := by decide +kernel
theorem d_MO_figure_21 : decode prog_11_method_8_code 21 = .ok (.invokevirtual 94, 3) := by decide +kernel
theorem d_MO_figure_24 : decode prog_11_method_8_code 24 = .ok (.iconst 0, 1) := by decide +kernel
theorem d_MO_figure_25 : decode prog_11_method_8_code 25 = .ok (.ireturn, 1) := by decide +kernel
theorem d_MO_figure_26 : decode prog_11_method_8_code 26 = .ok (.aload_n 0, 1) := by decide +kernel
theorem d_MO_figure_27 : decode prog_11_method_8_code 27 = .ok (.dup, 1) := by decide +kernel
theorem d_MO_figure_28 : decode prog_11_method_8_code 28 = .ok (.getfield 87, 3) := by decide +kernel
theorem d_MO_figure_31 : decode prog_11_method_8_code 31 = .ok (.iconst 1, 1) := by decide +kernel
theorem d_MO_figure_32 : decode prog_11_method_8_code 32 = .ok (.iadd, 1) := by decide +kernel
theorem d_MO_figure_33 : decode prog_11_method_8_code 33 = .ok (.putfield 87, 3) := by decide +kernel
theorem d_MO_figure_36 : decode prog_11_method_8_code 36 = .ok (.iload_n 3, 1) := by decide +kernel
theorem d_MO_figure_37 : decode prog_11_method_8_code 37 = .ok (.ireturn, 1) := by decide +kernel
theorem d_MO_bits_0 : decode prog_11_method_9_code 0 = .ok (.aload_n 0, 1) := by decide +kernel
theorem d_MO_bits_1 : decode prog_11_method_9_code 1 = .ok (.invokevirtual 90, 3) := by decide +kernel
theorem d_MO_bits_4 : decode prog_11_method_9_code 4 = .ok (.bipush 48, 2) := by decide +kernel
theorem d_MO_bits_6 : decode prog_11_method_9_code 6 = .ok (.isub, 1) := by decide +kernel
theorem d_MO_bits_7 : decode prog_11_method_9_code 7 = .ok (.istore_n 2, 1) := by decide +kernel
theorem d_MO_bits_8 : decode prog_11_method_9_code 8 = .ok (.iload_n 2, 1) := by decide +kernel
theorem d_MO_bits_9 : decode prog_11_method_9_code 9 = .ok (.i2l, 1) := by decide +kernel
theorem d_MO_bits_10 : decode prog_11_method_9_code 10 = .ok (.lconst 0, 1) := by decide +kernel
theorem d_MO_bits_11 : decode prog_11_method_9_code 11 = .ok (.ldc2_w 97, 3) := by decide +kernel
theorem d_MO_bits_14 : decode prog_11_method_9_code 14 = .ok (.invokestatic 75, 3) := by decide +kernel
theorem d_MO_bits_17 : decode prog_11_method_9_code 17 = .ok (.ifCond .eq 11, 3) := by decide +kernel
theorem d_MO_bits_20 : decode prog_11_method_9_code 20 = .ok (.iload_n 2, 1) := by decide +kernel
theorem d_MO_bits_21 : decode prog_11_method_9_code 21 = .ok (.iload_n 1, 1) := by decide +kernel
theorem d_MO_bits_22 : decode prog_11_method_9_code 22 = .ok (.iconst (-1), 1) := by decide +kernel
theorem d_MO_bits_23 : decode prog_11_method_9_code 23 = .ok (.ixor, 1) := by decide +kernel
theorem d_MO_bits_24 : decode prog_11_method_9_code 24 = .ok (.iand, 1) := by decide +kernel
theorem d_MO_bits_25 : decode prog_11_method_9_code 25 = .ok (.ifCond .eq 9, 3) := by decide +kernel
theorem d_MO_bits_28 : decode prog_11_method_9_code 28 = .ok (.aload_n 0, 1) := by decide +kernel
theorem d_MO_bits_29 : decode prog_11_method_9_code 29 = .ok (.invokevirtual 94, 3) := by decide +kernel
theorem d_MO_bits_32 : decode prog_11_method_9_code 32 = .ok (.iconst 0, 1) := by decide +kernel
theorem d_MO_bits_33 : decode prog_11_method_9_code 33 = .ok (.ireturn, 1) := by decide +kernel
theorem d_MO_bits_34 : decode prog_11_method_9_code 34 = .ok (.aload_n 0, 1) := by decide +kernel
theorem d_MO_bits_35 : decode prog_11_method_9_code 35 = .ok (.dup, 1) := by decide +kernel
theorem d_MO_bits_36 : decode prog_11_method_9_code 36 = .ok (.getfield 87, 3) := by decide +kernel
theorem d_MO_bits_39 : decode prog_11_method_9_code 39 = .ok (.iconst 1, 1) := by decide +kernel
theorem d_MO_bits_40 : decode prog_11_method_9_code 40 = .ok (.iadd, 1) := by decide +kernel
theorem d_MO_bits_41 : decode prog_11_method_9_code 41 = .ok (.putfield 87, 3) := by decide +kernel
theorem d_MO_bits_44 : decode prog_11_method_9_code 44 = .ok (.iload_n 2, 1) := by decide +kernel
theorem d_MO_bits_45 : decode prog_11_method_9_code 45 = .ok (.ireturn, 1) := by decide +kernel
theorem d_MO_readText_0 : decode prog_11_method_10_code 0 = .ok (.aload_n 0, 1) := by decide +kernel
theorem d_MO_readText_1 : decode prog_11_method_10_code 1 = .ok (.iconst 0, 1) := by decide +kernel
theorem d_MO_readText_2 : decode prog_11_method_10_code 2 = .ok (.putfield 87, 3) := by decide +kernel
theorem d_MO_readText_5 : decode prog_11_method_10_code 5 = .ok (.aload_n 0, 1) := by decide +kernel
theorem d_MO_readText_6 : decode prog_11_method_10_code 6 = .ok (.bipush (-9), 2) := by decide +kernel
theorem d_MO_readText_8 : decode prog_11_method_10_code 8 = .ok (.putfield 84, 3) := by decide +kernel
theorem d_MO_readText_11 : decode prog_11_method_10_code 11 = .ok (.aload_n 0, 1) := by decide +kernel
theorem d_MO_readText_12 : decode prog_11_method_10_code 12 = .ok (.iconst 0, 1) := by decide +kernel
theorem d_MO_readText_13 : decode prog_11_method_10_code 13 = .ok (.putfield 99, 3) := by decide +kernel
theorem d_MO_readText_16 : decode prog_11_method_10_code 16 = .ok (.aload_n 0, 1) := by decide +kernel
theorem d_MO_readText_17 : decode prog_11_method_10_code 17 = .ok (.iconst 0, 1) := by decide +kernel
theorem d_MO_readText_18 : decode prog_11_method_10_code 18 = .ok (.putfield 102, 3) := by decide +kernel
theorem d_MO_readText_21 : decode prog_11_method_10_code 21 = .ok (.aload_n 0, 1) := by decide +kernel
theorem d_MO_readText_22 : decode prog_11_method_10_code 22 = .ok (.iconst 0, 1) := by decide +kernel
theorem d_MO_readText_23 : decode prog_11_method_10_code 23 = .ok (.putfield 105, 3) := by decide +kernel
theorem d_MO_readText_26 : decode prog_11_method_10_code 26 = .ok (.aload_n 0, 1) := by decide +kernel
theorem d_MO_readText_27 : decode prog_11_method_10_code 27 = .ok (.invokevirtual 90, 3) := by decide +kernel
theorem d_MO_readText_30 : decode prog_11_method_10_code 30 = .ok (.bipush 79, 2) := by decide +kernel
theorem d_MO_readText_32 : decode prog_11_method_10_code 32 = .ok (.if_icmp .eq 5, 3) := by decide +kernel
theorem d_MO_readText_35 : decode prog_11_method_10_code 35 = .ok (.iconst 0, 1) := by decide +kernel
theorem d_MO_readText_36 : decode prog_11_method_10_code 36 = .ok (.ireturn, 1) := by decide +kernel
theorem d_MO_readText_37 : decode prog_11_method_10_code 37 = .ok (.aload_n 0, 1) := by decide +kernel
theorem d_MO_readText_38 : decode prog_11_method_10_code 38 = .ok (.iconst 1, 1) := by decide +kernel
theorem d_MO_readText_39 : decode prog_11_method_10_code 39 = .ok (.putfield 87, 3) := by decide +kernel
theorem d_MO_readText_42 : decode prog_11_method_10_code 42 = .ok (.aload_n 0, 1) := by decide +kernel
theorem d_MO_readText_43 : decode prog_11_method_10_code 43 = .ok (.getfield 99, 3) := by decide +kernel
theorem d_MO_readText_46 : decode prog_11_method_10_code 46 = .ok (.ifCond .ne 12, 3) := by decide +kernel
theorem d_MO_readText_49 : decode prog_11_method_10_code 49 = .ok (.aload_n 0, 1) := by decide +kernel
theorem d_MO_readText_50 : decode prog_11_method_10_code 50 = .ok (.getfield 84, 3) := by decide +kernel
theorem d_MO_readText_53 : decode prog_11_method_10_code 53 = .ok (.bipush (-9), 2) := by decide +kernel
theorem d_MO_readText_55 : decode prog_11_method_10_code 55 = .ok (.if_icmp .eq 29, 3) := by decide +kernel
theorem d_MO_readText_58 : decode prog_11_method_10_code 58 = .ok (.aload_n 0, 1) := by decide +kernel
theorem d_MO_readText_59 : decode prog_11_method_10_code 59 = .ok (.getfield 99, 3) := by decide +kernel
theorem d_MO_readText_62 : decode prog_11_method_10_code 62 = .ok (.bipush 6, 2) := by decide +kernel
theorem d_MO_readText_64 : decode prog_11_method_10_code 64 = .ok (.if_icmp .ge 49, 3) := by decide +kernel
theorem d_MO_readText_67 : decode prog_11_method_10_code 67 = .ok (.aload_n 0, 1) := by decide +kernel
theorem d_MO_readText_68 : decode prog_11_method_10_code 68 = .ok (.invokevirtual 90, 3) := by decide +kernel
theorem d_MO_readText_71 : decode prog_11_method_10_code 71 = .ok (.i2l, 1) := by decide +kernel
theorem d_MO_readText_72 : decode prog_11_method_10_code 72 = .ok (.ldc2_w 108, 3) := by decide +kernel
theorem d_MO_readText_75 : decode prog_11_method_10_code 75 = .ok (.ldc2_w 110, 3) := by decide +kernel
theorem d_MO_readText_78 : decode prog_11_method_10_code 78 = .ok (.invokestatic 75, 3) := by decide +kernel
theorem d_MO_readText_81 : decode prog_11_method_10_code 81 = .ok (.ifCond .eq 32, 3) := by decide +kernel
theorem d_MO_readText_84 : decode prog_11_method_10_code 84 = .ok (.aload_n 0, 1) := by decide +kernel
theorem d_MO_readText_85 : decode prog_11_method_10_code 85 = .ok (.getfield 7, 3) := by decide +kernel
theorem d_MO_readText_88 : decode prog_11_method_10_code 88 = .ok (.aload_n 0, 1) := by decide +kernel
theorem d_MO_readText_89 : decode prog_11_method_10_code 89 = .ok (.getfield 99, 3) := by decide +kernel
theorem d_MO_readText_92 : decode prog_11_method_10_code 92 = .ok (.aload_n 0, 1) := by decide +kernel
theorem d_MO_readText_93 : decode prog_11_method_10_code 93 = .ok (.iconst 1, 1) := by decide +kernel
theorem d_MO_readText_94 : decode prog_11_method_10_code 94 = .ok (.bipush 9, 2) := by decide +kernel
theorem d_MO_readText_96 : decode prog_11_method_10_code 96 = .ok (.invokevirtual 112, 3) := by decide +kernel
theorem d_MO_readText_99 : decode prog_11_method_10_code 99 = .ok (.iastore, 1) := by decide +kernel
theorem d_MO_readText_100 : decode prog_11_method_10_code 100 = .ok (.aload_n 0, 1) := by decide +kernel
theorem d_MO_readText_101 : decode prog_11_method_10_code 101 = .ok (.dup, 1) := by decide +kernel
theorem d_MO_readText_102 : decode prog_11_method_10_code 102 = .ok (.getfield 99, 3) := by decide +kernel
theorem d_MO_readText_105 : decode prog_11_method_10_code 105 = .ok (.iconst 1, 1) := by decide +kernel
theorem d_MO_readText_106 : decode prog_11_method_10_code 106 = .ok (.iadd, 1) := by decide +kernel
theorem d_MO_readText_107 : decode prog_11_method_10_code 107 = .ok (.putfield 99, 3) := by decide +kernel
theorem d_MO_readText_110 : decode prog_11_method_10_code 110 = .ok (.goto (-68), 3) := by decide +kernel
theorem d_MO_readText_113 : decode prog_11_method_10_code 113 = .ok (.aload_n 0, 1) := by decide +kernel
theorem d_MO_readText_114 : decode prog_11_method_10_code 114 = .ok (.getfield 102, 3) := by decide +kernel
theorem d_MO_readText_117 : decode prog_11_method_10_code 117 = .ok (.bipush 12, 2) := by decide +kernel
theorem d_MO_readText_119 : decode prog_11_method_10_code 119 = .ok (.if_icmp .ge 106, 3) := by decide +kernel
theorem d_MO_readText_122 : decode prog_11_method_10_code 122 = .ok (.aload_n 0, 1) := by decide +kernel
theorem d_MO_readText_123 : decode prog_11_method_10_code 123 = .ok (.invokevirtual 90, 3) := by decide +kernel
theorem d_MO_readText_126 : decode prog_11_method_10_code 126 = .ok (.bipush 77, 2) := by decide +kernel
theorem d_MO_readText_128 : decode prog_11_method_10_code 128 = .ok (.if_icmp .ne 97, 3) := by decide +kernel
theorem d_MO_readText_131 : decode prog_11_method_10_code 131 = .ok (.aload_n 0, 1) := by decide +kernel
theorem d_MO_readText_132 : decode prog_11_method_10_code 132 = .ok (.dup, 1) := by decide +kernel
theorem d_MO_readText_133 : decode prog_11_method_10_code 133 = .ok (.getfield 87, 3) := by decide +kernel
theorem d_MO_readText_136 : decode prog_11_method_10_code 136 = .ok (.iconst 1, 1) := by decide +kernel
theorem d_MO_readText_137 : decode prog_11_method_10_code 137 = .ok (.iadd, 1) := by decide +kernel
theorem d_MO_readText_138 : decode prog_11_method_10_code 138 = .ok (.putfield 87, 3) := by decide +kernel
theorem d_MO_readText_141 : decode prog_11_method_10_code 141 = .ok (.iconst 5, 1) := by decide +kernel
theorem d_MO_readText_142 : decode prog_11_method_10_code 142 = .ok (.aload_n 0, 1) := by decide +kernel
theorem d_MO_readText_143 : decode prog_11_method_10_code 143 = .ok (.getfield 102, 3) := by decide +kernel
theorem d_MO_readText_146 : decode prog_11_method_10_code 146 = .ok (.imul, 1) := by decide +kernel
theorem d_MO_readText_147 : decode prog_11_method_10_code 147 = .ok (.istore_n 1, 1) := by decide +kernel
theorem d_MO_readText_148 : decode prog_11_method_10_code 148 = .ok (.aload_n 0, 1) := by decide +kernel
theorem d_MO_readText_149 : decode prog_11_method_10_code 149 = .ok (.getfield 13, 3) := by decide +kernel
theorem d_MO_readText_152 : decode prog_11_method_10_code 152 = .ok (.iload_n 1, 1) := by decide +kernel
theorem d_MO_readText_153 : decode prog_11_method_10_code 153 = .ok (.aload_n 0, 1) := by decide +kernel
theorem d_MO_readText_154 : decode prog_11_method_10_code 154 = .ok (.iconst 1, 1) := by decide +kernel
theorem d_MO_readText_155 : decode prog_11_method_10_code 155 = .ok (.bipush 9, 2) := by decide +kernel
theorem d_MO_readText_157 : decode prog_11_method_10_code 157 = .ok (.invokevirtual 112, 3) := by decide +kernel
theorem d_MO_readText_160 : decode prog_11_method_10_code 160 = .ok (.iastore, 1) := by decide +kernel
theorem d_MO_readText_161 : decode prog_11_method_10_code 161 = .ok (.aload_n 0, 1) := by decide +kernel
theorem d_MO_readText_162 : decode prog_11_method_10_code 162 = .ok (.getfield 13, 3) := by decide +kernel
theorem d_MO_readText_165 : decode prog_11_method_10_code 165 = .ok (.iload_n 1, 1) := by decide +kernel
theorem d_MO_readText_166 : decode prog_11_method_10_code 166 = .ok (.iconst 1, 1) := by decide +kernel
theorem d_MO_readText_167 : decode prog_11_method_10_code 167 = .ok (.iadd, 1) := by decide +kernel
theorem d_MO_readText_168 : decode prog_11_method_10_code 168 = .ok (.aload_n 0, 1) := by decide +kernel
theorem d_MO_readText_169 : decode prog_11_method_10_code 169 = .ok (.iconst 1, 1) := by decide +kernel
theorem d_MO_readText_170 : decode prog_11_method_10_code 170 = .ok (.iconst 3, 1) := by decide +kernel
theorem d_MO_readText_171 : decode prog_11_method_10_code 171 = .ok (.invokevirtual 112, 3) := by decide +kernel
theorem d_MO_readText_174 : decode prog_11_method_10_code 174 = .ok (.iastore, 1) := by decide +kernel
theorem d_MO_readText_175 : decode prog_11_method_10_code 175 = .ok (.aload_n 0, 1) := by decide +kernel
theorem d_MO_readText_176 : decode prog_11_method_10_code 176 = .ok (.getfield 13, 3) := by decide +kernel
theorem d_MO_readText_179 : decode prog_11_method_10_code 179 = .ok (.iload_n 1, 1) := by decide +kernel
theorem d_MO_readText_180 : decode prog_11_method_10_code 180 = .ok (.iconst 2, 1) := by decide +kernel
theorem d_MO_readText_181 : decode prog_11_method_10_code 181 = .ok (.iadd, 1) := by decide +kernel
theorem d_MO_readText_182 : decode prog_11_method_10_code 182 = .ok (.aload_n 0, 1) := by decide +kernel
theorem d_MO_readText_183 : decode prog_11_method_10_code 183 = .ok (.iconst 0, 1) := by decide +kernel
theorem d_MO_readText_184 : decode prog_11_method_10_code 184 = .ok (.aload_n 0, 1) := by decide +kernel
theorem d_MO_readText_185 : decode prog_11_method_10_code 185 = .ok (.getfield 99, 3) := by decide +kernel
theorem d_MO_readText_188 : decode prog_11_method_10_code 188 = .ok (.iconst 1, 1) := by decide +kernel
theorem d_MO_readText_189 : decode prog_11_method_10_code 189 = .ok (.isub, 1) := by decide +kernel
theorem d_MO_readText_190 : decode prog_11_method_10_code 190 = .ok (.invokevirtual 112, 3) := by decide +kernel
theorem d_MO_readText_193 : decode prog_11_method_10_code 193 = .ok (.iastore, 1) := by decide +kernel
theorem d_MO_readText_194 : decode prog_11_method_10_code 194 = .ok (.aload_n 0, 1) := by decide +kernel
theorem d_MO_readText_195 : decode prog_11_method_10_code 195 = .ok (.getfield 13, 3) := by decide +kernel
theorem d_MO_readText_198 : decode prog_11_method_10_code 198 = .ok (.iload_n 1, 1) := by decide +kernel
theorem d_MO_readText_199 : decode prog_11_method_10_code 199 = .ok (.iconst 3, 1) := by decide +kernel
theorem d_MO_readText_200 : decode prog_11_method_10_code 200 = .ok (.iadd, 1) := by decide +kernel
theorem d_MO_readText_201 : decode prog_11_method_10_code 201 = .ok (.iconst 0, 1) := by decide +kernel
theorem d_MO_readText_202 : decode prog_11_method_10_code 202 = .ok (.iastore, 1) := by decide +kernel
theorem d_MO_readText_203 : decode prog_11_method_10_code 203 = .ok (.aload_n 0, 1) := by decide +kernel
theorem d_MO_readText_204 : decode prog_11_method_10_code 204 = .ok (.getfield 13, 3) := by decide +kernel
theorem d_MO_readText_207 : decode prog_11_method_10_code 207 = .ok (.iload_n 1, 1) := by decide +kernel
theorem d_MO_readText_208 : decode prog_11_method_10_code 208 = .ok (.iconst 4, 1) := by decide +kernel
theorem d_MO_readText_209 : decode prog_11_method_10_code 209 = .ok (.iadd, 1) := by decide +kernel
theorem d_MO_readText_210 : decode prog_11_method_10_code 210 = .ok (.iconst 0, 1) := by decide +kernel
theorem d_MO_readText_211 : decode prog_11_method_10_code 211 = .ok (.iastore, 1) := by decide +kernel
theorem d_MO_readText_212 : decode prog_11_method_10_code 212 = .ok (.aload_n 0, 1) := by decide +kernel
theorem d_MO_readText_213 : decode prog_11_method_10_code 213 = .ok (.dup, 1) := by decide +kernel
theorem d_MO_readText_214 : decode prog_11_method_10_code 214 = .ok (.getfield 102, 3) := by decide +kernel
theorem d_MO_readText_217 : decode prog_11_method_10_code 217 = .ok (.iconst 1, 1) := by decide +kernel
theorem d_MO_readText_218 : decode prog_11_method_10_code 218 = .ok (.iadd, 1) := by decide +kernel
theorem d_MO_readText_219 : decode prog_11_method_10_code 219 = .ok (.putfield 102, 3) := by decide +kernel
theorem d_MO_readText_222 : decode prog_11_method_10_code 222 = .ok (.goto (-109), 3) := by decide +kernel
theorem d_MO_readText_225 : decode prog_11_method_10_code 225 = .ok (.aload_n 0, 1) := by decide +kernel
theorem d_MO_readText_226 : decode prog_11_method_10_code 226 = .ok (.invokevirtual 90, 3) := by decide +kernel
theorem d_MO_readText_229 : decode prog_11_method_10_code 229 = .ok (.bipush 47, 2) := by decide +kernel
theorem d_MO_readText_231 : decode prog_11_method_10_code 231 = .ok (.if_icmp .ne 100, 3) := by decide +kernel
theorem d_MO_readText_234 : decode prog_11_method_10_code 234 = .ok (.aload_n 0, 1) := by decide +kernel
theorem d_MO_readText_235 : decode prog_11_method_10_code 235 = .ok (.dup, 1) := by decide +kernel
theorem d_MO_readText_236 : decode prog_11_method_10_code 236 = .ok (.getfield 87, 3) := by decide +kernel
theorem d_MO_readText_239 : decode prog_11_method_10_code 239 = .ok (.iconst 1, 1) := by decide +kernel
theorem d_MO_readText_240 : decode prog_11_method_10_code 240 = .ok (.iadd, 1) := by decide +kernel
theorem d_MO_readText_241 : decode prog_11_method_10_code 241 = .ok (.putfield 87, 3) := by decide +kernel
theorem d_MO_readText_244 : decode prog_11_method_10_code 244 = .ok (.iconst 1, 1) := by decide +kernel
theorem d_MO_readText_245 : decode prog_11_method_10_code 245 = .ok (.aload_n 0, 1) := by decide +kernel
theorem d_MO_readText_246 : decode prog_11_method_10_code 246 = .ok (.getfield 99, 3) := by decide +kernel
theorem d_MO_readText_249 : decode prog_11_method_10_code 249 = .ok (.ishl, 1) := by decide +kernel
theorem d_MO_readText_250 : decode prog_11_method_10_code 250 = .ok (.iconst 1, 1) := by decide +kernel
theorem d_MO_readText_251 : decode prog_11_method_10_code 251 = .ok (.isub, 1) := by decide +kernel
theorem d_MO_readText_252 : decode prog_11_method_10_code 252 = .ok (.istore_n 1, 1) := by decide +kernel
theorem d_MO_readText_253 : decode prog_11_method_10_code 253 = .ok (.aload_n 0, 1) := by decide +kernel
theorem d_MO_readText_254 : decode prog_11_method_10_code 254 = .ok (.getfield 84, 3) := by decide +kernel
theorem d_MO_readText_257 : decode prog_11_method_10_code 257 = .ok (.bipush (-9), 2) := by decide +kernel
theorem d_MO_readText_259 : decode prog_11_method_10_code 259 = .ok (.if_icmp .ne 72, 3) := by decide +kernel
theorem d_MO_readText_262 : decode prog_11_method_10_code 262 = .ok (.aload_n 0, 1) := by decide +kernel
theorem d_MO_readText_263 : decode prog_11_method_10_code 263 = .ok (.getfield 105, 3) := by decide +kernel
theorem d_MO_readText_266 : decode prog_11_method_10_code 266 = .ok (.ifCond .eq 14, 3) := by decide +kernel
theorem d_MO_readText_269 : decode prog_11_method_10_code 269 = .ok (.aload_n 0, 1) := by decide +kernel
theorem d_MO_readText_270 : decode prog_11_method_10_code 270 = .ok (.getfield 87, 3) := by decide +kernel
theorem d_MO_readText_273 : decode prog_11_method_10_code 273 = .ok (.aload_n 0, 1) := by decide +kernel
theorem d_MO_readText_274 : decode prog_11_method_10_code 274 = .ok (.getfield 79, 3) := by decide +kernel
theorem d_MO_readText_277 : decode prog_11_method_10_code 277 = .ok (.if_icmp .ge 54, 3) := by decide +kernel
theorem d_MO_readText_280 : decode prog_11_method_10_code 280 = .ok (.aload_n 0, 1) := by decide +kernel
theorem d_MO_readText_281 : decode prog_11_method_10_code 281 = .ok (.getfield 105, 3) := by decide +kernel
theorem d_MO_readText_284 : decode prog_11_method_10_code 284 = .ok (.bipush 24, 2) := by decide +kernel
theorem d_MO_readText_286 : decode prog_11_method_10_code 286 = .ok (.if_icmp .ge 45, 3) := by decide +kernel
theorem d_MO_readText_289 : decode prog_11_method_10_code 289 = .ok (.aload_n 0, 1) := by decide +kernel
theorem d_MO_readText_290 : decode prog_11_method_10_code 290 = .ok (.iload_n 1, 1) := by decide +kernel
theorem d_MO_readText_291 : decode prog_11_method_10_code 291 = .ok (.bipush 7, 2) := by decide +kernel
theorem d_MO_readText_293 : decode prog_11_method_10_code 293 = .ok (.iand, 1) := by decide +kernel
theorem d_MO_readText_294 : decode prog_11_method_10_code 294 = .ok (.invokevirtual 116, 3) := by decide +kernel
theorem d_MO_readText_297 : decode prog_11_method_10_code 297 = .ok (.istore_n 2, 1) := by decide +kernel
theorem d_MO_readText_298 : decode prog_11_method_10_code 298 = .ok (.aload_n 0, 1) := by decide +kernel
theorem d_MO_readText_299 : decode prog_11_method_10_code 299 = .ok (.getfield 16, 3) := by decide +kernel
theorem d_MO_readText_302 : decode prog_11_method_10_code 302 = .ok (.aload_n 0, 1) := by decide +kernel
theorem d_MO_readText_303 : decode prog_11_method_10_code 303 = .ok (.getfield 105, 3) := by decide +kernel
theorem d_MO_readText_306 : decode prog_11_method_10_code 306 = .ok (.iload_n 2, 1) := by decide +kernel
theorem d_MO_readText_307 : decode prog_11_method_10_code 307 = .ok (.aload_n 0, 1) := by decide +kernel
theorem d_MO_readText_308 : decode prog_11_method_10_code 308 = .ok (.iload_n 1, 1) := by decide +kernel
theorem d_MO_readText_309 : decode prog_11_method_10_code 309 = .ok (.iconst 3, 1) := by decide +kernel
theorem d_MO_readText_310 : decode prog_11_method_10_code 310 = .ok (.ishr, 1) := by decide +kernel
theorem d_MO_readText_311 : decode prog_11_method_10_code 311 = .ok (.invokevirtual 116, 3) := by decide +kernel
theorem d_MO_readText_314 : decode prog_11_method_10_code 314 = .ok (.iconst 3, 1) := by decide +kernel
theorem d_MO_readText_315 : decode prog_11_method_10_code 315 = .ok (.ishl, 1) := by decide +kernel
theorem d_MO_readText_316 : decode prog_11_method_10_code 316 = .ok (.ior, 1) := by decide +kernel
theorem d_MO_readText_317 : decode prog_11_method_10_code 317 = .ok (.iastore, 1) := by decide +kernel
theorem d_MO_readText_318 : decode prog_11_method_10_code 318 = .ok (.aload_n 0, 1) := by decide +kernel
theorem d_MO_readText_319 : decode prog_11_method_10_code 319 = .ok (.dup, 1) := by decide +kernel
theorem d_MO_readText_320 : decode prog_11_method_10_code 320 = .ok (.getfield 105, 3) := by decide +kernel
theorem d_MO_readText_323 : decode prog_11_method_10_code 323 = .ok (.iconst 1, 1) := by decide +kernel
theorem d_MO_readText_324 : decode prog_11_method_10_code 324 = .ok (.iadd, 1) := by decide +kernel
theorem d_MO_readText_325 : decode prog_11_method_10_code 325 = .ok (.putfield 105, 3) := by decide +kernel
theorem d_MO_readText_328 : decode prog_11_method_10_code 328 = .ok (.goto (-75), 3) := by decide +kernel
theorem d_MO_readText_331 : decode prog_11_method_10_code 331 = .ok (.aload_n 0, 1) := by decide +kernel
theorem d_MO_readText_332 : decode prog_11_method_10_code 332 = .ok (.getfield 84, 3) := by decide +kernel
theorem d_MO_readText_335 : decode prog_11_method_10_code 335 = .ok (.bipush (-9), 2) := by decide +kernel
theorem d_MO_readText_337 : decode prog_11_method_10_code 337 = .ok (.if_icmp .ne 18, 3) := by decide +kernel
theorem d_MO_readText_340 : decode prog_11_method_10_code 340 = .ok (.aload_n 0, 1) := by decide +kernel
theorem d_MO_readText_341 : decode prog_11_method_10_code 341 = .ok (.getfield 87, 3) := by decide +kernel
theorem d_MO_readText_344 : decode prog_11_method_10_code 344 = .ok (.aload_n 0, 1) := by decide +kernel
theorem d_MO_readText_345 : decode prog_11_method_10_code 345 = .ok (.getfield 79, 3) := by decide +kernel
theorem d_MO_readText_348 : decode prog_11_method_10_code 348 = .ok (.if_icmp .ge 7, 3) := by decide +kernel
theorem d_MO_readText_351 : decode prog_11_method_10_code 351 = .ok (.aload_n 0, 1) := by decide +kernel
theorem d_MO_readText_352 : decode prog_11_method_10_code 352 = .ok (.invokevirtual 94, 3) := by decide +kernel
theorem d_MO_readText_355 : decode prog_11_method_10_code 355 = .ok (.aload_n 0, 1) := by decide +kernel
theorem d_MO_readText_356 : decode prog_11_method_10_code 356 = .ok (.getfield 84, 3) := by decide +kernel
theorem d_MO_readText_359 : decode prog_11_method_10_code 359 = .ok (.ireturn, 1) := by decide +kernel
theorem d_MO_fault_0 : decode prog_11_method_11_code 0 = .ok (.aload_n 0, 1) := by decide +kernel
theorem d_MO_fault_1 : decode prog_11_method_11_code 1 = .ok (.invokevirtual 120, 3) := by decide +kernel
theorem d_MO_fault_4 : decode prog_11_method_11_code 4 = .ok (.ireturn, 1) := by decide +kernel
theorem d_MO_organ_0 : decode prog_11_method_12_code 0 = .ok (.aload_n 0, 1) := by decide +kernel
theorem d_MO_organ_1 : decode prog_11_method_12_code 1 = .ok (.invokevirtual 120, 3) := by decide +kernel
theorem d_MO_organ_4 : decode prog_11_method_12_code 4 = .ok (.bipush (-9), 2) := by decide +kernel
theorem d_MO_organ_6 : decode prog_11_method_12_code 6 = .ok (.if_icmp .eq 6, 3) := by decide +kernel
theorem d_MO_organ_9 : decode prog_11_method_12_code 9 = .ok (.bipush (-3), 2) := by decide +kernel
theorem d_MO_organ_11 : decode prog_11_method_12_code 11 = .ok (.ireturn, 1) := by decide +kernel
theorem d_MO_organ_12 : decode prog_11_method_12_code 12 = .ok (.aload_n 0, 1) := by decide +kernel
theorem d_MO_organ_13 : decode prog_11_method_12_code 13 = .ok (.aload_n 0, 1) := by decide +kernel
theorem d_MO_organ_14 : decode prog_11_method_12_code 14 = .ok (.getfield 99, 3) := by decide +kernel
theorem d_MO_organ_17 : decode prog_11_method_12_code 17 = .ok (.putfield 69, 3) := by decide +kernel
theorem d_MO_organ_20 : decode prog_11_method_12_code 20 = .ok (.aload_n 0, 1) := by decide +kernel
theorem d_MO_organ_21 : decode prog_11_method_12_code 21 = .ok (.aload_n 0, 1) := by decide +kernel
theorem d_MO_organ_22 : decode prog_11_method_12_code 22 = .ok (.getfield 102, 3) := by decide +kernel
theorem d_MO_organ_25 : decode prog_11_method_12_code 25 = .ok (.putfield 123, 3) := by decide +kernel
theorem d_MO_organ_28 : decode prog_11_method_12_code 28 = .ok (.aload_n 0, 1) := by decide +kernel
theorem d_MO_organ_29 : decode prog_11_method_12_code 29 = .ok (.aload_n 0, 1) := by decide +kernel
theorem d_MO_organ_30 : decode prog_11_method_12_code 30 = .ok (.getfield 105, 3) := by decide +kernel
theorem d_MO_organ_33 : decode prog_11_method_12_code 33 = .ok (.putfield 126, 3) := by decide +kernel
theorem d_MO_organ_36 : decode prog_11_method_12_code 36 = .ok (.iconst 0, 1) := by decide +kernel
theorem d_MO_organ_37 : decode prog_11_method_12_code 37 = .ok (.istore_n 1, 1) := by decide +kernel
theorem d_MO_organ_38 : decode prog_11_method_12_code 38 = .ok (.iload_n 1, 1) := by decide +kernel
theorem d_MO_organ_39 : decode prog_11_method_12_code 39 = .ok (.bipush 6, 2) := by decide +kernel
theorem d_MO_organ_41 : decode prog_11_method_12_code 41 = .ok (.if_icmp .ge 21, 3) := by decide +kernel
theorem d_MO_organ_44 : decode prog_11_method_12_code 44 = .ok (.aload_n 0, 1) := by decide +kernel
theorem d_MO_organ_45 : decode prog_11_method_12_code 45 = .ok (.getfield 19, 3) := by decide +kernel
theorem d_MO_organ_48 : decode prog_11_method_12_code 48 = .ok (.iload_n 1, 1) := by decide +kernel
theorem d_MO_organ_49 : decode prog_11_method_12_code 49 = .ok (.aload_n 0, 1) := by decide +kernel
theorem d_MO_organ_50 : decode prog_11_method_12_code 50 = .ok (.getfield 7, 3) := by decide +kernel
theorem d_MO_organ_53 : decode prog_11_method_12_code 53 = .ok (.iload_n 1, 1) := by decide +kernel
theorem d_MO_organ_54 : decode prog_11_method_12_code 54 = .ok (.iaload, 1) := by decide +kernel
theorem d_MO_organ_55 : decode prog_11_method_12_code 55 = .ok (.iastore, 1) := by decide +kernel
theorem d_MO_organ_56 : decode prog_11_method_12_code 56 = .ok (.iinc 1 1, 3) := by decide +kernel
theorem d_MO_organ_59 : decode prog_11_method_12_code 59 = .ok (.goto (-21), 3) := by decide +kernel
theorem d_MO_organ_62 : decode prog_11_method_12_code 62 = .ok (.iconst 0, 1) := by decide +kernel
theorem d_MO_organ_63 : decode prog_11_method_12_code 63 = .ok (.istore_n 1, 1) := by decide +kernel
theorem d_MO_organ_64 : decode prog_11_method_12_code 64 = .ok (.iload_n 1, 1) := by decide +kernel
theorem d_MO_organ_65 : decode prog_11_method_12_code 65 = .ok (.bipush 60, 2) := by decide +kernel
theorem d_MO_organ_67 : decode prog_11_method_12_code 67 = .ok (.if_icmp .ge 21, 3) := by decide +kernel
theorem d_MO_organ_70 : decode prog_11_method_12_code 70 = .ok (.aload_n 0, 1) := by decide +kernel
theorem d_MO_organ_71 : decode prog_11_method_12_code 71 = .ok (.getfield 22, 3) := by decide +kernel
theorem d_MO_organ_74 : decode prog_11_method_12_code 74 = .ok (.iload_n 1, 1) := by decide +kernel
theorem d_MO_organ_75 : decode prog_11_method_12_code 75 = .ok (.aload_n 0, 1) := by decide +kernel
theorem d_MO_organ_76 : decode prog_11_method_12_code 76 = .ok (.getfield 13, 3) := by decide +kernel
theorem d_MO_organ_79 : decode prog_11_method_12_code 79 = .ok (.iload_n 1, 1) := by decide +kernel
theorem d_MO_organ_80 : decode prog_11_method_12_code 80 = .ok (.iaload, 1) := by decide +kernel
theorem d_MO_organ_81 : decode prog_11_method_12_code 81 = .ok (.iastore, 1) := by decide +kernel
theorem d_MO_organ_82 : decode prog_11_method_12_code 82 = .ok (.iinc 1 1, 3) := by decide +kernel
theorem d_MO_organ_85 : decode prog_11_method_12_code 85 = .ok (.goto (-21), 3) := by decide +kernel
theorem d_MO_organ_88 : decode prog_11_method_12_code 88 = .ok (.iconst 0, 1) := by decide +kernel
theorem d_MO_organ_89 : decode prog_11_method_12_code 89 = .ok (.istore_n 1, 1) := by decide +kernel
theorem d_MO_organ_90 : decode prog_11_method_12_code 90 = .ok (.iload_n 1, 1) := by decide +kernel
theorem d_MO_organ_91 : decode prog_11_method_12_code 91 = .ok (.bipush 24, 2) := by decide +kernel
theorem d_MO_organ_93 : decode prog_11_method_12_code 93 = .ok (.if_icmp .ge 21, 3) := by decide +kernel
theorem d_MO_organ_96 : decode prog_11_method_12_code 96 = .ok (.aload_n 0, 1) := by decide +kernel
theorem d_MO_organ_97 : decode prog_11_method_12_code 97 = .ok (.getfield 25, 3) := by decide +kernel
theorem d_MO_organ_100 : decode prog_11_method_12_code 100 = .ok (.iload_n 1, 1) := by decide +kernel
theorem d_MO_organ_101 : decode prog_11_method_12_code 101 = .ok (.aload_n 0, 1) := by decide +kernel
theorem d_MO_organ_102 : decode prog_11_method_12_code 102 = .ok (.getfield 16, 3) := by decide +kernel
theorem d_MO_organ_105 : decode prog_11_method_12_code 105 = .ok (.iload_n 1, 1) := by decide +kernel
theorem d_MO_organ_106 : decode prog_11_method_12_code 106 = .ok (.iaload, 1) := by decide +kernel
theorem d_MO_organ_107 : decode prog_11_method_12_code 107 = .ok (.iastore, 1) := by decide +kernel
theorem d_MO_organ_108 : decode prog_11_method_12_code 108 = .ok (.iinc 1 1, 3) := by decide +kernel
theorem d_MO_organ_111 : decode prog_11_method_12_code 111 = .ok (.goto (-21), 3) := by decide +kernel
theorem d_MO_organ_114 : decode prog_11_method_12_code 114 = .ok (.aload_n 0, 1) := by decide +kernel
theorem d_MO_organ_115 : decode prog_11_method_12_code 115 = .ok (.iconst 0, 1) := by decide +kernel
theorem d_MO_organ_116 : decode prog_11_method_12_code 116 = .ok (.putfield 129, 3) := by decide +kernel
theorem d_MO_organ_119 : decode prog_11_method_12_code 119 = .ok (.aload_n 0, 1) := by decide +kernel
theorem d_MO_organ_120 : decode prog_11_method_12_code 120 = .ok (.iconst 0, 1) := by decide +kernel
theorem d_MO_organ_121 : decode prog_11_method_12_code 121 = .ok (.putfield 132, 3) := by decide +kernel
theorem d_MO_organ_124 : decode prog_11_method_12_code 124 = .ok (.aload_n 0, 1) := by decide +kernel
theorem d_MO_organ_125 : decode prog_11_method_12_code 125 = .ok (.getfield 59, 3) := by decide +kernel
theorem d_MO_organ_128 : decode prog_11_method_12_code 128 = .ok (.iconst 0, 1) := by decide +kernel
theorem d_MO_organ_129 : decode prog_11_method_12_code 129 = .ok (.iconst 0, 1) := by decide +kernel
theorem d_MO_organ_130 : decode prog_11_method_12_code 130 = .ok (.bastore, 1) := by decide +kernel
theorem d_MO_organ_131 : decode prog_11_method_12_code 131 = .ok (.aload_n 0, 1) := by decide +kernel
theorem d_MO_organ_132 : decode prog_11_method_12_code 132 = .ok (.getfield 59, 3) := by decide +kernel
theorem d_MO_organ_135 : decode prog_11_method_12_code 135 = .ok (.iconst 1, 1) := by decide +kernel
theorem d_MO_organ_136 : decode prog_11_method_12_code 136 = .ok (.iconst 0, 1) := by decide +kernel
theorem d_MO_organ_137 : decode prog_11_method_12_code 137 = .ok (.bastore, 1) := by decide +kernel
theorem d_MO_organ_138 : decode prog_11_method_12_code 138 = .ok (.bipush 100, 2) := by decide +kernel
theorem d_MO_organ_140 : decode prog_11_method_12_code 140 = .ok (.aload_n 0, 1) := by decide +kernel
theorem d_MO_organ_141 : decode prog_11_method_12_code 141 = .ok (.getfield 69, 3) := by decide +kernel
theorem d_MO_organ_144 : decode prog_11_method_12_code 144 = .ok (.imul, 1) := by decide +kernel
theorem d_MO_organ_145 : decode prog_11_method_12_code 145 = .ok (.aload_n 0, 1) := by decide +kernel
theorem d_MO_organ_146 : decode prog_11_method_12_code 146 = .ok (.getfield 123, 3) := by decide +kernel
theorem d_MO_organ_149 : decode prog_11_method_12_code 149 = .ok (.iadd, 1) := by decide +kernel
theorem d_MO_organ_150 : decode prog_11_method_12_code 150 = .ok (.ireturn, 1) := by decide +kernel
theorem d_MO_isPipe_0 : decode prog_11_method_13_code 0 = .ok (.iload_n 1, 1) := by decide +kernel
theorem d_MO_isPipe_1 : decode prog_11_method_13_code 1 = .ok (.i2l, 1) := by decide +kernel
theorem d_MO_isPipe_2 : decode prog_11_method_13_code 2 = .ok (.lconst 0, 1) := by decide +kernel
theorem d_MO_isPipe_3 : decode prog_11_method_13_code 3 = .ok (.aload_n 0, 1) := by decide +kernel
theorem d_MO_isPipe_4 : decode prog_11_method_13_code 4 = .ok (.getfield 69, 3) := by decide +kernel
theorem d_MO_isPipe_7 : decode prog_11_method_13_code 7 = .ok (.iconst 1, 1) := by decide +kernel
theorem d_MO_isPipe_8 : decode prog_11_method_13_code 8 = .ok (.isub, 1) := by decide +kernel
theorem d_MO_isPipe_9 : decode prog_11_method_13_code 9 = .ok (.i2l, 1) := by decide +kernel
theorem d_MO_isPipe_10 : decode prog_11_method_13_code 10 = .ok (.invokestatic 75, 3) := by decide +kernel
theorem d_MO_isPipe_13 : decode prog_11_method_13_code 13 = .ok (.ireturn, 1) := by decide +kernel
theorem d_MO_isPerson_0 : decode prog_11_method_14_code 0 = .ok (.iload_n 1, 1) := by decide +kernel
theorem d_MO_isPerson_1 : decode prog_11_method_14_code 1 = .ok (.i2l, 1) := by decide +kernel
theorem d_MO_isPerson_2 : decode prog_11_method_14_code 2 = .ok (.lconst 0, 1) := by decide +kernel
theorem d_MO_isPerson_3 : decode prog_11_method_14_code 3 = .ok (.aload_n 0, 1) := by decide +kernel
theorem d_MO_isPerson_4 : decode prog_11_method_14_code 4 = .ok (.getfield 123, 3) := by decide +kernel
theorem d_MO_isPerson_7 : decode prog_11_method_14_code 7 = .ok (.iconst 1, 1) := by decide +kernel
theorem d_MO_isPerson_8 : decode prog_11_method_14_code 8 = .ok (.isub, 1) := by decide +kernel
theorem d_MO_isPerson_9 : decode prog_11_method_14_code 9 = .ok (.i2l, 1) := by decide +kernel
theorem d_MO_isPerson_10 : decode prog_11_method_14_code 10 = .ok (.invokestatic 75, 3) := by decide +kernel
theorem d_MO_isPerson_13 : decode prog_11_method_14_code 13 = .ok (.ireturn, 1) := by decide +kernel
theorem d_MO_isBeat_0 : decode prog_11_method_15_code 0 = .ok (.iload_n 1, 1) := by decide +kernel
theorem d_MO_isBeat_1 : decode prog_11_method_15_code 1 = .ok (.i2l, 1) := by decide +kernel
theorem d_MO_isBeat_2 : decode prog_11_method_15_code 2 = .ok (.lconst 0, 1) := by decide +kernel
theorem d_MO_isBeat_3 : decode prog_11_method_15_code 3 = .ok (.aload_n 0, 1) := by decide +kernel
theorem d_MO_isBeat_4 : decode prog_11_method_15_code 4 = .ok (.getfield 126, 3) := by decide +kernel
theorem d_MO_isBeat_7 : decode prog_11_method_15_code 7 = .ok (.iconst 1, 1) := by decide +kernel
theorem d_MO_isBeat_8 : decode prog_11_method_15_code 8 = .ok (.isub, 1) := by decide +kernel
theorem d_MO_isBeat_9 : decode prog_11_method_15_code 9 = .ok (.i2l, 1) := by decide +kernel
theorem d_MO_isBeat_10 : decode prog_11_method_15_code 10 = .ok (.invokestatic 75, 3) := by decide +kernel
theorem d_MO_isBeat_13 : decode prog_11_method_15_code 13 = .ok (.ireturn, 1) := by decide +kernel
theorem d_MO_drinks_0 : decode prog_11_method_16_code 0 = .ok (.aload_n 0, 1) := by decide +kernel
theorem d_MO_drinks_1 : decode prog_11_method_16_code 1 = .ok (.iload_n 1, 1) := by decide +kernel
theorem d_MO_drinks_2 : decode prog_11_method_16_code 2 = .ok (.invokevirtual 135, 3) := by decide +kernel
theorem d_MO_drinks_5 : decode prog_11_method_16_code 5 = .ok (.ifCond .eq 12, 3) := by decide +kernel
theorem d_MO_drinks_8 : decode prog_11_method_16_code 8 = .ok (.aload_n 0, 1) := by decide +kernel
theorem d_MO_drinks_9 : decode prog_11_method_16_code 9 = .ok (.getfield 19, 3) := by decide +kernel
theorem d_MO_drinks_12 : decode prog_11_method_16_code 12 = .ok (.iload_n 1, 1) := by decide +kernel
theorem d_MO_drinks_13 : decode prog_11_method_16_code 13 = .ok (.iaload, 1) := by decide +kernel
theorem d_MO_drinks_14 : decode prog_11_method_16_code 14 = .ok (.goto 4, 3) := by decide +kernel
theorem d_MO_drinks_17 : decode prog_11_method_16_code 17 = .ok (.iconst (-1), 1) := by decide +kernel
theorem d_MO_drinks_18 : decode prog_11_method_16_code 18 = .ok (.ireturn, 1) := by decide +kernel
theorem d_MO_sounds_0 : decode prog_11_method_17_code 0 = .ok (.aload_n 0, 1) := by decide +kernel
theorem d_MO_sounds_1 : decode prog_11_method_17_code 1 = .ok (.iload_n 1, 1) := by decide +kernel
theorem d_MO_sounds_2 : decode prog_11_method_17_code 2 = .ok (.invokevirtual 135, 3) := by decide +kernel
theorem d_MO_sounds_5 : decode prog_11_method_17_code 5 = .ok (.ifCond .eq 24, 3) := by decide +kernel
theorem d_MO_sounds_8 : decode prog_11_method_17_code 8 = .ok (.aload_n 0, 1) := by decide +kernel
theorem d_MO_sounds_9 : decode prog_11_method_17_code 9 = .ok (.iload_n 2, 1) := by decide +kernel
theorem d_MO_sounds_10 : decode prog_11_method_17_code 10 = .ok (.invokevirtual 139, 3) := by decide +kernel
theorem d_MO_sounds_13 : decode prog_11_method_17_code 13 = .ok (.ifCond .eq 16, 3) := by decide +kernel
theorem d_MO_sounds_16 : decode prog_11_method_17_code 16 = .ok (.aload_n 0, 1) := by decide +kernel
theorem d_MO_sounds_17 : decode prog_11_method_17_code 17 = .ok (.getfield 25, 3) := by decide +kernel
theorem d_MO_sounds_20 : decode prog_11_method_17_code 20 = .ok (.iload_n 2, 1) := by decide +kernel
theorem d_MO_sounds_21 : decode prog_11_method_17_code 21 = .ok (.iaload, 1) := by decide +kernel
theorem d_MO_sounds_22 : decode prog_11_method_17_code 22 = .ok (.iload_n 1, 1) := by decide +kernel
theorem d_MO_sounds_23 : decode prog_11_method_17_code 23 = .ok (.ishr, 1) := by decide +kernel
theorem d_MO_sounds_24 : decode prog_11_method_17_code 24 = .ok (.iconst 1, 1) := by decide +kernel
theorem d_MO_sounds_25 : decode prog_11_method_17_code 25 = .ok (.iand, 1) := by decide +kernel
theorem d_MO_sounds_26 : decode prog_11_method_17_code 26 = .ok (.goto 4, 3) := by decide +kernel
theorem d_MO_sounds_29 : decode prog_11_method_17_code 29 = .ok (.iconst (-1), 1) := by decide +kernel
theorem d_MO_sounds_30 : decode prog_11_method_17_code 30 = .ok (.ireturn, 1) := by decide +kernel
theorem d_MO_person_0 : decode prog_11_method_18_code 0 = .ok (.aload_n 0, 1) := by decide +kernel
theorem d_MO_person_1 : decode prog_11_method_18_code 1 = .ok (.iload_n 1, 1) := by decide +kernel
theorem d_MO_person_2 : decode prog_11_method_18_code 2 = .ok (.invokevirtual 142, 3) := by decide +kernel
theorem d_MO_person_5 : decode prog_11_method_18_code 5 = .ok (.ifCond .ne 5, 3) := by decide +kernel
theorem d_MO_person_8 : decode prog_11_method_18_code 8 = .ok (.iconst (-1), 1) := by decide +kernel
theorem d_MO_person_9 : decode prog_11_method_18_code 9 = .ok (.ireturn, 1) := by decide +kernel
theorem d_MO_person_10 : decode prog_11_method_18_code 10 = .ok (.iload_n 2, 1) := by decide +kernel
theorem d_MO_person_11 : decode prog_11_method_18_code 11 = .ok (.i2l, 1) := by decide +kernel
theorem d_MO_person_12 : decode prog_11_method_18_code 12 = .ok (.lconst 0, 1) := by decide +kernel
theorem d_MO_person_13 : decode prog_11_method_18_code 13 = .ok (.ldc2_w 145, 3) := by decide +kernel
theorem d_MO_person_16 : decode prog_11_method_18_code 16 = .ok (.invokestatic 75, 3) := by decide +kernel
theorem d_MO_person_19 : decode prog_11_method_18_code 19 = .ok (.ifCond .eq 16, 3) := by decide +kernel
theorem d_MO_person_22 : decode prog_11_method_18_code 22 = .ok (.aload_n 0, 1) := by decide +kernel
theorem d_MO_person_23 : decode prog_11_method_18_code 23 = .ok (.getfield 22, 3) := by decide +kernel
theorem d_MO_person_26 : decode prog_11_method_18_code 26 = .ok (.iconst 5, 1) := by decide +kernel
theorem d_MO_person_27 : decode prog_11_method_18_code 27 = .ok (.iload_n 1, 1) := by decide +kernel
theorem d_MO_person_28 : decode prog_11_method_18_code 28 = .ok (.imul, 1) := by decide +kernel
theorem d_MO_person_29 : decode prog_11_method_18_code 29 = .ok (.iload_n 2, 1) := by decide +kernel
theorem d_MO_person_30 : decode prog_11_method_18_code 30 = .ok (.iadd, 1) := by decide +kernel
theorem d_MO_person_31 : decode prog_11_method_18_code 31 = .ok (.iaload, 1) := by decide +kernel
theorem d_MO_person_32 : decode prog_11_method_18_code 32 = .ok (.goto 5, 3) := by decide +kernel
theorem d_MO_person_35 : decode prog_11_method_18_code 35 = .ok (.bipush (-2), 2) := by decide +kernel
theorem d_MO_person_37 : decode prog_11_method_18_code 37 = .ok (.ireturn, 1) := by decide +kernel
theorem d_MO_tell_0 : decode prog_11_method_19_code 0 = .ok (.aload_n 0, 1) := by decide +kernel
theorem d_MO_tell_1 : decode prog_11_method_19_code 1 = .ok (.getfield 22, 3) := by decide +kernel
theorem d_MO_tell_4 : decode prog_11_method_19_code 4 = .ok (.iload_n 1, 1) := by decide +kernel
theorem d_MO_tell_5 : decode prog_11_method_19_code 5 = .ok (.iaload, 1) := by decide +kernel
theorem d_MO_tell_6 : decode prog_11_method_19_code 6 = .ok (.istore_n 3, 1) := by decide +kernel
theorem d_MO_tell_7 : decode prog_11_method_19_code 7 = .ok (.aload_n 0, 1) := by decide +kernel
theorem d_MO_tell_8 : decode prog_11_method_19_code 8 = .ok (.getfield 22, 3) := by decide +kernel
theorem d_MO_tell_11 : decode prog_11_method_19_code 11 = .ok (.iload_n 1, 1) := by decide +kernel
theorem d_MO_tell_12 : decode prog_11_method_19_code 12 = .ok (.iload_n 2, 1) := by decide +kernel
theorem d_MO_tell_13 : decode prog_11_method_19_code 13 = .ok (.iastore, 1) := by decide +kernel
theorem d_MO_tell_14 : decode prog_11_method_19_code 14 = .ok (.iload_n 3, 1) := by decide +kernel
theorem d_MO_tell_15 : decode prog_11_method_19_code 15 = .ok (.ireturn, 1) := by decide +kernel
theorem d_MO_seat_0 : decode prog_11_method_20_code 0 = .ok (.aload_n 0, 1) := by decide +kernel
theorem d_MO_seat_1 : decode prog_11_method_20_code 1 = .ok (.iload_n 1, 1) := by decide +kernel
theorem d_MO_seat_2 : decode prog_11_method_20_code 2 = .ok (.invokevirtual 142, 3) := by decide +kernel
theorem d_MO_seat_5 : decode prog_11_method_20_code 5 = .ok (.ifCond .eq 24, 3) := by decide +kernel
theorem d_MO_seat_8 : decode prog_11_method_20_code 8 = .ok (.aload_n 0, 1) := by decide +kernel
theorem d_MO_seat_9 : decode prog_11_method_20_code 9 = .ok (.iload_n 2, 1) := by decide +kernel
theorem d_MO_seat_10 : decode prog_11_method_20_code 10 = .ok (.invokevirtual 135, 3) := by decide +kernel
theorem d_MO_seat_13 : decode prog_11_method_20_code 13 = .ok (.ifCond .eq 16, 3) := by decide +kernel
theorem d_MO_seat_16 : decode prog_11_method_20_code 16 = .ok (.aload_n 0, 1) := by decide +kernel
theorem d_MO_seat_17 : decode prog_11_method_20_code 17 = .ok (.iconst 5, 1) := by decide +kernel
theorem d_MO_seat_18 : decode prog_11_method_20_code 18 = .ok (.iload_n 1, 1) := by decide +kernel
theorem d_MO_seat_19 : decode prog_11_method_20_code 19 = .ok (.imul, 1) := by decide +kernel
theorem d_MO_seat_20 : decode prog_11_method_20_code 20 = .ok (.iconst 2, 1) := by decide +kernel
theorem d_MO_seat_21 : decode prog_11_method_20_code 21 = .ok (.iadd, 1) := by decide +kernel
theorem d_MO_seat_22 : decode prog_11_method_20_code 22 = .ok (.iload_n 2, 1) := by decide +kernel
theorem d_MO_seat_23 : decode prog_11_method_20_code 23 = .ok (.invokevirtual 147, 3) := by decide +kernel
theorem d_MO_seat_26 : decode prog_11_method_20_code 26 = .ok (.goto 4, 3) := by decide +kernel
theorem d_MO_seat_29 : decode prog_11_method_20_code 29 = .ok (.iconst (-1), 1) := by decide +kernel
theorem d_MO_seat_30 : decode prog_11_method_20_code 30 = .ok (.ireturn, 1) := by decide +kernel
theorem d_MO_phase_0 : decode prog_11_method_21_code 0 = .ok (.aload_n 0, 1) := by decide +kernel
theorem d_MO_phase_1 : decode prog_11_method_21_code 1 = .ok (.iload_n 1, 1) := by decide +kernel
theorem d_MO_phase_2 : decode prog_11_method_21_code 2 = .ok (.invokevirtual 142, 3) := by decide +kernel
theorem d_MO_phase_5 : decode prog_11_method_21_code 5 = .ok (.ifCond .ne 5, 3) := by decide +kernel
theorem d_MO_phase_8 : decode prog_11_method_21_code 8 = .ok (.iconst (-1), 1) := by decide +kernel
theorem d_MO_phase_9 : decode prog_11_method_21_code 9 = .ok (.ireturn, 1) := by decide +kernel
theorem d_MO_phase_10 : decode prog_11_method_21_code 10 = .ok (.iload_n 2, 1) := by decide +kernel
theorem d_MO_phase_11 : decode prog_11_method_21_code 11 = .ok (.i2l, 1) := by decide +kernel
theorem d_MO_phase_12 : decode prog_11_method_21_code 12 = .ok (.lconst 0, 1) := by decide +kernel
theorem d_MO_phase_13 : decode prog_11_method_21_code 13 = .ok (.aload_n 0, 1) := by decide +kernel
theorem d_MO_phase_14 : decode prog_11_method_21_code 14 = .ok (.getfield 22, 3) := by decide +kernel
theorem d_MO_phase_17 : decode prog_11_method_21_code 17 = .ok (.iconst 5, 1) := by decide +kernel
theorem d_MO_phase_18 : decode prog_11_method_21_code 18 = .ok (.iload_n 1, 1) := by decide +kernel
theorem d_MO_phase_19 : decode prog_11_method_21_code 19 = .ok (.imul, 1) := by decide +kernel
theorem d_MO_phase_20 : decode prog_11_method_21_code 20 = .ok (.iaload, 1) := by decide +kernel
theorem d_MO_phase_21 : decode prog_11_method_21_code 21 = .ok (.i2l, 1) := by decide +kernel
theorem d_MO_phase_22 : decode prog_11_method_21_code 22 = .ok (.invokestatic 75, 3) := by decide +kernel
theorem d_MO_phase_25 : decode prog_11_method_21_code 25 = .ok (.ifCond .eq 16, 3) := by decide +kernel
theorem d_MO_phase_28 : decode prog_11_method_21_code 28 = .ok (.aload_n 0, 1) := by decide +kernel
theorem d_MO_phase_29 : decode prog_11_method_21_code 29 = .ok (.iconst 5, 1) := by decide +kernel
theorem d_MO_phase_30 : decode prog_11_method_21_code 30 = .ok (.iload_n 1, 1) := by decide +kernel
theorem d_MO_phase_31 : decode prog_11_method_21_code 31 = .ok (.imul, 1) := by decide +kernel
theorem d_MO_phase_32 : decode prog_11_method_21_code 32 = .ok (.iconst 3, 1) := by decide +kernel
theorem d_MO_phase_33 : decode prog_11_method_21_code 33 = .ok (.iadd, 1) := by decide +kernel
theorem d_MO_phase_34 : decode prog_11_method_21_code 34 = .ok (.iload_n 2, 1) := by decide +kernel
theorem d_MO_phase_35 : decode prog_11_method_21_code 35 = .ok (.invokevirtual 147, 3) := by decide +kernel
theorem d_MO_phase_38 : decode prog_11_method_21_code 38 = .ok (.goto 5, 3) := by decide +kernel
theorem d_MO_phase_41 : decode prog_11_method_21_code 41 = .ok (.bipush (-2), 2) := by decide +kernel
theorem d_MO_phase_43 : decode prog_11_method_21_code 43 = .ok (.ireturn, 1) := by decide +kernel
theorem d_MO_bribe_0 : decode prog_11_method_22_code 0 = .ok (.aload_n 0, 1) := by decide +kernel
theorem d_MO_bribe_1 : decode prog_11_method_22_code 1 = .ok (.iload_n 1, 1) := by decide +kernel
theorem d_MO_bribe_2 : decode prog_11_method_22_code 2 = .ok (.invokevirtual 142, 3) := by decide +kernel
theorem d_MO_bribe_5 : decode prog_11_method_22_code 5 = .ok (.ifCond .ne 5, 3) := by decide +kernel
theorem d_MO_bribe_8 : decode prog_11_method_22_code 8 = .ok (.iconst (-1), 1) := by decide +kernel
theorem d_MO_bribe_9 : decode prog_11_method_22_code 9 = .ok (.ireturn, 1) := by decide +kernel
theorem d_MO_bribe_10 : decode prog_11_method_22_code 10 = .ok (.aload_n 0, 1) := by decide +kernel
theorem d_MO_bribe_11 : decode prog_11_method_22_code 11 = .ok (.iconst 5, 1) := by decide +kernel
theorem d_MO_bribe_12 : decode prog_11_method_22_code 12 = .ok (.iload_n 1, 1) := by decide +kernel
theorem d_MO_bribe_13 : decode prog_11_method_22_code 13 = .ok (.imul, 1) := by decide +kernel
theorem d_MO_bribe_14 : decode prog_11_method_22_code 14 = .ok (.iconst 4, 1) := by decide +kernel
theorem d_MO_bribe_15 : decode prog_11_method_22_code 15 = .ok (.iadd, 1) := by decide +kernel
theorem d_MO_bribe_16 : decode prog_11_method_22_code 16 = .ok (.iload_n 2, 1) := by decide +kernel
theorem d_MO_bribe_17 : decode prog_11_method_22_code 17 = .ok (.ifCond .eq 7, 3) := by decide +kernel
theorem d_MO_bribe_20 : decode prog_11_method_22_code 20 = .ok (.iconst 1, 1) := by decide +kernel
theorem d_MO_bribe_21 : decode prog_11_method_22_code 21 = .ok (.goto 4, 3) := by decide +kernel
theorem d_MO_bribe_24 : decode prog_11_method_22_code 24 = .ok (.iconst 0, 1) := by decide +kernel
theorem d_MO_bribe_25 : decode prog_11_method_22_code 25 = .ok (.invokevirtual 147, 3) := by decide +kernel
theorem d_MO_bribe_28 : decode prog_11_method_22_code 28 = .ok (.iload_n 2, 1) := by decide +kernel
theorem d_MO_bribe_29 : decode prog_11_method_22_code 29 = .ok (.ifCond .eq 7, 3) := by decide +kernel
theorem d_MO_bribe_32 : decode prog_11_method_22_code 32 = .ok (.iconst 1, 1) := by decide +kernel
theorem d_MO_bribe_33 : decode prog_11_method_22_code 33 = .ok (.goto 4, 3) := by decide +kernel
theorem d_MO_bribe_36 : decode prog_11_method_22_code 36 = .ok (.iconst 0, 1) := by decide +kernel
theorem d_MO_bribe_37 : decode prog_11_method_22_code 37 = .ok (.if_icmp .ne 7, 3) := by decide +kernel
theorem d_MO_bribe_40 : decode prog_11_method_22_code 40 = .ok (.iconst 0, 1) := by decide +kernel
theorem d_MO_bribe_41 : decode prog_11_method_22_code 41 = .ok (.goto 4, 3) := by decide +kernel
theorem d_MO_bribe_44 : decode prog_11_method_22_code 44 = .ok (.iconst 1, 1) := by decide +kernel
theorem d_MO_bribe_45 : decode prog_11_method_22_code 45 = .ok (.ireturn, 1) := by decide +kernel
theorem d_MO_grow_0 : decode prog_11_method_23_code 0 = .ok (.aload_n 0, 1) := by decide +kernel
theorem d_MO_grow_1 : decode prog_11_method_23_code 1 = .ok (.iload_n 1, 1) := by decide +kernel
theorem d_MO_grow_2 : decode prog_11_method_23_code 2 = .ok (.invokevirtual 142, 3) := by decide +kernel
theorem d_MO_grow_5 : decode prog_11_method_23_code 5 = .ok (.ifCond .ne 5, 3) := by decide +kernel
theorem d_MO_grow_8 : decode prog_11_method_23_code 8 = .ok (.iconst (-1), 1) := by decide +kernel
theorem d_MO_grow_9 : decode prog_11_method_23_code 9 = .ok (.ireturn, 1) := by decide +kernel
theorem d_MO_grow_10 : decode prog_11_method_23_code 10 = .ok (.aload_n 0, 1) := by decide +kernel
theorem d_MO_grow_11 : decode prog_11_method_23_code 11 = .ok (.getfield 22, 3) := by decide +kernel
theorem d_MO_grow_14 : decode prog_11_method_23_code 14 = .ok (.iconst 5, 1) := by decide +kernel
theorem d_MO_grow_15 : decode prog_11_method_23_code 15 = .ok (.iload_n 1, 1) := by decide +kernel
theorem d_MO_grow_16 : decode prog_11_method_23_code 16 = .ok (.imul, 1) := by decide +kernel
theorem d_MO_grow_17 : decode prog_11_method_23_code 17 = .ok (.iaload, 1) := by decide +kernel
theorem d_MO_grow_18 : decode prog_11_method_23_code 18 = .ok (.bipush 9, 2) := by decide +kernel
theorem d_MO_grow_20 : decode prog_11_method_23_code 20 = .ok (.if_icmp .ne 6, 3) := by decide +kernel
theorem d_MO_grow_23 : decode prog_11_method_23_code 23 = .ok (.bipush (-3), 2) := by decide +kernel
theorem d_MO_grow_25 : decode prog_11_method_23_code 25 = .ok (.ireturn, 1) := by decide +kernel
theorem d_MO_grow_26 : decode prog_11_method_23_code 26 = .ok (.aload_n 0, 1) := by decide +kernel
theorem d_MO_grow_27 : decode prog_11_method_23_code 27 = .ok (.getfield 22, 3) := by decide +kernel
theorem d_MO_grow_30 : decode prog_11_method_23_code 30 = .ok (.iconst 5, 1) := by decide +kernel
theorem d_MO_grow_31 : decode prog_11_method_23_code 31 = .ok (.iload_n 1, 1) := by decide +kernel
theorem d_MO_grow_32 : decode prog_11_method_23_code 32 = .ok (.imul, 1) := by decide +kernel
theorem d_MO_grow_33 : decode prog_11_method_23_code 33 = .ok (.dup2, 1) := by decide +kernel
theorem d_MO_grow_34 : decode prog_11_method_23_code 34 = .ok (.iaload, 1) := by decide +kernel
theorem d_MO_grow_35 : decode prog_11_method_23_code 35 = .ok (.iconst 1, 1) := by decide +kernel
theorem d_MO_grow_36 : decode prog_11_method_23_code 36 = .ok (.iadd, 1) := by decide +kernel
theorem d_MO_grow_37 : decode prog_11_method_23_code 37 = .ok (.iastore, 1) := by decide +kernel
theorem d_MO_grow_38 : decode prog_11_method_23_code 38 = .ok (.aload_n 0, 1) := by decide +kernel
theorem d_MO_grow_39 : decode prog_11_method_23_code 39 = .ok (.getfield 22, 3) := by decide +kernel
theorem d_MO_grow_42 : decode prog_11_method_23_code 42 = .ok (.iconst 5, 1) := by decide +kernel
theorem d_MO_grow_43 : decode prog_11_method_23_code 43 = .ok (.iload_n 1, 1) := by decide +kernel
theorem d_MO_grow_44 : decode prog_11_method_23_code 44 = .ok (.imul, 1) := by decide +kernel
theorem d_MO_grow_45 : decode prog_11_method_23_code 45 = .ok (.iaload, 1) := by decide +kernel
theorem d_MO_grow_46 : decode prog_11_method_23_code 46 = .ok (.ireturn, 1) := by decide +kernel
theorem d_MO_store_0 : decode prog_11_method_24_code 0 = .ok (.iload_n 1, 1) := by decide +kernel
theorem d_MO_store_1 : decode prog_11_method_24_code 1 = .ok (.i2l, 1) := by decide +kernel
theorem d_MO_store_2 : decode prog_11_method_24_code 2 = .ok (.lconst 0, 1) := by decide +kernel
theorem d_MO_store_3 : decode prog_11_method_24_code 3 = .ok (.ldc2_w 150, 3) := by decide +kernel
theorem d_MO_store_6 : decode prog_11_method_24_code 6 = .ok (.invokestatic 75, 3) := by decide +kernel
theorem d_MO_store_9 : decode prog_11_method_24_code 9 = .ok (.ifCond .ne 6, 3) := by decide +kernel
theorem d_MO_store_12 : decode prog_11_method_24_code 12 = .ok (.bipush (-2), 2) := by decide +kernel
theorem d_MO_store_14 : decode prog_11_method_24_code 14 = .ok (.ireturn, 1) := by decide +kernel
theorem d_MO_store_15 : decode prog_11_method_24_code 15 = .ok (.aload_n 0, 1) := by decide +kernel
theorem d_MO_store_16 : decode prog_11_method_24_code 16 = .ok (.getfield 132, 3) := by decide +kernel
theorem d_MO_store_19 : decode prog_11_method_24_code 19 = .ok (.istore_n 2, 1) := by decide +kernel
theorem d_MO_store_20 : decode prog_11_method_24_code 20 = .ok (.aload_n 0, 1) := by decide +kernel
theorem d_MO_store_21 : decode prog_11_method_24_code 21 = .ok (.iload_n 1, 1) := by decide +kernel
theorem d_MO_store_22 : decode prog_11_method_24_code 22 = .ok (.putfield 132, 3) := by decide +kernel
theorem d_MO_store_25 : decode prog_11_method_24_code 25 = .ok (.iload_n 2, 1) := by decide +kernel
theorem d_MO_store_26 : decode prog_11_method_24_code 26 = .ok (.ireturn, 1) := by decide +kernel
theorem d_MO_late_0 : decode prog_11_method_25_code 0 = .ok (.iload_n 1, 1) := by decide +kernel
theorem d_MO_late_1 : decode prog_11_method_25_code 1 = .ok (.i2l, 1) := by decide +kernel
theorem d_MO_late_2 : decode prog_11_method_25_code 2 = .ok (.lconst 0, 1) := by decide +kernel
theorem d_MO_late_3 : decode prog_11_method_25_code 3 = .ok (.ldc2_w 152, 3) := by decide +kernel
theorem d_MO_late_6 : decode prog_11_method_25_code 6 = .ok (.invokestatic 75, 3) := by decide +kernel
theorem d_MO_late_9 : decode prog_11_method_25_code 9 = .ok (.ifCond .ne 6, 3) := by decide +kernel
theorem d_MO_late_12 : decode prog_11_method_25_code 12 = .ok (.bipush (-2), 2) := by decide +kernel
theorem d_MO_late_14 : decode prog_11_method_25_code 14 = .ok (.ireturn, 1) := by decide +kernel
theorem d_MO_late_15 : decode prog_11_method_25_code 15 = .ok (.aload_n 0, 1) := by decide +kernel
theorem d_MO_late_16 : decode prog_11_method_25_code 16 = .ok (.getfield 129, 3) := by decide +kernel
theorem d_MO_late_19 : decode prog_11_method_25_code 19 = .ok (.istore_n 2, 1) := by decide +kernel
theorem d_MO_late_20 : decode prog_11_method_25_code 20 = .ok (.aload_n 0, 1) := by decide +kernel
theorem d_MO_late_21 : decode prog_11_method_25_code 21 = .ok (.iload_n 1, 1) := by decide +kernel
theorem d_MO_late_22 : decode prog_11_method_25_code 22 = .ok (.putfield 129, 3) := by decide +kernel
theorem d_MO_late_25 : decode prog_11_method_25_code 25 = .ok (.iload_n 2, 1) := by decide +kernel
theorem d_MO_late_26 : decode prog_11_method_25_code 26 = .ok (.ireturn, 1) := by decide +kernel
theorem d_MO_givesOf_0 : decode prog_11_method_26_code 0 = .ok (.iconst 5, 1) := by decide +kernel
theorem d_MO_givesOf_1 : decode prog_11_method_26_code 1 = .ok (.iload_n 1, 1) := by decide +kernel
theorem d_MO_givesOf_2 : decode prog_11_method_26_code 2 = .ok (.imul, 1) := by decide +kernel
theorem d_MO_givesOf_3 : decode prog_11_method_26_code 3 = .ok (.istore_n 3, 1) := by decide +kernel
theorem d_MO_givesOf_4 : decode prog_11_method_26_code 4 = .ok (.aload_n 0, 1) := by decide +kernel
theorem d_MO_givesOf_5 : decode prog_11_method_26_code 5 = .ok (.getfield 22, 3) := by decide +kernel
theorem d_MO_givesOf_8 : decode prog_11_method_26_code 8 = .ok (.iload_n 3, 1) := by decide +kernel
theorem d_MO_givesOf_9 : decode prog_11_method_26_code 9 = .ok (.iaload, 1) := by decide +kernel
theorem d_MO_givesOf_10 : decode prog_11_method_26_code 10 = .ok (.istore 4, 2) := by decide +kernel
theorem d_MO_givesOf_12 : decode prog_11_method_26_code 12 = .ok (.iload_n 2, 1) := by decide +kernel
theorem d_MO_givesOf_13 : decode prog_11_method_26_code 13 = .ok (.aload_n 0, 1) := by decide +kernel
theorem d_MO_givesOf_14 : decode prog_11_method_26_code 14 = .ok (.getfield 129, 3) := by decide +kernel
theorem d_MO_givesOf_17 : decode prog_11_method_26_code 17 = .ok (.iadd, 1) := by decide +kernel
theorem d_MO_givesOf_18 : decode prog_11_method_26_code 18 = .ok (.aload_n 0, 1) := by decide +kernel
theorem d_MO_givesOf_19 : decode prog_11_method_26_code 19 = .ok (.getfield 22, 3) := by decide +kernel
theorem d_MO_givesOf_22 : decode prog_11_method_26_code 22 = .ok (.iload_n 3, 1) := by decide +kernel
theorem d_MO_givesOf_23 : decode prog_11_method_26_code 23 = .ok (.iconst 3, 1) := by decide +kernel
theorem d_MO_givesOf_24 : decode prog_11_method_26_code 24 = .ok (.iadd, 1) := by decide +kernel
theorem d_MO_givesOf_25 : decode prog_11_method_26_code 25 = .ok (.iaload, 1) := by decide +kernel
theorem d_MO_givesOf_26 : decode prog_11_method_26_code 26 = .ok (.iadd, 1) := by decide +kernel
theorem d_MO_givesOf_27 : decode prog_11_method_26_code 27 = .ok (.iload 4, 2) := by decide +kernel
theorem d_MO_givesOf_29 : decode prog_11_method_26_code 29 = .ok (.iconst 1, 1) := by decide +kernel
theorem d_MO_givesOf_30 : decode prog_11_method_26_code 30 = .ok (.iadd, 1) := by decide +kernel
theorem d_MO_givesOf_31 : decode prog_11_method_26_code 31 = .ok (.irem, 1) := by decide +kernel
theorem d_MO_givesOf_32 : decode prog_11_method_26_code 32 = .ok (.iload 4, 2) := by decide +kernel
theorem d_MO_givesOf_34 : decode prog_11_method_26_code 34 = .ok (.if_icmp .ne 7, 3) := by decide +kernel
theorem d_MO_givesOf_37 : decode prog_11_method_26_code 37 = .ok (.iconst 1, 1) := by decide +kernel
theorem d_MO_givesOf_38 : decode prog_11_method_26_code 38 = .ok (.goto 4, 3) := by decide +kernel
theorem d_MO_givesOf_41 : decode prog_11_method_26_code 41 = .ok (.iconst 0, 1) := by decide +kernel
theorem d_MO_givesOf_42 : decode prog_11_method_26_code 42 = .ok (.istore 5, 2) := by decide +kernel
theorem d_MO_givesOf_44 : decode prog_11_method_26_code 44 = .ok (.iload 5, 2) := by decide +kernel
theorem d_MO_givesOf_46 : decode prog_11_method_26_code 46 = .ok (.ifCond .eq 18, 3) := by decide +kernel
theorem d_MO_givesOf_49 : decode prog_11_method_26_code 49 = .ok (.aload_n 0, 1) := by decide +kernel
theorem d_MO_givesOf_50 : decode prog_11_method_26_code 50 = .ok (.getfield 22, 3) := by decide +kernel
theorem d_MO_givesOf_53 : decode prog_11_method_26_code 53 = .ok (.iload_n 3, 1) := by decide +kernel
theorem d_MO_givesOf_54 : decode prog_11_method_26_code 54 = .ok (.iconst 4, 1) := by decide +kernel
theorem d_MO_givesOf_55 : decode prog_11_method_26_code 55 = .ok (.iadd, 1) := by decide +kernel
theorem d_MO_givesOf_56 : decode prog_11_method_26_code 56 = .ok (.iaload, 1) := by decide +kernel
theorem d_MO_givesOf_57 : decode prog_11_method_26_code 57 = .ok (.ifCond .ne 7, 3) := by decide +kernel
theorem d_MO_givesOf_60 : decode prog_11_method_26_code 60 = .ok (.iconst 0, 1) := by decide +kernel
theorem d_MO_givesOf_61 : decode prog_11_method_26_code 61 = .ok (.goto 11, 3) := by decide +kernel
theorem d_MO_givesOf_64 : decode prog_11_method_26_code 64 = .ok (.aload_n 0, 1) := by decide +kernel
theorem d_MO_givesOf_65 : decode prog_11_method_26_code 65 = .ok (.getfield 22, 3) := by decide +kernel
theorem d_MO_givesOf_68 : decode prog_11_method_26_code 68 = .ok (.iload_n 3, 1) := by decide +kernel
theorem d_MO_givesOf_69 : decode prog_11_method_26_code 69 = .ok (.iconst 1, 1) := by decide +kernel
theorem d_MO_givesOf_70 : decode prog_11_method_26_code 70 = .ok (.iadd, 1) := by decide +kernel
theorem d_MO_givesOf_71 : decode prog_11_method_26_code 71 = .ok (.iaload, 1) := by decide +kernel
theorem d_MO_givesOf_72 : decode prog_11_method_26_code 72 = .ok (.ireturn, 1) := by decide +kernel
theorem d_MO_gives_0 : decode prog_11_method_27_code 0 = .ok (.aload_n 0, 1) := by decide +kernel
theorem d_MO_gives_1 : decode prog_11_method_27_code 1 = .ok (.iload_n 1, 1) := by decide +kernel
theorem d_MO_gives_2 : decode prog_11_method_27_code 2 = .ok (.invokevirtual 142, 3) := by decide +kernel
theorem d_MO_gives_5 : decode prog_11_method_27_code 5 = .ok (.ifCond .eq 20, 3) := by decide +kernel
theorem d_MO_gives_8 : decode prog_11_method_27_code 8 = .ok (.aload_n 0, 1) := by decide +kernel
theorem d_MO_gives_9 : decode prog_11_method_27_code 9 = .ok (.iload_n 2, 1) := by decide +kernel
theorem d_MO_gives_10 : decode prog_11_method_27_code 10 = .ok (.invokevirtual 139, 3) := by decide +kernel
theorem d_MO_gives_13 : decode prog_11_method_27_code 13 = .ok (.ifCond .eq 12, 3) := by decide +kernel
theorem d_MO_gives_16 : decode prog_11_method_27_code 16 = .ok (.aload_n 0, 1) := by decide +kernel
theorem d_MO_gives_17 : decode prog_11_method_27_code 17 = .ok (.iload_n 1, 1) := by decide +kernel
theorem d_MO_gives_18 : decode prog_11_method_27_code 18 = .ok (.iload_n 2, 1) := by decide +kernel
theorem d_MO_gives_19 : decode prog_11_method_27_code 19 = .ok (.invokevirtual 154, 3) := by decide +kernel
theorem d_MO_gives_22 : decode prog_11_method_27_code 22 = .ok (.goto 4, 3) := by decide +kernel
theorem d_MO_gives_25 : decode prog_11_method_27_code 25 = .ok (.iconst (-1), 1) := by decide +kernel
theorem d_MO_gives_26 : decode prog_11_method_27_code 26 = .ok (.ireturn, 1) := by decide +kernel
theorem d_MO_airOf_0 : decode prog_11_method_28_code 0 = .ok (.iconst 0, 1) := by decide +kernel
theorem d_MO_airOf_1 : decode prog_11_method_28_code 1 = .ok (.istore_n 3, 1) := by decide +kernel
theorem d_MO_airOf_2 : decode prog_11_method_28_code 2 = .ok (.iconst 0, 1) := by decide +kernel
theorem d_MO_airOf_3 : decode prog_11_method_28_code 3 = .ok (.istore 4, 2) := by decide +kernel
theorem d_MO_airOf_5 : decode prog_11_method_28_code 5 = .ok (.iload 4, 2) := by decide +kernel
theorem d_MO_airOf_7 : decode prog_11_method_28_code 7 = .ok (.aload_n 0, 1) := by decide +kernel
theorem d_MO_airOf_8 : decode prog_11_method_28_code 8 = .ok (.getfield 123, 3) := by decide +kernel
theorem d_MO_airOf_11 : decode prog_11_method_28_code 11 = .ok (.if_icmp .ge 33, 3) := by decide +kernel
theorem d_MO_airOf_14 : decode prog_11_method_28_code 14 = .ok (.iload_n 3, 1) := by decide +kernel
theorem d_MO_airOf_15 : decode prog_11_method_28_code 15 = .ok (.iload_n 1, 1) := by decide +kernel
theorem d_MO_airOf_16 : decode prog_11_method_28_code 16 = .ok (.iload 4, 2) := by decide +kernel
theorem d_MO_airOf_18 : decode prog_11_method_28_code 18 = .ok (.ishr, 1) := by decide +kernel
theorem d_MO_airOf_19 : decode prog_11_method_28_code 19 = .ok (.iconst 1, 1) := by decide +kernel
theorem d_MO_airOf_20 : decode prog_11_method_28_code 20 = .ok (.iand, 1) := by decide +kernel
theorem d_MO_airOf_21 : decode prog_11_method_28_code 21 = .ok (.iconst 1, 1) := by decide +kernel
theorem d_MO_airOf_22 : decode prog_11_method_28_code 22 = .ok (.if_icmp .ne 13, 3) := by decide +kernel
theorem d_MO_airOf_25 : decode prog_11_method_28_code 25 = .ok (.aload_n 0, 1) := by decide +kernel
theorem d_MO_airOf_26 : decode prog_11_method_28_code 26 = .ok (.iload 4, 2) := by decide +kernel
theorem d_MO_airOf_28 : decode prog_11_method_28_code 28 = .ok (.iload_n 2, 1) := by decide +kernel
theorem d_MO_airOf_29 : decode prog_11_method_28_code 29 = .ok (.invokevirtual 154, 3) := by decide +kernel
theorem d_MO_airOf_32 : decode prog_11_method_28_code 32 = .ok (.goto 4, 3) := by decide +kernel
theorem d_MO_airOf_35 : decode prog_11_method_28_code 35 = .ok (.iconst 0, 1) := by decide +kernel
theorem d_MO_airOf_36 : decode prog_11_method_28_code 36 = .ok (.iadd, 1) := by decide +kernel
theorem d_MO_airOf_37 : decode prog_11_method_28_code 37 = .ok (.istore_n 3, 1) := by decide +kernel
theorem d_MO_airOf_38 : decode prog_11_method_28_code 38 = .ok (.iinc 4 1, 3) := by decide +kernel
theorem d_MO_airOf_41 : decode prog_11_method_28_code 41 = .ok (.goto (-36), 3) := by decide +kernel
theorem d_MO_airOf_44 : decode prog_11_method_28_code 44 = .ok (.iload_n 3, 1) := by decide +kernel
theorem d_MO_airOf_45 : decode prog_11_method_28_code 45 = .ok (.ireturn, 1) := by decide +kernel
theorem d_MO_sitters_0 : decode prog_11_method_29_code 0 = .ok (.iconst 0, 1) := by decide +kernel
theorem d_MO_sitters_1 : decode prog_11_method_29_code 1 = .ok (.istore_n 2, 1) := by decide +kernel
theorem d_MO_sitters_2 : decode prog_11_method_29_code 2 = .ok (.iconst 0, 1) := by decide +kernel
theorem d_MO_sitters_3 : decode prog_11_method_29_code 3 = .ok (.istore_n 3, 1) := by decide +kernel
theorem d_MO_sitters_4 : decode prog_11_method_29_code 4 = .ok (.iload_n 3, 1) := by decide +kernel
theorem d_MO_sitters_5 : decode prog_11_method_29_code 5 = .ok (.aload_n 0, 1) := by decide +kernel
theorem d_MO_sitters_6 : decode prog_11_method_29_code 6 = .ok (.getfield 123, 3) := by decide +kernel
theorem d_MO_sitters_9 : decode prog_11_method_29_code 9 = .ok (.if_icmp .ge 33, 3) := by decide +kernel
theorem d_MO_sitters_12 : decode prog_11_method_29_code 12 = .ok (.iload_n 2, 1) := by decide +kernel
theorem d_MO_sitters_13 : decode prog_11_method_29_code 13 = .ok (.aload_n 0, 1) := by decide +kernel
theorem d_MO_sitters_14 : decode prog_11_method_29_code 14 = .ok (.getfield 22, 3) := by decide +kernel
theorem d_MO_sitters_17 : decode prog_11_method_29_code 17 = .ok (.iconst 5, 1) := by decide +kernel
theorem d_MO_sitters_18 : decode prog_11_method_29_code 18 = .ok (.iload_n 3, 1) := by decide +kernel
theorem d_MO_sitters_19 : decode prog_11_method_29_code 19 = .ok (.imul, 1) := by decide +kernel
theorem d_MO_sitters_20 : decode prog_11_method_29_code 20 = .ok (.iconst 2, 1) := by decide +kernel
theorem d_MO_sitters_21 : decode prog_11_method_29_code 21 = .ok (.iadd, 1) := by decide +kernel
theorem d_MO_sitters_22 : decode prog_11_method_29_code 22 = .ok (.iaload, 1) := by decide +kernel
theorem d_MO_sitters_23 : decode prog_11_method_29_code 23 = .ok (.iload_n 1, 1) := by decide +kernel
theorem d_MO_sitters_24 : decode prog_11_method_29_code 24 = .ok (.if_icmp .ne 9, 3) := by decide +kernel
theorem d_MO_sitters_27 : decode prog_11_method_29_code 27 = .ok (.iconst 1, 1) := by decide +kernel
theorem d_MO_sitters_28 : decode prog_11_method_29_code 28 = .ok (.iload_n 3, 1) := by decide +kernel
theorem d_MO_sitters_29 : decode prog_11_method_29_code 29 = .ok (.ishl, 1) := by decide +kernel
theorem d_MO_sitters_30 : decode prog_11_method_29_code 30 = .ok (.goto 4, 3) := by decide +kernel
theorem d_MO_sitters_33 : decode prog_11_method_29_code 33 = .ok (.iconst 0, 1) := by decide +kernel
theorem d_MO_sitters_34 : decode prog_11_method_29_code 34 = .ok (.ior, 1) := by decide +kernel
theorem d_MO_sitters_35 : decode prog_11_method_29_code 35 = .ok (.istore_n 2, 1) := by decide +kernel
theorem d_MO_sitters_36 : decode prog_11_method_29_code 36 = .ok (.iinc 3 1, 3) := by decide +kernel
theorem d_MO_sitters_39 : decode prog_11_method_29_code 39 = .ok (.goto (-35), 3) := by decide +kernel
theorem d_MO_sitters_42 : decode prog_11_method_29_code 42 = .ok (.iload_n 2, 1) := by decide +kernel
theorem d_MO_sitters_43 : decode prog_11_method_29_code 43 = .ok (.ireturn, 1) := by decide +kernel
theorem d_MO_blow_0 : decode prog_11_method_30_code 0 = .ok (.iconst 0, 1) := by decide +kernel
theorem d_MO_blow_1 : decode prog_11_method_30_code 1 = .ok (.istore_n 3, 1) := by decide +kernel
theorem d_MO_blow_2 : decode prog_11_method_30_code 2 = .ok (.iconst 0, 1) := by decide +kernel
theorem d_MO_blow_3 : decode prog_11_method_30_code 3 = .ok (.istore 4, 2) := by decide +kernel
theorem d_MO_blow_5 : decode prog_11_method_30_code 5 = .ok (.iconst 0, 1) := by decide +kernel
theorem d_MO_blow_6 : decode prog_11_method_30_code 6 = .ok (.istore 5, 2) := by decide +kernel
theorem d_MO_blow_8 : decode prog_11_method_30_code 8 = .ok (.iload 5, 2) := by decide +kernel
theorem d_MO_blow_10 : decode prog_11_method_30_code 10 = .ok (.aload_n 0, 1) := by decide +kernel
theorem d_MO_blow_11 : decode prog_11_method_30_code 11 = .ok (.getfield 126, 3) := by decide +kernel
theorem d_MO_blow_14 : decode prog_11_method_30_code 14 = .ok (.if_icmp .ge 131, 3) := by decide +kernel
theorem d_MO_blow_17 : decode prog_11_method_30_code 17 = .ok (.aload_n 0, 1) := by decide +kernel
theorem d_MO_blow_18 : decode prog_11_method_30_code 18 = .ok (.iload_n 2, 1) := by decide +kernel
theorem d_MO_blow_19 : decode prog_11_method_30_code 19 = .ok (.iload 5, 2) := by decide +kernel
theorem d_MO_blow_21 : decode prog_11_method_30_code 21 = .ok (.invokevirtual 157, 3) := by decide +kernel
theorem d_MO_blow_24 : decode prog_11_method_30_code 24 = .ok (.iload 4, 2) := by decide +kernel
theorem d_MO_blow_26 : decode prog_11_method_30_code 26 = .ok (.iadd, 1) := by decide +kernel
theorem d_MO_blow_27 : decode prog_11_method_30_code 27 = .ok (.istore 6, 2) := by decide +kernel
theorem d_MO_blow_29 : decode prog_11_method_30_code 29 = .ok (.aload_n 0, 1) := by decide +kernel
theorem d_MO_blow_30 : decode prog_11_method_30_code 30 = .ok (.getfield 25, 3) := by decide +kernel
theorem d_MO_blow_33 : decode prog_11_method_30_code 33 = .ok (.iload 5, 2) := by decide +kernel
theorem d_MO_blow_35 : decode prog_11_method_30_code 35 = .ok (.iaload, 1) := by decide +kernel
theorem d_MO_blow_36 : decode prog_11_method_30_code 36 = .ok (.iload_n 1, 1) := by decide +kernel
theorem d_MO_blow_37 : decode prog_11_method_30_code 37 = .ok (.ishr, 1) := by decide +kernel
theorem d_MO_blow_38 : decode prog_11_method_30_code 38 = .ok (.iconst 1, 1) := by decide +kernel
theorem d_MO_blow_39 : decode prog_11_method_30_code 39 = .ok (.iand, 1) := by decide +kernel
theorem d_MO_blow_40 : decode prog_11_method_30_code 40 = .ok (.iconst 1, 1) := by decide +kernel
theorem d_MO_blow_41 : decode prog_11_method_30_code 41 = .ok (.if_icmp .ne 7, 3) := by decide +kernel
theorem d_MO_blow_44 : decode prog_11_method_30_code 44 = .ok (.iconst 1, 1) := by decide +kernel
theorem d_MO_blow_45 : decode prog_11_method_30_code 45 = .ok (.goto 4, 3) := by decide +kernel
theorem d_MO_blow_48 : decode prog_11_method_30_code 48 = .ok (.iconst 0, 1) := by decide +kernel
theorem d_MO_blow_49 : decode prog_11_method_30_code 49 = .ok (.istore 7, 2) := by decide +kernel
theorem d_MO_blow_51 : decode prog_11_method_30_code 51 = .ok (.iload 7, 2) := by decide +kernel
theorem d_MO_blow_53 : decode prog_11_method_30_code 53 = .ok (.ifCond .eq 15, 3) := by decide +kernel
theorem d_MO_blow_56 : decode prog_11_method_30_code 56 = .ok (.iload 6, 2) := by decide +kernel
theorem d_MO_blow_58 : decode prog_11_method_30_code 58 = .ok (.aload_n 0, 1) := by decide +kernel
theorem d_MO_blow_59 : decode prog_11_method_30_code 59 = .ok (.getfield 19, 3) := by decide +kernel
theorem d_MO_blow_62 : decode prog_11_method_30_code 62 = .ok (.iload_n 1, 1) := by decide +kernel
theorem d_MO_blow_63 : decode prog_11_method_30_code 63 = .ok (.iaload, 1) := by decide +kernel
theorem d_MO_blow_64 : decode prog_11_method_30_code 64 = .ok (.isub, 1) := by decide +kernel
theorem d_MO_blow_65 : decode prog_11_method_30_code 65 = .ok (.goto 5, 3) := by decide +kernel
theorem d_MO_blow_68 : decode prog_11_method_30_code 68 = .ok (.iload 6, 2) := by decide +kernel
theorem d_MO_blow_70 : decode prog_11_method_30_code 70 = .ok (.istore 8, 2) := by decide +kernel
theorem d_MO_blow_72 : decode prog_11_method_30_code 72 = .ok (.aload_n 0, 1) := by decide +kernel
theorem d_MO_blow_73 : decode prog_11_method_30_code 73 = .ok (.getfield 31, 3) := by decide +kernel
theorem d_MO_blow_76 : decode prog_11_method_30_code 76 = .ok (.iload 5, 2) := by decide +kernel
theorem d_MO_blow_78 : decode prog_11_method_30_code 78 = .ok (.iload 8, 2) := by decide +kernel
theorem d_MO_blow_80 : decode prog_11_method_30_code 80 = .ok (.ifCond .ge 9, 3) := by decide +kernel
theorem d_MO_blow_83 : decode prog_11_method_30_code 83 = .ok (.iload 8, 2) := by decide +kernel
theorem d_MO_blow_85 : decode prog_11_method_30_code 85 = .ok (.ineg, 1) := by decide +kernel
theorem d_MO_blow_86 : decode prog_11_method_30_code 86 = .ok (.goto 4, 3) := by decide +kernel
theorem d_MO_blow_89 : decode prog_11_method_30_code 89 = .ok (.iconst 0, 1) := by decide +kernel
theorem d_MO_blow_90 : decode prog_11_method_30_code 90 = .ok (.iastore, 1) := by decide +kernel
theorem d_MO_blow_91 : decode prog_11_method_30_code 91 = .ok (.iload 8, 2) := by decide +kernel
theorem d_MO_blow_93 : decode prog_11_method_30_code 93 = .ok (.ifCond .ge 7, 3) := by decide +kernel
theorem d_MO_blow_96 : decode prog_11_method_30_code 96 = .ok (.iconst 0, 1) := by decide +kernel
theorem d_MO_blow_97 : decode prog_11_method_30_code 97 = .ok (.goto 21, 3) := by decide +kernel
theorem d_MO_blow_100 : decode prog_11_method_30_code 100 = .ok (.iload 8, 2) := by decide +kernel
theorem d_MO_blow_102 : decode prog_11_method_30_code 102 = .ok (.aload_n 0, 1) := by decide +kernel
theorem d_MO_blow_103 : decode prog_11_method_30_code 103 = .ok (.getfield 132, 3) := by decide +kernel
theorem d_MO_blow_106 : decode prog_11_method_30_code 106 = .ok (.if_icmp .le 10, 3) := by decide +kernel
theorem d_MO_blow_109 : decode prog_11_method_30_code 109 = .ok (.aload_n 0, 1) := by decide +kernel
theorem d_MO_blow_110 : decode prog_11_method_30_code 110 = .ok (.getfield 132, 3) := by decide +kernel
theorem d_MO_blow_113 : decode prog_11_method_30_code 113 = .ok (.goto 5, 3) := by decide +kernel
theorem d_MO_blow_116 : decode prog_11_method_30_code 116 = .ok (.iload 8, 2) := by decide +kernel
theorem d_MO_blow_118 : decode prog_11_method_30_code 118 = .ok (.istore 4, 2) := by decide +kernel
theorem d_MO_blow_120 : decode prog_11_method_30_code 120 = .ok (.aload_n 0, 1) := by decide +kernel
theorem d_MO_blow_121 : decode prog_11_method_30_code 121 = .ok (.getfield 34, 3) := by decide +kernel
theorem d_MO_blow_124 : decode prog_11_method_30_code 124 = .ok (.iload 5, 2) := by decide +kernel
theorem d_MO_blow_126 : decode prog_11_method_30_code 126 = .ok (.iload 4, 2) := by decide +kernel
theorem d_MO_blow_128 : decode prog_11_method_30_code 128 = .ok (.iastore, 1) := by decide +kernel
theorem d_MO_blow_129 : decode prog_11_method_30_code 129 = .ok (.iload_n 3, 1) := by decide +kernel
theorem d_MO_blow_130 : decode prog_11_method_30_code 130 = .ok (.aload_n 0, 1) := by decide +kernel
theorem d_MO_blow_131 : decode prog_11_method_30_code 131 = .ok (.getfield 31, 3) := by decide +kernel
theorem d_MO_blow_134 : decode prog_11_method_30_code 134 = .ok (.iload 5, 2) := by decide +kernel
theorem d_MO_blow_136 : decode prog_11_method_30_code 136 = .ok (.iaload, 1) := by decide +kernel
theorem d_MO_blow_137 : decode prog_11_method_30_code 137 = .ok (.iadd, 1) := by decide +kernel
theorem d_MO_blow_138 : decode prog_11_method_30_code 138 = .ok (.istore_n 3, 1) := by decide +kernel
theorem d_MO_blow_139 : decode prog_11_method_30_code 139 = .ok (.iinc 5 1, 3) := by decide +kernel
theorem d_MO_blow_142 : decode prog_11_method_30_code 142 = .ok (.goto (-134), 3) := by decide +kernel
theorem d_MO_blow_145 : decode prog_11_method_30_code 145 = .ok (.iload_n 3, 1) := by decide +kernel
theorem d_MO_blow_146 : decode prog_11_method_30_code 146 = .ok (.ireturn, 1) := by decide +kernel
theorem d_MO_air_0 : decode prog_11_method_31_code 0 = .ok (.aload_n 0, 1) := by decide +kernel
theorem d_MO_air_1 : decode prog_11_method_31_code 1 = .ok (.iload_n 1, 1) := by decide +kernel
theorem d_MO_air_2 : decode prog_11_method_31_code 2 = .ok (.invokevirtual 135, 3) := by decide +kernel
theorem d_MO_air_5 : decode prog_11_method_31_code 5 = .ok (.ifCond .eq 24, 3) := by decide +kernel
theorem d_MO_air_8 : decode prog_11_method_31_code 8 = .ok (.aload_n 0, 1) := by decide +kernel
theorem d_MO_air_9 : decode prog_11_method_31_code 9 = .ok (.iload_n 2, 1) := by decide +kernel
theorem d_MO_air_10 : decode prog_11_method_31_code 10 = .ok (.invokevirtual 139, 3) := by decide +kernel
theorem d_MO_air_13 : decode prog_11_method_31_code 13 = .ok (.ifCond .eq 16, 3) := by decide +kernel
theorem d_MO_air_16 : decode prog_11_method_31_code 16 = .ok (.aload_n 0, 1) := by decide +kernel
theorem d_MO_air_17 : decode prog_11_method_31_code 17 = .ok (.aload_n 0, 1) := by decide +kernel
theorem d_MO_air_18 : decode prog_11_method_31_code 18 = .ok (.iload_n 1, 1) := by decide +kernel
theorem d_MO_air_19 : decode prog_11_method_31_code 19 = .ok (.invokevirtual 160, 3) := by decide +kernel
theorem d_MO_air_22 : decode prog_11_method_31_code 22 = .ok (.iload_n 2, 1) := by decide +kernel
theorem d_MO_air_23 : decode prog_11_method_31_code 23 = .ok (.invokevirtual 157, 3) := by decide +kernel
theorem d_MO_air_26 : decode prog_11_method_31_code 26 = .ok (.goto 4, 3) := by decide +kernel
theorem d_MO_air_29 : decode prog_11_method_31_code 29 = .ok (.iconst (-1), 1) := by decide +kernel
theorem d_MO_air_30 : decode prog_11_method_31_code 30 = .ok (.ireturn, 1) := by decide +kernel
theorem d_MO_stored_0 : decode prog_11_method_32_code 0 = .ok (.aload_n 0, 1) := by decide +kernel
theorem d_MO_stored_1 : decode prog_11_method_32_code 1 = .ok (.iload_n 1, 1) := by decide +kernel
theorem d_MO_stored_2 : decode prog_11_method_32_code 2 = .ok (.invokevirtual 135, 3) := by decide +kernel
theorem d_MO_stored_5 : decode prog_11_method_32_code 5 = .ok (.ifCond .eq 11, 3) := by decide +kernel
theorem d_MO_stored_8 : decode prog_11_method_32_code 8 = .ok (.aload_n 0, 1) := by decide +kernel
theorem d_MO_stored_9 : decode prog_11_method_32_code 9 = .ok (.iload_n 2, 1) := by decide +kernel
theorem d_MO_stored_10 : decode prog_11_method_32_code 10 = .ok (.invokevirtual 139, 3) := by decide +kernel
theorem d_MO_stored_13 : decode prog_11_method_32_code 13 = .ok (.ifCond .ne 5, 3) := by decide +kernel
theorem d_MO_stored_16 : decode prog_11_method_32_code 16 = .ok (.iconst (-1), 1) := by decide +kernel
theorem d_MO_stored_17 : decode prog_11_method_32_code 17 = .ok (.ireturn, 1) := by decide +kernel
theorem d_MO_stored_18 : decode prog_11_method_32_code 18 = .ok (.aload_n 0, 1) := by decide +kernel
theorem d_MO_stored_19 : decode prog_11_method_32_code 19 = .ok (.iload_n 1, 1) := by decide +kernel
theorem d_MO_stored_20 : decode prog_11_method_32_code 20 = .ok (.aload_n 0, 1) := by decide +kernel
theorem d_MO_stored_21 : decode prog_11_method_32_code 21 = .ok (.iload_n 1, 1) := by decide +kernel
theorem d_MO_stored_22 : decode prog_11_method_32_code 22 = .ok (.invokevirtual 160, 3) := by decide +kernel
theorem d_MO_stored_25 : decode prog_11_method_32_code 25 = .ok (.invokevirtual 163, 3) := by decide +kernel
theorem d_MO_stored_28 : decode prog_11_method_32_code 28 = .ok (.pop, 1) := by decide +kernel
theorem d_MO_stored_29 : decode prog_11_method_32_code 29 = .ok (.aload_n 0, 1) := by decide +kernel
theorem d_MO_stored_30 : decode prog_11_method_32_code 30 = .ok (.getfield 34, 3) := by decide +kernel
theorem d_MO_stored_33 : decode prog_11_method_32_code 33 = .ok (.iload_n 2, 1) := by decide +kernel
theorem d_MO_stored_34 : decode prog_11_method_32_code 34 = .ok (.iaload, 1) := by decide +kernel
theorem d_MO_stored_35 : decode prog_11_method_32_code 35 = .ok (.ireturn, 1) := by decide +kernel
theorem d_MO_sags_0 : decode prog_11_method_33_code 0 = .ok (.aload_n 0, 1) := by decide +kernel
theorem d_MO_sags_1 : decode prog_11_method_33_code 1 = .ok (.iload_n 1, 1) := by decide +kernel
theorem d_MO_sags_2 : decode prog_11_method_33_code 2 = .ok (.invokevirtual 135, 3) := by decide +kernel
theorem d_MO_sags_5 : decode prog_11_method_33_code 5 = .ok (.ifCond .eq 11, 3) := by decide +kernel
theorem d_MO_sags_8 : decode prog_11_method_33_code 8 = .ok (.aload_n 0, 1) := by decide +kernel
theorem d_MO_sags_9 : decode prog_11_method_33_code 9 = .ok (.iload_n 2, 1) := by decide +kernel
theorem d_MO_sags_10 : decode prog_11_method_33_code 10 = .ok (.invokevirtual 139, 3) := by decide +kernel
theorem d_MO_sags_13 : decode prog_11_method_33_code 13 = .ok (.ifCond .ne 5, 3) := by decide +kernel
theorem d_MO_sags_16 : decode prog_11_method_33_code 16 = .ok (.iconst (-1), 1) := by decide +kernel
theorem d_MO_sags_17 : decode prog_11_method_33_code 17 = .ok (.ireturn, 1) := by decide +kernel
theorem d_MO_sags_18 : decode prog_11_method_33_code 18 = .ok (.aload_n 0, 1) := by decide +kernel
theorem d_MO_sags_19 : decode prog_11_method_33_code 19 = .ok (.iload_n 1, 1) := by decide +kernel
theorem d_MO_sags_20 : decode prog_11_method_33_code 20 = .ok (.aload_n 0, 1) := by decide +kernel
theorem d_MO_sags_21 : decode prog_11_method_33_code 21 = .ok (.iload_n 1, 1) := by decide +kernel
theorem d_MO_sags_22 : decode prog_11_method_33_code 22 = .ok (.invokevirtual 160, 3) := by decide +kernel
theorem d_MO_sags_25 : decode prog_11_method_33_code 25 = .ok (.invokevirtual 163, 3) := by decide +kernel
theorem d_MO_sags_28 : decode prog_11_method_33_code 28 = .ok (.pop, 1) := by decide +kernel
theorem d_MO_sags_29 : decode prog_11_method_33_code 29 = .ok (.aload_n 0, 1) := by decide +kernel
theorem d_MO_sags_30 : decode prog_11_method_33_code 30 = .ok (.getfield 31, 3) := by decide +kernel
theorem d_MO_sags_33 : decode prog_11_method_33_code 33 = .ok (.iload_n 2, 1) := by decide +kernel
theorem d_MO_sags_34 : decode prog_11_method_33_code 34 = .ok (.iaload, 1) := by decide +kernel
theorem d_MO_sags_35 : decode prog_11_method_33_code 35 = .ok (.ireturn, 1) := by decide +kernel
theorem d_MO_totalOf_0 : decode prog_11_method_34_code 0 = .ok (.iconst 0, 1) := by decide +kernel
theorem d_MO_totalOf_1 : decode prog_11_method_34_code 1 = .ok (.istore_n 1, 1) := by decide +kernel
theorem d_MO_totalOf_2 : decode prog_11_method_34_code 2 = .ok (.iconst 0, 1) := by decide +kernel
theorem d_MO_totalOf_3 : decode prog_11_method_34_code 3 = .ok (.istore_n 2, 1) := by decide +kernel
theorem d_MO_totalOf_4 : decode prog_11_method_34_code 4 = .ok (.iload_n 2, 1) := by decide +kernel
theorem d_MO_totalOf_5 : decode prog_11_method_34_code 5 = .ok (.aload_n 0, 1) := by decide +kernel
theorem d_MO_totalOf_6 : decode prog_11_method_34_code 6 = .ok (.getfield 69, 3) := by decide +kernel
theorem d_MO_totalOf_9 : decode prog_11_method_34_code 9 = .ok (.if_icmp .ge 22, 3) := by decide +kernel
theorem d_MO_totalOf_12 : decode prog_11_method_34_code 12 = .ok (.iload_n 1, 1) := by decide +kernel
theorem d_MO_totalOf_13 : decode prog_11_method_34_code 13 = .ok (.aload_n 0, 1) := by decide +kernel
theorem d_MO_totalOf_14 : decode prog_11_method_34_code 14 = .ok (.iload_n 2, 1) := by decide +kernel
theorem d_MO_totalOf_15 : decode prog_11_method_34_code 15 = .ok (.aload_n 0, 1) := by decide +kernel
theorem d_MO_totalOf_16 : decode prog_11_method_34_code 16 = .ok (.iload_n 2, 1) := by decide +kernel
theorem d_MO_totalOf_17 : decode prog_11_method_34_code 17 = .ok (.invokevirtual 160, 3) := by decide +kernel
theorem d_MO_totalOf_20 : decode prog_11_method_34_code 20 = .ok (.invokevirtual 163, 3) := by decide +kernel
theorem d_MO_totalOf_23 : decode prog_11_method_34_code 23 = .ok (.iadd, 1) := by decide +kernel
theorem d_MO_totalOf_24 : decode prog_11_method_34_code 24 = .ok (.istore_n 1, 1) := by decide +kernel
theorem d_MO_totalOf_25 : decode prog_11_method_34_code 25 = .ok (.iinc 2 1, 3) := by decide +kernel
theorem d_MO_totalOf_28 : decode prog_11_method_34_code 28 = .ok (.goto (-24), 3) := by decide +kernel
theorem d_MO_totalOf_31 : decode prog_11_method_34_code 31 = .ok (.iload_n 1, 1) := by decide +kernel
theorem d_MO_totalOf_32 : decode prog_11_method_34_code 32 = .ok (.ireturn, 1) := by decide +kernel
theorem d_MO_total_0 : decode prog_11_method_35_code 0 = .ok (.aload_n 0, 1) := by decide +kernel
theorem d_MO_total_1 : decode prog_11_method_35_code 1 = .ok (.invokevirtual 166, 3) := by decide +kernel
theorem d_MO_total_4 : decode prog_11_method_35_code 4 = .ok (.ireturn, 1) := by decide +kernel
theorem d_MO_first_0 : decode prog_11_method_36_code 0 = .ok (.bipush (-9), 2) := by decide +kernel
theorem d_MO_first_2 : decode prog_11_method_36_code 2 = .ok (.istore_n 1, 1) := by decide +kernel
theorem d_MO_first_3 : decode prog_11_method_36_code 3 = .ok (.iconst 0, 1) := by decide +kernel
theorem d_MO_first_4 : decode prog_11_method_36_code 4 = .ok (.istore_n 2, 1) := by decide +kernel
theorem d_MO_first_5 : decode prog_11_method_36_code 5 = .ok (.iload_n 2, 1) := by decide +kernel
theorem d_MO_first_6 : decode prog_11_method_36_code 6 = .ok (.aload_n 0, 1) := by decide +kernel
theorem d_MO_first_7 : decode prog_11_method_36_code 7 = .ok (.getfield 69, 3) := by decide +kernel
theorem d_MO_first_10 : decode prog_11_method_36_code 10 = .ok (.if_icmp .ge 72, 3) := by decide +kernel
theorem d_MO_first_13 : decode prog_11_method_36_code 13 = .ok (.aload_n 0, 1) := by decide +kernel
theorem d_MO_first_14 : decode prog_11_method_36_code 14 = .ok (.iload_n 2, 1) := by decide +kernel
theorem d_MO_first_15 : decode prog_11_method_36_code 15 = .ok (.aload_n 0, 1) := by decide +kernel
theorem d_MO_first_16 : decode prog_11_method_36_code 16 = .ok (.iload_n 2, 1) := by decide +kernel
theorem d_MO_first_17 : decode prog_11_method_36_code 17 = .ok (.invokevirtual 160, 3) := by decide +kernel
theorem d_MO_first_20 : decode prog_11_method_36_code 20 = .ok (.invokevirtual 163, 3) := by decide +kernel
theorem d_MO_first_23 : decode prog_11_method_36_code 23 = .ok (.pop, 1) := by decide +kernel
theorem d_MO_first_24 : decode prog_11_method_36_code 24 = .ok (.iconst 0, 1) := by decide +kernel
theorem d_MO_first_25 : decode prog_11_method_36_code 25 = .ok (.istore_n 3, 1) := by decide +kernel
theorem d_MO_first_26 : decode prog_11_method_36_code 26 = .ok (.iload_n 3, 1) := by decide +kernel
theorem d_MO_first_27 : decode prog_11_method_36_code 27 = .ok (.aload_n 0, 1) := by decide +kernel
theorem d_MO_first_28 : decode prog_11_method_36_code 28 = .ok (.getfield 126, 3) := by decide +kernel
theorem d_MO_first_31 : decode prog_11_method_36_code 31 = .ok (.if_icmp .ge 45, 3) := by decide +kernel
theorem d_MO_first_34 : decode prog_11_method_36_code 34 = .ok (.aload_n 0, 1) := by decide +kernel
theorem d_MO_first_35 : decode prog_11_method_36_code 35 = .ok (.getfield 31, 3) := by decide +kernel
theorem d_MO_first_38 : decode prog_11_method_36_code 38 = .ok (.iload_n 3, 1) := by decide +kernel
theorem d_MO_first_39 : decode prog_11_method_36_code 39 = .ok (.iaload, 1) := by decide +kernel
theorem d_MO_first_40 : decode prog_11_method_36_code 40 = .ok (.ifCond .le 28, 3) := by decide +kernel
theorem d_MO_first_43 : decode prog_11_method_36_code 43 = .ok (.iload_n 1, 1) := by decide +kernel
theorem d_MO_first_44 : decode prog_11_method_36_code 44 = .ok (.bipush (-9), 2) := by decide +kernel
theorem d_MO_first_46 : decode prog_11_method_36_code 46 = .ok (.if_icmp .eq 13, 3) := by decide +kernel
theorem d_MO_first_49 : decode prog_11_method_36_code 49 = .ok (.bipush 10, 2) := by decide +kernel
theorem d_MO_first_51 : decode prog_11_method_36_code 51 = .ok (.iload_n 3, 1) := by decide +kernel
theorem d_MO_first_52 : decode prog_11_method_36_code 52 = .ok (.imul, 1) := by decide +kernel
theorem d_MO_first_53 : decode prog_11_method_36_code 53 = .ok (.iload_n 2, 1) := by decide +kernel
theorem d_MO_first_54 : decode prog_11_method_36_code 54 = .ok (.iadd, 1) := by decide +kernel
theorem d_MO_first_55 : decode prog_11_method_36_code 55 = .ok (.iload_n 1, 1) := by decide +kernel
theorem d_MO_first_56 : decode prog_11_method_36_code 56 = .ok (.if_icmp .ge 12, 3) := by decide +kernel
theorem d_MO_first_59 : decode prog_11_method_36_code 59 = .ok (.bipush 10, 2) := by decide +kernel
theorem d_MO_first_61 : decode prog_11_method_36_code 61 = .ok (.iload_n 3, 1) := by decide +kernel
theorem d_MO_first_62 : decode prog_11_method_36_code 62 = .ok (.imul, 1) := by decide +kernel
theorem d_MO_first_63 : decode prog_11_method_36_code 63 = .ok (.iload_n 2, 1) := by decide +kernel
theorem d_MO_first_64 : decode prog_11_method_36_code 64 = .ok (.iadd, 1) := by decide +kernel
theorem d_MO_first_65 : decode prog_11_method_36_code 65 = .ok (.goto 4, 3) := by decide +kernel
theorem d_MO_first_68 : decode prog_11_method_36_code 68 = .ok (.iload_n 1, 1) := by decide +kernel
theorem d_MO_first_69 : decode prog_11_method_36_code 69 = .ok (.istore_n 1, 1) := by decide +kernel
theorem d_MO_first_70 : decode prog_11_method_36_code 70 = .ok (.iinc 3 1, 3) := by decide +kernel
theorem d_MO_first_73 : decode prog_11_method_36_code 73 = .ok (.goto (-47), 3) := by decide +kernel
theorem d_MO_first_76 : decode prog_11_method_36_code 76 = .ok (.iinc 2 1, 3) := by decide +kernel
theorem d_MO_first_79 : decode prog_11_method_36_code 79 = .ok (.goto (-74), 3) := by decide +kernel
theorem d_MO_first_82 : decode prog_11_method_36_code 82 = .ok (.iload_n 1, 1) := by decide +kernel
theorem d_MO_first_83 : decode prog_11_method_36_code 83 = .ok (.ireturn, 1) := by decide +kernel
theorem d_MO_worst_0 : decode prog_11_method_37_code 0 = .ok (.bipush (-9), 2) := by decide +kernel
theorem d_MO_worst_2 : decode prog_11_method_37_code 2 = .ok (.istore_n 1, 1) := by decide +kernel
theorem d_MO_worst_3 : decode prog_11_method_37_code 3 = .ok (.iconst 0, 1) := by decide +kernel
theorem d_MO_worst_4 : decode prog_11_method_37_code 4 = .ok (.istore_n 2, 1) := by decide +kernel
theorem d_MO_worst_5 : decode prog_11_method_37_code 5 = .ok (.iconst 0, 1) := by decide +kernel
theorem d_MO_worst_6 : decode prog_11_method_37_code 6 = .ok (.istore_n 3, 1) := by decide +kernel
theorem d_MO_worst_7 : decode prog_11_method_37_code 7 = .ok (.iload_n 3, 1) := by decide +kernel
theorem d_MO_worst_8 : decode prog_11_method_37_code 8 = .ok (.aload_n 0, 1) := by decide +kernel
theorem d_MO_worst_9 : decode prog_11_method_37_code 9 = .ok (.getfield 69, 3) := by decide +kernel
theorem d_MO_worst_12 : decode prog_11_method_37_code 12 = .ok (.if_icmp .ge 46, 3) := by decide +kernel
theorem d_MO_worst_15 : decode prog_11_method_37_code 15 = .ok (.aload_n 0, 1) := by decide +kernel
theorem d_MO_worst_16 : decode prog_11_method_37_code 16 = .ok (.iload_n 3, 1) := by decide +kernel
theorem d_MO_worst_17 : decode prog_11_method_37_code 17 = .ok (.aload_n 0, 1) := by decide +kernel
theorem d_MO_worst_18 : decode prog_11_method_37_code 18 = .ok (.iload_n 3, 1) := by decide +kernel
theorem d_MO_worst_19 : decode prog_11_method_37_code 19 = .ok (.invokevirtual 160, 3) := by decide +kernel
theorem d_MO_worst_22 : decode prog_11_method_37_code 22 = .ok (.invokevirtual 163, 3) := by decide +kernel
theorem d_MO_worst_25 : decode prog_11_method_37_code 25 = .ok (.istore 4, 2) := by decide +kernel
theorem d_MO_worst_27 : decode prog_11_method_37_code 27 = .ok (.iload 4, 2) := by decide +kernel
theorem d_MO_worst_29 : decode prog_11_method_37_code 29 = .ok (.iload_n 2, 1) := by decide +kernel
theorem d_MO_worst_30 : decode prog_11_method_37_code 30 = .ok (.if_icmp .le 7, 3) := by decide +kernel
theorem d_MO_worst_33 : decode prog_11_method_37_code 33 = .ok (.iload_n 3, 1) := by decide +kernel
theorem d_MO_worst_34 : decode prog_11_method_37_code 34 = .ok (.goto 4, 3) := by decide +kernel
theorem d_MO_worst_37 : decode prog_11_method_37_code 37 = .ok (.iload_n 1, 1) := by decide +kernel
theorem d_MO_worst_38 : decode prog_11_method_37_code 38 = .ok (.istore_n 1, 1) := by decide +kernel
theorem d_MO_worst_39 : decode prog_11_method_37_code 39 = .ok (.iload 4, 2) := by decide +kernel
theorem d_MO_worst_41 : decode prog_11_method_37_code 41 = .ok (.iload_n 2, 1) := by decide +kernel
theorem d_MO_worst_42 : decode prog_11_method_37_code 42 = .ok (.if_icmp .le 8, 3) := by decide +kernel
theorem d_MO_worst_45 : decode prog_11_method_37_code 45 = .ok (.iload 4, 2) := by decide +kernel
theorem d_MO_worst_47 : decode prog_11_method_37_code 47 = .ok (.goto 4, 3) := by decide +kernel
theorem d_MO_worst_50 : decode prog_11_method_37_code 50 = .ok (.iload_n 2, 1) := by decide +kernel
theorem d_MO_worst_51 : decode prog_11_method_37_code 51 = .ok (.istore_n 2, 1) := by decide +kernel
theorem d_MO_worst_52 : decode prog_11_method_37_code 52 = .ok (.iinc 3 1, 3) := by decide +kernel
theorem d_MO_worst_55 : decode prog_11_method_37_code 55 = .ok (.goto (-48), 3) := by decide +kernel
theorem d_MO_worst_58 : decode prog_11_method_37_code 58 = .ok (.iload_n 1, 1) := by decide +kernel
theorem d_MO_worst_59 : decode prog_11_method_37_code 59 = .ok (.ireturn, 1) := by decide +kernel
theorem d_MO_bestLate_0 : decode prog_11_method_38_code 0 = .ok (.aload_n 0, 1) := by decide +kernel
theorem d_MO_bestLate_1 : decode prog_11_method_38_code 1 = .ok (.getfield 129, 3) := by decide +kernel
theorem d_MO_bestLate_4 : decode prog_11_method_38_code 4 = .ok (.istore_n 1, 1) := by decide +kernel
theorem d_MO_bestLate_5 : decode prog_11_method_38_code 5 = .ok (.iconst 0, 1) := by decide +kernel
theorem d_MO_bestLate_6 : decode prog_11_method_38_code 6 = .ok (.istore_n 2, 1) := by decide +kernel
theorem d_MO_bestLate_7 : decode prog_11_method_38_code 7 = .ok (.iconst 0, 1) := by decide +kernel
theorem d_MO_bestLate_8 : decode prog_11_method_38_code 8 = .ok (.istore_n 3, 1) := by decide +kernel
theorem d_MO_bestLate_9 : decode prog_11_method_38_code 9 = .ok (.iconst 0, 1) := by decide +kernel
theorem d_MO_bestLate_10 : decode prog_11_method_38_code 10 = .ok (.istore 4, 2) := by decide +kernel
theorem d_MO_bestLate_12 : decode prog_11_method_38_code 12 = .ok (.iload 4, 2) := by decide +kernel
theorem d_MO_bestLate_14 : decode prog_11_method_38_code 14 = .ok (.bipush 12, 2) := by decide +kernel
theorem d_MO_bestLate_16 : decode prog_11_method_38_code 16 = .ok (.if_icmp .ge 57, 3) := by decide +kernel
theorem d_MO_bestLate_19 : decode prog_11_method_38_code 19 = .ok (.aload_n 0, 1) := by decide +kernel
theorem d_MO_bestLate_20 : decode prog_11_method_38_code 20 = .ok (.iload 4, 2) := by decide +kernel
theorem d_MO_bestLate_22 : decode prog_11_method_38_code 22 = .ok (.putfield 129, 3) := by decide +kernel
theorem d_MO_bestLate_25 : decode prog_11_method_38_code 25 = .ok (.aload_n 0, 1) := by decide +kernel
theorem d_MO_bestLate_26 : decode prog_11_method_38_code 26 = .ok (.invokevirtual 166, 3) := by decide +kernel
theorem d_MO_bestLate_29 : decode prog_11_method_38_code 29 = .ok (.istore 5, 2) := by decide +kernel
theorem d_MO_bestLate_31 : decode prog_11_method_38_code 31 = .ok (.iload 4, 2) := by decide +kernel
theorem d_MO_bestLate_33 : decode prog_11_method_38_code 33 = .ok (.ifCond .eq 9, 3) := by decide +kernel
theorem d_MO_bestLate_36 : decode prog_11_method_38_code 36 = .ok (.iload 5, 2) := by decide +kernel
theorem d_MO_bestLate_38 : decode prog_11_method_38_code 38 = .ok (.iload_n 3, 1) := by decide +kernel
theorem d_MO_bestLate_39 : decode prog_11_method_38_code 39 = .ok (.if_icmp .ge 8, 3) := by decide +kernel
theorem d_MO_bestLate_42 : decode prog_11_method_38_code 42 = .ok (.iload 4, 2) := by decide +kernel
theorem d_MO_bestLate_44 : decode prog_11_method_38_code 44 = .ok (.goto 4, 3) := by decide +kernel
theorem d_MO_bestLate_47 : decode prog_11_method_38_code 47 = .ok (.iload_n 2, 1) := by decide +kernel
theorem d_MO_bestLate_48 : decode prog_11_method_38_code 48 = .ok (.istore_n 2, 1) := by decide +kernel
theorem d_MO_bestLate_49 : decode prog_11_method_38_code 49 = .ok (.iload 4, 2) := by decide +kernel
theorem d_MO_bestLate_51 : decode prog_11_method_38_code 51 = .ok (.ifCond .eq 9, 3) := by decide +kernel
theorem d_MO_bestLate_54 : decode prog_11_method_38_code 54 = .ok (.iload 5, 2) := by decide +kernel
theorem d_MO_bestLate_56 : decode prog_11_method_38_code 56 = .ok (.iload_n 3, 1) := by decide +kernel
theorem d_MO_bestLate_57 : decode prog_11_method_38_code 57 = .ok (.if_icmp .ge 8, 3) := by decide +kernel
theorem d_MO_bestLate_60 : decode prog_11_method_38_code 60 = .ok (.iload 5, 2) := by decide +kernel
theorem d_MO_bestLate_62 : decode prog_11_method_38_code 62 = .ok (.goto 4, 3) := by decide +kernel
theorem d_MO_bestLate_65 : decode prog_11_method_38_code 65 = .ok (.iload_n 3, 1) := by decide +kernel
theorem d_MO_bestLate_66 : decode prog_11_method_38_code 66 = .ok (.istore_n 3, 1) := by decide +kernel
theorem d_MO_bestLate_67 : decode prog_11_method_38_code 67 = .ok (.iinc 4 1, 3) := by decide +kernel
theorem d_MO_bestLate_70 : decode prog_11_method_38_code 70 = .ok (.goto (-58), 3) := by decide +kernel
theorem d_MO_bestLate_73 : decode prog_11_method_38_code 73 = .ok (.aload_n 0, 1) := by decide +kernel
theorem d_MO_bestLate_74 : decode prog_11_method_38_code 74 = .ok (.iload_n 1, 1) := by decide +kernel
theorem d_MO_bestLate_75 : decode prog_11_method_38_code 75 = .ok (.putfield 129, 3) := by decide +kernel
theorem d_MO_bestLate_78 : decode prog_11_method_38_code 78 = .ok (.iload_n 2, 1) := by decide +kernel
theorem d_MO_bestLate_79 : decode prog_11_method_38_code 79 = .ok (.ireturn, 1) := by decide +kernel
end
section
/-! decode rows -/
theorem d_MO_ones_0 : decode prog_11_method_39_code 0 = .ok (.iconst 0, 1) := by decide +kernel
theorem d_MO_ones_1 : decode prog_11_method_39_code 1 = .ok (.istore_n 1, 1) := by decide +kernel
theorem d_MO_ones_2 : decode prog_11_method_39_code 2 = .ok (.iconst 0, 1) := by decide +kernel
theorem d_MO_ones_3 : decode prog_11_method_39_code 3 = .ok (.istore_n 2, 1) := by decide +kernel
theorem d_MO_ones_4 : decode prog_11_method_39_code 4 = .ok (.iload_n 2, 1) := by decide +kernel
theorem d_MO_ones_5 : decode prog_11_method_39_code 5 = .ok (.bipush 12, 2) := by decide +kernel
theorem d_MO_ones_7 : decode prog_11_method_39_code 7 = .ok (.if_icmp .ge 17, 3) := by decide +kernel
theorem d_MO_ones_10 : decode prog_11_method_39_code 10 = .ok (.iload_n 1, 1) := by decide +kernel
theorem d_MO_ones_11 : decode prog_11_method_39_code 11 = .ok (.iload_n 0, 1) := by decide +kernel
theorem d_MO_ones_12 : decode prog_11_method_39_code 12 = .ok (.iload_n 2, 1) := by decide +kernel
theorem d_MO_ones_13 : decode prog_11_method_39_code 13 = .ok (.ishr, 1) := by decide +kernel
theorem d_MO_ones_14 : decode prog_11_method_39_code 14 = .ok (.iconst 1, 1) := by decide +kernel
theorem d_MO_ones_15 : decode prog_11_method_39_code 15 = .ok (.iand, 1) := by decide +kernel
theorem d_MO_ones_16 : decode prog_11_method_39_code 16 = .ok (.iadd, 1) := by decide +kernel
theorem d_MO_ones_17 : decode prog_11_method_39_code 17 = .ok (.istore_n 1, 1) := by decide +kernel
theorem d_MO_ones_18 : decode prog_11_method_39_code 18 = .ok (.iinc 2 1, 3) := by decide +kernel
theorem d_MO_ones_21 : decode prog_11_method_39_code 21 = .ok (.goto (-17), 3) := by decide +kernel
theorem d_MO_ones_24 : decode prog_11_method_39_code 24 = .ok (.iload_n 1, 1) := by decide +kernel
theorem d_MO_ones_25 : decode prog_11_method_39_code 25 = .ok (.ireturn, 1) := by decide +kernel
theorem d_MO_member_0 : decode prog_11_method_40_code 0 = .ok (.iload_n 1, 1) := by decide +kernel
theorem d_MO_member_1 : decode prog_11_method_40_code 1 = .ok (.istore_n 2, 1) := by decide +kernel
theorem d_MO_member_2 : decode prog_11_method_40_code 2 = .ok (.iconst 0, 1) := by decide +kernel
theorem d_MO_member_3 : decode prog_11_method_40_code 3 = .ok (.istore_n 3, 1) := by decide +kernel
theorem d_MO_member_4 : decode prog_11_method_40_code 4 = .ok (.iload_n 0, 1) := by decide +kernel
theorem d_MO_member_5 : decode prog_11_method_40_code 5 = .ok (.iload_n 3, 1) := by decide +kernel
theorem d_MO_member_6 : decode prog_11_method_40_code 6 = .ok (.ishr, 1) := by decide +kernel
theorem d_MO_member_7 : decode prog_11_method_40_code 7 = .ok (.iconst 1, 1) := by decide +kernel
theorem d_MO_member_8 : decode prog_11_method_40_code 8 = .ok (.iand, 1) := by decide +kernel
theorem d_MO_member_9 : decode prog_11_method_40_code 9 = .ok (.ifCond .eq 7, 3) := by decide +kernel
theorem d_MO_member_12 : decode prog_11_method_40_code 12 = .ok (.iload_n 2, 1) := by decide +kernel
theorem d_MO_member_13 : decode prog_11_method_40_code 13 = .ok (.ifCond .le 17, 3) := by decide +kernel
theorem d_MO_member_16 : decode prog_11_method_40_code 16 = .ok (.iload_n 2, 1) := by decide +kernel
theorem d_MO_member_17 : decode prog_11_method_40_code 17 = .ok (.iload_n 0, 1) := by decide +kernel
theorem d_MO_member_18 : decode prog_11_method_40_code 18 = .ok (.iload_n 3, 1) := by decide +kernel
theorem d_MO_member_19 : decode prog_11_method_40_code 19 = .ok (.ishr, 1) := by decide +kernel
theorem d_MO_member_20 : decode prog_11_method_40_code 20 = .ok (.iconst 1, 1) := by decide +kernel
theorem d_MO_member_21 : decode prog_11_method_40_code 21 = .ok (.iand, 1) := by decide +kernel
theorem d_MO_member_22 : decode prog_11_method_40_code 22 = .ok (.isub, 1) := by decide +kernel
theorem d_MO_member_23 : decode prog_11_method_40_code 23 = .ok (.istore_n 2, 1) := by decide +kernel
theorem d_MO_member_24 : decode prog_11_method_40_code 24 = .ok (.iinc 3 1, 3) := by decide +kernel
theorem d_MO_member_27 : decode prog_11_method_40_code 27 = .ok (.goto (-23), 3) := by decide +kernel
theorem d_MO_member_30 : decode prog_11_method_40_code 30 = .ok (.iload_n 3, 1) := by decide +kernel
theorem d_MO_member_31 : decode prog_11_method_40_code 31 = .ok (.ireturn, 1) := by decide +kernel
theorem d_MO_layPhases_0 : decode prog_11_method_41_code 0 = .ok (.aload_n 0, 1) := by decide +kernel
theorem d_MO_layPhases_1 : decode prog_11_method_41_code 1 = .ok (.iload_n 1, 1) := by decide +kernel
theorem d_MO_layPhases_2 : decode prog_11_method_41_code 2 = .ok (.invokevirtual 160, 3) := by decide +kernel
theorem d_MO_layPhases_5 : decode prog_11_method_41_code 5 = .ok (.istore_n 2, 1) := by decide +kernel
theorem d_MO_layPhases_6 : decode prog_11_method_41_code 6 = .ok (.iload_n 2, 1) := by decide +kernel
theorem d_MO_layPhases_7 : decode prog_11_method_41_code 7 = .ok (.invokestatic 169, 3) := by decide +kernel
theorem d_MO_layPhases_10 : decode prog_11_method_41_code 10 = .ok (.istore_n 3, 1) := by decide +kernel
theorem d_MO_layPhases_11 : decode prog_11_method_41_code 11 = .ok (.iconst 1, 1) := by decide +kernel
theorem d_MO_layPhases_12 : decode prog_11_method_41_code 12 = .ok (.istore 4, 2) := by decide +kernel
theorem d_MO_layPhases_14 : decode prog_11_method_41_code 14 = .ok (.iconst 0, 1) := by decide +kernel
theorem d_MO_layPhases_15 : decode prog_11_method_41_code 15 = .ok (.istore 5, 2) := by decide +kernel
theorem d_MO_layPhases_17 : decode prog_11_method_41_code 17 = .ok (.iload 5, 2) := by decide +kernel
theorem d_MO_layPhases_19 : decode prog_11_method_41_code 19 = .ok (.aload_n 0, 1) := by decide +kernel
theorem d_MO_layPhases_20 : decode prog_11_method_41_code 20 = .ok (.getfield 123, 3) := by decide +kernel
theorem d_MO_layPhases_23 : decode prog_11_method_41_code 23 = .ok (.if_icmp .ge 57, 3) := by decide +kernel
theorem d_MO_layPhases_26 : decode prog_11_method_41_code 26 = .ok (.aload_n 0, 1) := by decide +kernel
theorem d_MO_layPhases_27 : decode prog_11_method_41_code 27 = .ok (.getfield 37, 3) := by decide +kernel
theorem d_MO_layPhases_30 : decode prog_11_method_41_code 30 = .ok (.iload 5, 2) := by decide +kernel
theorem d_MO_layPhases_32 : decode prog_11_method_41_code 32 = .ok (.aload_n 0, 1) := by decide +kernel
theorem d_MO_layPhases_33 : decode prog_11_method_41_code 33 = .ok (.getfield 22, 3) := by decide +kernel
theorem d_MO_layPhases_36 : decode prog_11_method_41_code 36 = .ok (.iconst 5, 1) := by decide +kernel
theorem d_MO_layPhases_37 : decode prog_11_method_41_code 37 = .ok (.iload 5, 2) := by decide +kernel
theorem d_MO_layPhases_39 : decode prog_11_method_41_code 39 = .ok (.imul, 1) := by decide +kernel
theorem d_MO_layPhases_40 : decode prog_11_method_41_code 40 = .ok (.iconst 3, 1) := by decide +kernel
theorem d_MO_layPhases_41 : decode prog_11_method_41_code 41 = .ok (.iadd, 1) := by decide +kernel
theorem d_MO_layPhases_42 : decode prog_11_method_41_code 42 = .ok (.iaload, 1) := by decide +kernel
theorem d_MO_layPhases_43 : decode prog_11_method_41_code 43 = .ok (.iastore, 1) := by decide +kernel
theorem d_MO_layPhases_44 : decode prog_11_method_41_code 44 = .ok (.iload 4, 2) := by decide +kernel
theorem d_MO_layPhases_46 : decode prog_11_method_41_code 46 = .ok (.iload_n 2, 1) := by decide +kernel
theorem d_MO_layPhases_47 : decode prog_11_method_41_code 47 = .ok (.iload 5, 2) := by decide +kernel
theorem d_MO_layPhases_49 : decode prog_11_method_41_code 49 = .ok (.ishr, 1) := by decide +kernel
theorem d_MO_layPhases_50 : decode prog_11_method_41_code 50 = .ok (.iconst 1, 1) := by decide +kernel
theorem d_MO_layPhases_51 : decode prog_11_method_41_code 51 = .ok (.iand, 1) := by decide +kernel
theorem d_MO_layPhases_52 : decode prog_11_method_41_code 52 = .ok (.iconst 1, 1) := by decide +kernel
theorem d_MO_layPhases_53 : decode prog_11_method_41_code 53 = .ok (.if_icmp .ne 17, 3) := by decide +kernel
theorem d_MO_layPhases_56 : decode prog_11_method_41_code 56 = .ok (.aload_n 0, 1) := by decide +kernel
theorem d_MO_layPhases_57 : decode prog_11_method_41_code 57 = .ok (.getfield 22, 3) := by decide +kernel
theorem d_MO_layPhases_60 : decode prog_11_method_41_code 60 = .ok (.iconst 5, 1) := by decide +kernel
theorem d_MO_layPhases_61 : decode prog_11_method_41_code 61 = .ok (.iload 5, 2) := by decide +kernel
theorem d_MO_layPhases_63 : decode prog_11_method_41_code 63 = .ok (.imul, 1) := by decide +kernel
theorem d_MO_layPhases_64 : decode prog_11_method_41_code 64 = .ok (.iaload, 1) := by decide +kernel
theorem d_MO_layPhases_65 : decode prog_11_method_41_code 65 = .ok (.iconst 1, 1) := by decide +kernel
theorem d_MO_layPhases_66 : decode prog_11_method_41_code 66 = .ok (.iadd, 1) := by decide +kernel
theorem d_MO_layPhases_67 : decode prog_11_method_41_code 67 = .ok (.goto 4, 3) := by decide +kernel
theorem d_MO_layPhases_70 : decode prog_11_method_41_code 70 = .ok (.iconst 1, 1) := by decide +kernel
theorem d_MO_layPhases_71 : decode prog_11_method_41_code 71 = .ok (.imul, 1) := by decide +kernel
theorem d_MO_layPhases_72 : decode prog_11_method_41_code 72 = .ok (.istore 4, 2) := by decide +kernel
theorem d_MO_layPhases_74 : decode prog_11_method_41_code 74 = .ok (.iinc 5 1, 3) := by decide +kernel
theorem d_MO_layPhases_77 : decode prog_11_method_41_code 77 = .ok (.goto (-60), 3) := by decide +kernel
theorem d_MO_layPhases_80 : decode prog_11_method_41_code 80 = .ok (.iconst 0, 1) := by decide +kernel
theorem d_MO_layPhases_81 : decode prog_11_method_41_code 81 = .ok (.istore 5, 2) := by decide +kernel
theorem d_MO_layPhases_83 : decode prog_11_method_41_code 83 = .ok (.iconst 0, 1) := by decide +kernel
theorem d_MO_layPhases_84 : decode prog_11_method_41_code 84 = .ok (.istore 6, 2) := by decide +kernel
theorem d_MO_layPhases_86 : decode prog_11_method_41_code 86 = .ok (.iload 6, 2) := by decide +kernel
theorem d_MO_layPhases_88 : decode prog_11_method_41_code 88 = .ok (.iload 4, 2) := by decide +kernel
theorem d_MO_layPhases_90 : decode prog_11_method_41_code 90 = .ok (.if_icmp .ge 138, 3) := by decide +kernel
theorem d_MO_layPhases_93 : decode prog_11_method_41_code 93 = .ok (.iload 6, 2) := by decide +kernel
theorem d_MO_layPhases_95 : decode prog_11_method_41_code 95 = .ok (.istore 7, 2) := by decide +kernel
theorem d_MO_layPhases_97 : decode prog_11_method_41_code 97 = .ok (.iload_n 3, 1) := by decide +kernel
theorem d_MO_layPhases_98 : decode prog_11_method_41_code 98 = .ok (.iconst 1, 1) := by decide +kernel
theorem d_MO_layPhases_99 : decode prog_11_method_41_code 99 = .ok (.isub, 1) := by decide +kernel
theorem d_MO_layPhases_100 : decode prog_11_method_41_code 100 = .ok (.istore 8, 2) := by decide +kernel
theorem d_MO_layPhases_102 : decode prog_11_method_41_code 102 = .ok (.iload 8, 2) := by decide +kernel
theorem d_MO_layPhases_104 : decode prog_11_method_41_code 104 = .ok (.ifCond .lt 58, 3) := by decide +kernel
theorem d_MO_layPhases_107 : decode prog_11_method_41_code 107 = .ok (.iload_n 2, 1) := by decide +kernel
theorem d_MO_layPhases_108 : decode prog_11_method_41_code 108 = .ok (.iload 8, 2) := by decide +kernel
theorem d_MO_layPhases_110 : decode prog_11_method_41_code 110 = .ok (.invokestatic 172, 3) := by decide +kernel
theorem d_MO_layPhases_113 : decode prog_11_method_41_code 113 = .ok (.istore 9, 2) := by decide +kernel
theorem d_MO_layPhases_115 : decode prog_11_method_41_code 115 = .ok (.aload_n 0, 1) := by decide +kernel
theorem d_MO_layPhases_116 : decode prog_11_method_41_code 116 = .ok (.getfield 22, 3) := by decide +kernel
theorem d_MO_layPhases_119 : decode prog_11_method_41_code 119 = .ok (.iconst 5, 1) := by decide +kernel
theorem d_MO_layPhases_120 : decode prog_11_method_41_code 120 = .ok (.iload 9, 2) := by decide +kernel
theorem d_MO_layPhases_122 : decode prog_11_method_41_code 122 = .ok (.imul, 1) := by decide +kernel
theorem d_MO_layPhases_123 : decode prog_11_method_41_code 123 = .ok (.iconst 3, 1) := by decide +kernel
theorem d_MO_layPhases_124 : decode prog_11_method_41_code 124 = .ok (.iadd, 1) := by decide +kernel
theorem d_MO_layPhases_125 : decode prog_11_method_41_code 125 = .ok (.iload 7, 2) := by decide +kernel
theorem d_MO_layPhases_127 : decode prog_11_method_41_code 127 = .ok (.aload_n 0, 1) := by decide +kernel
theorem d_MO_layPhases_128 : decode prog_11_method_41_code 128 = .ok (.getfield 22, 3) := by decide +kernel
theorem d_MO_layPhases_131 : decode prog_11_method_41_code 131 = .ok (.iconst 5, 1) := by decide +kernel
theorem d_MO_layPhases_132 : decode prog_11_method_41_code 132 = .ok (.iload 9, 2) := by decide +kernel
theorem d_MO_layPhases_134 : decode prog_11_method_41_code 134 = .ok (.imul, 1) := by decide +kernel
theorem d_MO_layPhases_135 : decode prog_11_method_41_code 135 = .ok (.iaload, 1) := by decide +kernel
theorem d_MO_layPhases_136 : decode prog_11_method_41_code 136 = .ok (.iconst 1, 1) := by decide +kernel
theorem d_MO_layPhases_137 : decode prog_11_method_41_code 137 = .ok (.iadd, 1) := by decide +kernel
theorem d_MO_layPhases_138 : decode prog_11_method_41_code 138 = .ok (.irem, 1) := by decide +kernel
theorem d_MO_layPhases_139 : decode prog_11_method_41_code 139 = .ok (.iastore, 1) := by decide +kernel
theorem d_MO_layPhases_140 : decode prog_11_method_41_code 140 = .ok (.iload 7, 2) := by decide +kernel
theorem d_MO_layPhases_142 : decode prog_11_method_41_code 142 = .ok (.aload_n 0, 1) := by decide +kernel
theorem d_MO_layPhases_143 : decode prog_11_method_41_code 143 = .ok (.getfield 22, 3) := by decide +kernel
theorem d_MO_layPhases_146 : decode prog_11_method_41_code 146 = .ok (.iconst 5, 1) := by decide +kernel
theorem d_MO_layPhases_147 : decode prog_11_method_41_code 147 = .ok (.iload 9, 2) := by decide +kernel
theorem d_MO_layPhases_149 : decode prog_11_method_41_code 149 = .ok (.imul, 1) := by decide +kernel
theorem d_MO_layPhases_150 : decode prog_11_method_41_code 150 = .ok (.iaload, 1) := by decide +kernel
theorem d_MO_layPhases_151 : decode prog_11_method_41_code 151 = .ok (.iconst 1, 1) := by decide +kernel
theorem d_MO_layPhases_152 : decode prog_11_method_41_code 152 = .ok (.iadd, 1) := by decide +kernel
theorem d_MO_layPhases_153 : decode prog_11_method_41_code 153 = .ok (.idiv, 1) := by decide +kernel
theorem d_MO_layPhases_154 : decode prog_11_method_41_code 154 = .ok (.istore 7, 2) := by decide +kernel
theorem d_MO_layPhases_156 : decode prog_11_method_41_code 156 = .ok (.iinc 8 (-1), 3) := by decide +kernel
theorem d_MO_layPhases_159 : decode prog_11_method_41_code 159 = .ok (.goto (-57), 3) := by decide +kernel
theorem d_MO_layPhases_162 : decode prog_11_method_41_code 162 = .ok (.aload_n 0, 1) := by decide +kernel
theorem d_MO_layPhases_163 : decode prog_11_method_41_code 163 = .ok (.iload_n 1, 1) := by decide +kernel
theorem d_MO_layPhases_164 : decode prog_11_method_41_code 164 = .ok (.iload_n 2, 1) := by decide +kernel
theorem d_MO_layPhases_165 : decode prog_11_method_41_code 165 = .ok (.invokevirtual 163, 3) := by decide +kernel
theorem d_MO_layPhases_168 : decode prog_11_method_41_code 168 = .ok (.istore 8, 2) := by decide +kernel
theorem d_MO_layPhases_170 : decode prog_11_method_41_code 170 = .ok (.iload 6, 2) := by decide +kernel
theorem d_MO_layPhases_172 : decode prog_11_method_41_code 172 = .ok (.ifCond .eq 10, 3) := by decide +kernel
theorem d_MO_layPhases_175 : decode prog_11_method_41_code 175 = .ok (.iload 8, 2) := by decide +kernel
theorem d_MO_layPhases_177 : decode prog_11_method_41_code 177 = .ok (.iload 5, 2) := by decide +kernel
theorem d_MO_layPhases_179 : decode prog_11_method_41_code 179 = .ok (.if_icmp .ge 43, 3) := by decide +kernel
theorem d_MO_layPhases_182 : decode prog_11_method_41_code 182 = .ok (.iload 8, 2) := by decide +kernel
theorem d_MO_layPhases_184 : decode prog_11_method_41_code 184 = .ok (.istore 5, 2) := by decide +kernel
theorem d_MO_layPhases_186 : decode prog_11_method_41_code 186 = .ok (.iconst 0, 1) := by decide +kernel
theorem d_MO_layPhases_187 : decode prog_11_method_41_code 187 = .ok (.istore 9, 2) := by decide +kernel
theorem d_MO_layPhases_189 : decode prog_11_method_41_code 189 = .ok (.iload 9, 2) := by decide +kernel
theorem d_MO_layPhases_191 : decode prog_11_method_41_code 191 = .ok (.aload_n 0, 1) := by decide +kernel
theorem d_MO_layPhases_192 : decode prog_11_method_41_code 192 = .ok (.getfield 123, 3) := by decide +kernel
theorem d_MO_layPhases_195 : decode prog_11_method_41_code 195 = .ok (.if_icmp .ge 27, 3) := by decide +kernel
theorem d_MO_layPhases_198 : decode prog_11_method_41_code 198 = .ok (.aload_n 0, 1) := by decide +kernel
theorem d_MO_layPhases_199 : decode prog_11_method_41_code 199 = .ok (.getfield 40, 3) := by decide +kernel
theorem d_MO_layPhases_202 : decode prog_11_method_41_code 202 = .ok (.iload 9, 2) := by decide +kernel
theorem d_MO_layPhases_204 : decode prog_11_method_41_code 204 = .ok (.aload_n 0, 1) := by decide +kernel
theorem d_MO_layPhases_205 : decode prog_11_method_41_code 205 = .ok (.getfield 22, 3) := by decide +kernel
theorem d_MO_layPhases_208 : decode prog_11_method_41_code 208 = .ok (.iconst 5, 1) := by decide +kernel
theorem d_MO_layPhases_209 : decode prog_11_method_41_code 209 = .ok (.iload 9, 2) := by decide +kernel
theorem d_MO_layPhases_211 : decode prog_11_method_41_code 211 = .ok (.imul, 1) := by decide +kernel
theorem d_MO_layPhases_212 : decode prog_11_method_41_code 212 = .ok (.iconst 3, 1) := by decide +kernel
theorem d_MO_layPhases_213 : decode prog_11_method_41_code 213 = .ok (.iadd, 1) := by decide +kernel
theorem d_MO_layPhases_214 : decode prog_11_method_41_code 214 = .ok (.iaload, 1) := by decide +kernel
theorem d_MO_layPhases_215 : decode prog_11_method_41_code 215 = .ok (.iastore, 1) := by decide +kernel
theorem d_MO_layPhases_216 : decode prog_11_method_41_code 216 = .ok (.iinc 9 1, 3) := by decide +kernel
theorem d_MO_layPhases_219 : decode prog_11_method_41_code 219 = .ok (.goto (-30), 3) := by decide +kernel
theorem d_MO_layPhases_222 : decode prog_11_method_41_code 222 = .ok (.iinc 6 1, 3) := by decide +kernel
theorem d_MO_layPhases_225 : decode prog_11_method_41_code 225 = .ok (.goto (-139), 3) := by decide +kernel
theorem d_MO_layPhases_228 : decode prog_11_method_41_code 228 = .ok (.iconst 0, 1) := by decide +kernel
theorem d_MO_layPhases_229 : decode prog_11_method_41_code 229 = .ok (.istore 6, 2) := by decide +kernel
theorem d_MO_layPhases_231 : decode prog_11_method_41_code 231 = .ok (.iload 6, 2) := by decide +kernel
theorem d_MO_layPhases_233 : decode prog_11_method_41_code 233 = .ok (.aload_n 0, 1) := by decide +kernel
theorem d_MO_layPhases_234 : decode prog_11_method_41_code 234 = .ok (.getfield 123, 3) := by decide +kernel
theorem d_MO_layPhases_237 : decode prog_11_method_41_code 237 = .ok (.if_icmp .ge 27, 3) := by decide +kernel
theorem d_MO_layPhases_240 : decode prog_11_method_41_code 240 = .ok (.aload_n 0, 1) := by decide +kernel
theorem d_MO_layPhases_241 : decode prog_11_method_41_code 241 = .ok (.getfield 22, 3) := by decide +kernel
theorem d_MO_layPhases_244 : decode prog_11_method_41_code 244 = .ok (.iconst 5, 1) := by decide +kernel
theorem d_MO_layPhases_245 : decode prog_11_method_41_code 245 = .ok (.iload 6, 2) := by decide +kernel
theorem d_MO_layPhases_247 : decode prog_11_method_41_code 247 = .ok (.imul, 1) := by decide +kernel
theorem d_MO_layPhases_248 : decode prog_11_method_41_code 248 = .ok (.iconst 3, 1) := by decide +kernel
theorem d_MO_layPhases_249 : decode prog_11_method_41_code 249 = .ok (.iadd, 1) := by decide +kernel
theorem d_MO_layPhases_250 : decode prog_11_method_41_code 250 = .ok (.aload_n 0, 1) := by decide +kernel
theorem d_MO_layPhases_251 : decode prog_11_method_41_code 251 = .ok (.getfield 37, 3) := by decide +kernel
theorem d_MO_layPhases_254 : decode prog_11_method_41_code 254 = .ok (.iload 6, 2) := by decide +kernel
theorem d_MO_layPhases_256 : decode prog_11_method_41_code 256 = .ok (.iaload, 1) := by decide +kernel
theorem d_MO_layPhases_257 : decode prog_11_method_41_code 257 = .ok (.iastore, 1) := by decide +kernel
theorem d_MO_layPhases_258 : decode prog_11_method_41_code 258 = .ok (.iinc 6 1, 3) := by decide +kernel
theorem d_MO_layPhases_261 : decode prog_11_method_41_code 261 = .ok (.goto (-30), 3) := by decide +kernel
theorem d_MO_layPhases_264 : decode prog_11_method_41_code 264 = .ok (.iload 5, 2) := by decide +kernel
theorem d_MO_layPhases_266 : decode prog_11_method_41_code 266 = .ok (.ireturn, 1) := by decide +kernel
theorem d_MO_phases_0 : decode prog_11_method_42_code 0 = .ok (.aload_n 0, 1) := by decide +kernel
theorem d_MO_phases_1 : decode prog_11_method_42_code 1 = .ok (.iload_n 1, 1) := by decide +kernel
theorem d_MO_phases_2 : decode prog_11_method_42_code 2 = .ok (.invokevirtual 135, 3) := by decide +kernel
theorem d_MO_phases_5 : decode prog_11_method_42_code 5 = .ok (.ifCond .ne 5, 3) := by decide +kernel
theorem d_MO_phases_8 : decode prog_11_method_42_code 8 = .ok (.iconst (-1), 1) := by decide +kernel
theorem d_MO_phases_9 : decode prog_11_method_42_code 9 = .ok (.ireturn, 1) := by decide +kernel
theorem d_MO_phases_10 : decode prog_11_method_42_code 10 = .ok (.aload_n 0, 1) := by decide +kernel
theorem d_MO_phases_11 : decode prog_11_method_42_code 11 = .ok (.iload_n 1, 1) := by decide +kernel
theorem d_MO_phases_12 : decode prog_11_method_42_code 12 = .ok (.invokevirtual 160, 3) := by decide +kernel
theorem d_MO_phases_15 : decode prog_11_method_42_code 15 = .ok (.invokestatic 169, 3) := by decide +kernel
theorem d_MO_phases_18 : decode prog_11_method_42_code 18 = .ok (.iconst 4, 1) := by decide +kernel
theorem d_MO_phases_19 : decode prog_11_method_42_code 19 = .ok (.if_icmp .le 8, 3) := by decide +kernel
theorem d_MO_phases_22 : decode prog_11_method_42_code 22 = .ok (.bipush (-3), 2) := by decide +kernel
theorem d_MO_phases_24 : decode prog_11_method_42_code 24 = .ok (.goto 8, 3) := by decide +kernel
theorem d_MO_phases_27 : decode prog_11_method_42_code 27 = .ok (.aload_n 0, 1) := by decide +kernel
theorem d_MO_phases_28 : decode prog_11_method_42_code 28 = .ok (.iload_n 1, 1) := by decide +kernel
theorem d_MO_phases_29 : decode prog_11_method_42_code 29 = .ok (.invokevirtual 175, 3) := by decide +kernel
theorem d_MO_phases_32 : decode prog_11_method_42_code 32 = .ok (.ireturn, 1) := by decide +kernel
theorem d_MO_phaseAt_0 : decode prog_11_method_43_code 0 = .ok (.aload_n 0, 1) := by decide +kernel
theorem d_MO_phaseAt_1 : decode prog_11_method_43_code 1 = .ok (.iload_n 1, 1) := by decide +kernel
theorem d_MO_phaseAt_2 : decode prog_11_method_43_code 2 = .ok (.invokevirtual 135, 3) := by decide +kernel
theorem d_MO_phaseAt_5 : decode prog_11_method_43_code 5 = .ok (.ifCond .ne 5, 3) := by decide +kernel
theorem d_MO_phaseAt_8 : decode prog_11_method_43_code 8 = .ok (.iconst (-1), 1) := by decide +kernel
theorem d_MO_phaseAt_9 : decode prog_11_method_43_code 9 = .ok (.ireturn, 1) := by decide +kernel
theorem d_MO_phaseAt_10 : decode prog_11_method_43_code 10 = .ok (.aload_n 0, 1) := by decide +kernel
theorem d_MO_phaseAt_11 : decode prog_11_method_43_code 11 = .ok (.iload_n 1, 1) := by decide +kernel
theorem d_MO_phaseAt_12 : decode prog_11_method_43_code 12 = .ok (.invokevirtual 160, 3) := by decide +kernel
theorem d_MO_phaseAt_15 : decode prog_11_method_43_code 15 = .ok (.istore_n 3, 1) := by decide +kernel
theorem d_MO_phaseAt_16 : decode prog_11_method_43_code 16 = .ok (.iload_n 3, 1) := by decide +kernel
theorem d_MO_phaseAt_17 : decode prog_11_method_43_code 17 = .ok (.invokestatic 169, 3) := by decide +kernel
theorem d_MO_phaseAt_20 : decode prog_11_method_43_code 20 = .ok (.iconst 4, 1) := by decide +kernel
theorem d_MO_phaseAt_21 : decode prog_11_method_43_code 21 = .ok (.if_icmp .le 6, 3) := by decide +kernel
theorem d_MO_phaseAt_24 : decode prog_11_method_43_code 24 = .ok (.bipush (-3), 2) := by decide +kernel
theorem d_MO_phaseAt_26 : decode prog_11_method_43_code 26 = .ok (.ireturn, 1) := by decide +kernel
theorem d_MO_phaseAt_27 : decode prog_11_method_43_code 27 = .ok (.aload_n 0, 1) := by decide +kernel
theorem d_MO_phaseAt_28 : decode prog_11_method_43_code 28 = .ok (.iload_n 1, 1) := by decide +kernel
theorem d_MO_phaseAt_29 : decode prog_11_method_43_code 29 = .ok (.invokevirtual 175, 3) := by decide +kernel
theorem d_MO_phaseAt_32 : decode prog_11_method_43_code 32 = .ok (.pop, 1) := by decide +kernel
theorem d_MO_phaseAt_33 : decode prog_11_method_43_code 33 = .ok (.iload_n 2, 1) := by decide +kernel
theorem d_MO_phaseAt_34 : decode prog_11_method_43_code 34 = .ok (.i2l, 1) := by decide +kernel
theorem d_MO_phaseAt_35 : decode prog_11_method_43_code 35 = .ok (.lconst 0, 1) := by decide +kernel
theorem d_MO_phaseAt_36 : decode prog_11_method_43_code 36 = .ok (.iload_n 3, 1) := by decide +kernel
theorem d_MO_phaseAt_37 : decode prog_11_method_43_code 37 = .ok (.invokestatic 169, 3) := by decide +kernel
theorem d_MO_phaseAt_40 : decode prog_11_method_43_code 40 = .ok (.iconst 1, 1) := by decide +kernel
theorem d_MO_phaseAt_41 : decode prog_11_method_43_code 41 = .ok (.isub, 1) := by decide +kernel
theorem d_MO_phaseAt_42 : decode prog_11_method_43_code 42 = .ok (.i2l, 1) := by decide +kernel
theorem d_MO_phaseAt_43 : decode prog_11_method_43_code 43 = .ok (.invokestatic 75, 3) := by decide +kernel
theorem d_MO_phaseAt_46 : decode prog_11_method_43_code 46 = .ok (.ifCond .eq 16, 3) := by decide +kernel
theorem d_MO_phaseAt_49 : decode prog_11_method_43_code 49 = .ok (.aload_n 0, 1) := by decide +kernel
theorem d_MO_phaseAt_50 : decode prog_11_method_43_code 50 = .ok (.getfield 40, 3) := by decide +kernel
theorem d_MO_phaseAt_53 : decode prog_11_method_43_code 53 = .ok (.iload_n 3, 1) := by decide +kernel
theorem d_MO_phaseAt_54 : decode prog_11_method_43_code 54 = .ok (.iload_n 2, 1) := by decide +kernel
theorem d_MO_phaseAt_55 : decode prog_11_method_43_code 55 = .ok (.invokestatic 172, 3) := by decide +kernel
theorem d_MO_phaseAt_58 : decode prog_11_method_43_code 58 = .ok (.iaload, 1) := by decide +kernel
theorem d_MO_phaseAt_59 : decode prog_11_method_43_code 59 = .ok (.goto 5, 3) := by decide +kernel
theorem d_MO_phaseAt_62 : decode prog_11_method_43_code 62 = .ok (.bipush (-9), 2) := by decide +kernel
theorem d_MO_phaseAt_64 : decode prog_11_method_43_code 64 = .ok (.ireturn, 1) := by decide +kernel
theorem d_MO_laySeats_0 : decode prog_11_method_44_code 0 = .ok (.iconst 0, 1) := by decide +kernel
theorem d_MO_laySeats_1 : decode prog_11_method_44_code 1 = .ok (.istore_n 1, 1) := by decide +kernel
theorem d_MO_laySeats_2 : decode prog_11_method_44_code 2 = .ok (.iload_n 1, 1) := by decide +kernel
theorem d_MO_laySeats_3 : decode prog_11_method_44_code 3 = .ok (.aload_n 0, 1) := by decide +kernel
theorem d_MO_laySeats_4 : decode prog_11_method_44_code 4 = .ok (.getfield 69, 3) := by decide +kernel
theorem d_MO_laySeats_7 : decode prog_11_method_44_code 7 = .ok (.if_icmp .ge 44, 3) := by decide +kernel
theorem d_MO_laySeats_10 : decode prog_11_method_44_code 10 = .ok (.iconst 0, 1) := by decide +kernel
theorem d_MO_laySeats_11 : decode prog_11_method_44_code 11 = .ok (.istore_n 2, 1) := by decide +kernel
theorem d_MO_laySeats_12 : decode prog_11_method_44_code 12 = .ok (.iload_n 2, 1) := by decide +kernel
theorem d_MO_laySeats_13 : decode prog_11_method_44_code 13 = .ok (.iconst 1, 1) := by decide +kernel
theorem d_MO_laySeats_14 : decode prog_11_method_44_code 14 = .ok (.aload_n 0, 1) := by decide +kernel
theorem d_MO_laySeats_15 : decode prog_11_method_44_code 15 = .ok (.getfield 123, 3) := by decide +kernel
theorem d_MO_laySeats_18 : decode prog_11_method_44_code 18 = .ok (.ishl, 1) := by decide +kernel
theorem d_MO_laySeats_19 : decode prog_11_method_44_code 19 = .ok (.if_icmp .ge 26, 3) := by decide +kernel
theorem d_MO_laySeats_22 : decode prog_11_method_44_code 22 = .ok (.aload_n 0, 1) := by decide +kernel
theorem d_MO_laySeats_23 : decode prog_11_method_44_code 23 = .ok (.getfield 43, 3) := by decide +kernel
theorem d_MO_laySeats_26 : decode prog_11_method_44_code 26 = .ok (.bipush 64, 2) := by decide +kernel
theorem d_MO_laySeats_28 : decode prog_11_method_44_code 28 = .ok (.iload_n 1, 1) := by decide +kernel
theorem d_MO_laySeats_29 : decode prog_11_method_44_code 29 = .ok (.imul, 1) := by decide +kernel
theorem d_MO_laySeats_30 : decode prog_11_method_44_code 30 = .ok (.iload_n 2, 1) := by decide +kernel
theorem d_MO_laySeats_31 : decode prog_11_method_44_code 31 = .ok (.iadd, 1) := by decide +kernel
theorem d_MO_laySeats_32 : decode prog_11_method_44_code 32 = .ok (.aload_n 0, 1) := by decide +kernel
theorem d_MO_laySeats_33 : decode prog_11_method_44_code 33 = .ok (.iload_n 1, 1) := by decide +kernel
theorem d_MO_laySeats_34 : decode prog_11_method_44_code 34 = .ok (.iload_n 2, 1) := by decide +kernel
theorem d_MO_laySeats_35 : decode prog_11_method_44_code 35 = .ok (.invokevirtual 163, 3) := by decide +kernel
theorem d_MO_laySeats_38 : decode prog_11_method_44_code 38 = .ok (.iastore, 1) := by decide +kernel
theorem d_MO_laySeats_39 : decode prog_11_method_44_code 39 = .ok (.iinc 2 1, 3) := by decide +kernel
theorem d_MO_laySeats_42 : decode prog_11_method_44_code 42 = .ok (.goto (-30), 3) := by decide +kernel
theorem d_MO_laySeats_45 : decode prog_11_method_44_code 45 = .ok (.iinc 1 1, 3) := by decide +kernel
theorem d_MO_laySeats_48 : decode prog_11_method_44_code 48 = .ok (.goto (-46), 3) := by decide +kernel
theorem d_MO_laySeats_51 : decode prog_11_method_44_code 51 = .ok (.iconst 1, 1) := by decide +kernel
theorem d_MO_laySeats_52 : decode prog_11_method_44_code 52 = .ok (.istore_n 1, 1) := by decide +kernel
theorem d_MO_laySeats_53 : decode prog_11_method_44_code 53 = .ok (.iconst 0, 1) := by decide +kernel
theorem d_MO_laySeats_54 : decode prog_11_method_44_code 54 = .ok (.istore_n 2, 1) := by decide +kernel
theorem d_MO_laySeats_55 : decode prog_11_method_44_code 55 = .ok (.iload_n 2, 1) := by decide +kernel
theorem d_MO_laySeats_56 : decode prog_11_method_44_code 56 = .ok (.aload_n 0, 1) := by decide +kernel
theorem d_MO_laySeats_57 : decode prog_11_method_44_code 57 = .ok (.getfield 123, 3) := by decide +kernel
theorem d_MO_laySeats_60 : decode prog_11_method_44_code 60 = .ok (.if_icmp .ge 16, 3) := by decide +kernel
theorem d_MO_laySeats_63 : decode prog_11_method_44_code 63 = .ok (.iload_n 1, 1) := by decide +kernel
theorem d_MO_laySeats_64 : decode prog_11_method_44_code 64 = .ok (.aload_n 0, 1) := by decide +kernel
theorem d_MO_laySeats_65 : decode prog_11_method_44_code 65 = .ok (.getfield 69, 3) := by decide +kernel
theorem d_MO_laySeats_68 : decode prog_11_method_44_code 68 = .ok (.imul, 1) := by decide +kernel
theorem d_MO_laySeats_69 : decode prog_11_method_44_code 69 = .ok (.istore_n 1, 1) := by decide +kernel
theorem d_MO_laySeats_70 : decode prog_11_method_44_code 70 = .ok (.iinc 2 1, 3) := by decide +kernel
theorem d_MO_laySeats_73 : decode prog_11_method_44_code 73 = .ok (.goto (-18), 3) := by decide +kernel
theorem d_MO_laySeats_76 : decode prog_11_method_44_code 76 = .ok (.iconst 0, 1) := by decide +kernel
theorem d_MO_laySeats_77 : decode prog_11_method_44_code 77 = .ok (.istore_n 2, 1) := by decide +kernel
theorem d_MO_laySeats_78 : decode prog_11_method_44_code 78 = .ok (.iconst 0, 1) := by decide +kernel
theorem d_MO_laySeats_79 : decode prog_11_method_44_code 79 = .ok (.istore_n 3, 1) := by decide +kernel
theorem d_MO_laySeats_80 : decode prog_11_method_44_code 80 = .ok (.iconst 0, 1) := by decide +kernel
theorem d_MO_laySeats_81 : decode prog_11_method_44_code 81 = .ok (.istore 4, 2) := by decide +kernel
theorem d_MO_laySeats_83 : decode prog_11_method_44_code 83 = .ok (.iload 4, 2) := by decide +kernel
theorem d_MO_laySeats_85 : decode prog_11_method_44_code 85 = .ok (.iload_n 1, 1) := by decide +kernel
theorem d_MO_laySeats_86 : decode prog_11_method_44_code 86 = .ok (.if_icmp .ge 166, 3) := by decide +kernel
theorem d_MO_laySeats_89 : decode prog_11_method_44_code 89 = .ok (.iconst 0, 1) := by decide +kernel
theorem d_MO_laySeats_90 : decode prog_11_method_44_code 90 = .ok (.istore 5, 2) := by decide +kernel
theorem d_MO_laySeats_92 : decode prog_11_method_44_code 92 = .ok (.iload 5, 2) := by decide +kernel
theorem d_MO_laySeats_94 : decode prog_11_method_44_code 94 = .ok (.aload_n 0, 1) := by decide +kernel
theorem d_MO_laySeats_95 : decode prog_11_method_44_code 95 = .ok (.getfield 69, 3) := by decide +kernel
theorem d_MO_laySeats_98 : decode prog_11_method_44_code 98 = .ok (.if_icmp .ge 17, 3) := by decide +kernel
theorem d_MO_laySeats_101 : decode prog_11_method_44_code 101 = .ok (.aload_n 0, 1) := by decide +kernel
theorem d_MO_laySeats_102 : decode prog_11_method_44_code 102 = .ok (.getfield 49, 3) := by decide +kernel
theorem d_MO_laySeats_105 : decode prog_11_method_44_code 105 = .ok (.iload 5, 2) := by decide +kernel
theorem d_MO_laySeats_107 : decode prog_11_method_44_code 107 = .ok (.iconst 0, 1) := by decide +kernel
theorem d_MO_laySeats_108 : decode prog_11_method_44_code 108 = .ok (.iastore, 1) := by decide +kernel
theorem d_MO_laySeats_109 : decode prog_11_method_44_code 109 = .ok (.iinc 5 1, 3) := by decide +kernel
theorem d_MO_laySeats_112 : decode prog_11_method_44_code 112 = .ok (.goto (-20), 3) := by decide +kernel
theorem d_MO_laySeats_115 : decode prog_11_method_44_code 115 = .ok (.iload 4, 2) := by decide +kernel
theorem d_MO_laySeats_117 : decode prog_11_method_44_code 117 = .ok (.istore 5, 2) := by decide +kernel
theorem d_MO_laySeats_119 : decode prog_11_method_44_code 119 = .ok (.aload_n 0, 1) := by decide +kernel
theorem d_MO_laySeats_120 : decode prog_11_method_44_code 120 = .ok (.getfield 123, 3) := by decide +kernel
theorem d_MO_laySeats_123 : decode prog_11_method_44_code 123 = .ok (.iconst 1, 1) := by decide +kernel
theorem d_MO_laySeats_124 : decode prog_11_method_44_code 124 = .ok (.isub, 1) := by decide +kernel
theorem d_MO_laySeats_125 : decode prog_11_method_44_code 125 = .ok (.istore 6, 2) := by decide +kernel
theorem d_MO_laySeats_127 : decode prog_11_method_44_code 127 = .ok (.iload 6, 2) := by decide +kernel
theorem d_MO_laySeats_129 : decode prog_11_method_44_code 129 = .ok (.ifCond .lt 37, 3) := by decide +kernel
theorem d_MO_laySeats_132 : decode prog_11_method_44_code 132 = .ok (.aload_n 0, 1) := by decide +kernel
theorem d_MO_laySeats_133 : decode prog_11_method_44_code 133 = .ok (.getfield 49, 3) := by decide +kernel
theorem d_MO_laySeats_136 : decode prog_11_method_44_code 136 = .ok (.iload 5, 2) := by decide +kernel
theorem d_MO_laySeats_138 : decode prog_11_method_44_code 138 = .ok (.aload_n 0, 1) := by decide +kernel
theorem d_MO_laySeats_139 : decode prog_11_method_44_code 139 = .ok (.getfield 69, 3) := by decide +kernel
theorem d_MO_laySeats_142 : decode prog_11_method_44_code 142 = .ok (.irem, 1) := by decide +kernel
theorem d_MO_laySeats_143 : decode prog_11_method_44_code 143 = .ok (.dup2, 1) := by decide +kernel
theorem d_MO_laySeats_144 : decode prog_11_method_44_code 144 = .ok (.iaload, 1) := by decide +kernel
theorem d_MO_laySeats_145 : decode prog_11_method_44_code 145 = .ok (.iconst 1, 1) := by decide +kernel
theorem d_MO_laySeats_146 : decode prog_11_method_44_code 146 = .ok (.iload 6, 2) := by decide +kernel
theorem d_MO_laySeats_148 : decode prog_11_method_44_code 148 = .ok (.ishl, 1) := by decide +kernel
theorem d_MO_laySeats_149 : decode prog_11_method_44_code 149 = .ok (.ior, 1) := by decide +kernel
theorem d_MO_laySeats_150 : decode prog_11_method_44_code 150 = .ok (.iastore, 1) := by decide +kernel
theorem d_MO_laySeats_151 : decode prog_11_method_44_code 151 = .ok (.iload 5, 2) := by decide +kernel
theorem d_MO_laySeats_153 : decode prog_11_method_44_code 153 = .ok (.aload_n 0, 1) := by decide +kernel
theorem d_MO_laySeats_154 : decode prog_11_method_44_code 154 = .ok (.getfield 69, 3) := by decide +kernel
theorem d_MO_laySeats_157 : decode prog_11_method_44_code 157 = .ok (.idiv, 1) := by decide +kernel
theorem d_MO_laySeats_158 : decode prog_11_method_44_code 158 = .ok (.istore 5, 2) := by decide +kernel
theorem d_MO_laySeats_160 : decode prog_11_method_44_code 160 = .ok (.iinc 6 (-1), 3) := by decide +kernel
theorem d_MO_laySeats_163 : decode prog_11_method_44_code 163 = .ok (.goto (-36), 3) := by decide +kernel
theorem d_MO_laySeats_166 : decode prog_11_method_44_code 166 = .ok (.iconst 0, 1) := by decide +kernel
theorem d_MO_laySeats_167 : decode prog_11_method_44_code 167 = .ok (.istore 6, 2) := by decide +kernel
theorem d_MO_laySeats_169 : decode prog_11_method_44_code 169 = .ok (.iconst 0, 1) := by decide +kernel
theorem d_MO_laySeats_170 : decode prog_11_method_44_code 170 = .ok (.istore 7, 2) := by decide +kernel
theorem d_MO_laySeats_172 : decode prog_11_method_44_code 172 = .ok (.iload 7, 2) := by decide +kernel
theorem d_MO_laySeats_174 : decode prog_11_method_44_code 174 = .ok (.aload_n 0, 1) := by decide +kernel
theorem d_MO_laySeats_175 : decode prog_11_method_44_code 175 = .ok (.getfield 69, 3) := by decide +kernel
theorem d_MO_laySeats_178 : decode prog_11_method_44_code 178 = .ok (.if_icmp .ge 32, 3) := by decide +kernel
theorem d_MO_laySeats_181 : decode prog_11_method_44_code 181 = .ok (.iload 6, 2) := by decide +kernel
theorem d_MO_laySeats_183 : decode prog_11_method_44_code 183 = .ok (.aload_n 0, 1) := by decide +kernel
theorem d_MO_laySeats_184 : decode prog_11_method_44_code 184 = .ok (.getfield 43, 3) := by decide +kernel
theorem d_MO_laySeats_187 : decode prog_11_method_44_code 187 = .ok (.bipush 64, 2) := by decide +kernel
theorem d_MO_laySeats_189 : decode prog_11_method_44_code 189 = .ok (.iload 7, 2) := by decide +kernel
theorem d_MO_laySeats_191 : decode prog_11_method_44_code 191 = .ok (.imul, 1) := by decide +kernel
theorem d_MO_laySeats_192 : decode prog_11_method_44_code 192 = .ok (.aload_n 0, 1) := by decide +kernel
theorem d_MO_laySeats_193 : decode prog_11_method_44_code 193 = .ok (.getfield 49, 3) := by decide +kernel
theorem d_MO_laySeats_196 : decode prog_11_method_44_code 196 = .ok (.iload 7, 2) := by decide +kernel
theorem d_MO_laySeats_198 : decode prog_11_method_44_code 198 = .ok (.iaload, 1) := by decide +kernel
theorem d_MO_laySeats_199 : decode prog_11_method_44_code 199 = .ok (.iadd, 1) := by decide +kernel
theorem d_MO_laySeats_200 : decode prog_11_method_44_code 200 = .ok (.iaload, 1) := by decide +kernel
theorem d_MO_laySeats_201 : decode prog_11_method_44_code 201 = .ok (.iadd, 1) := by decide +kernel
theorem d_MO_laySeats_202 : decode prog_11_method_44_code 202 = .ok (.istore 6, 2) := by decide +kernel
theorem d_MO_laySeats_204 : decode prog_11_method_44_code 204 = .ok (.iinc 7 1, 3) := by decide +kernel
theorem d_MO_laySeats_207 : decode prog_11_method_44_code 207 = .ok (.goto (-35), 3) := by decide +kernel
theorem d_MO_laySeats_210 : decode prog_11_method_44_code 210 = .ok (.iload 4, 2) := by decide +kernel
theorem d_MO_laySeats_212 : decode prog_11_method_44_code 212 = .ok (.ifCond .eq 9, 3) := by decide +kernel
theorem d_MO_laySeats_215 : decode prog_11_method_44_code 215 = .ok (.iload 6, 2) := by decide +kernel
theorem d_MO_laySeats_217 : decode prog_11_method_44_code 217 = .ok (.iload_n 2, 1) := by decide +kernel
theorem d_MO_laySeats_218 : decode prog_11_method_44_code 218 = .ok (.if_icmp .ge 8, 3) := by decide +kernel
theorem d_MO_laySeats_221 : decode prog_11_method_44_code 221 = .ok (.iload 4, 2) := by decide +kernel
theorem d_MO_laySeats_223 : decode prog_11_method_44_code 223 = .ok (.goto 4, 3) := by decide +kernel
theorem d_MO_laySeats_226 : decode prog_11_method_44_code 226 = .ok (.iload_n 3, 1) := by decide +kernel
theorem d_MO_laySeats_227 : decode prog_11_method_44_code 227 = .ok (.istore_n 3, 1) := by decide +kernel
theorem d_MO_laySeats_228 : decode prog_11_method_44_code 228 = .ok (.iload 4, 2) := by decide +kernel
theorem d_MO_laySeats_230 : decode prog_11_method_44_code 230 = .ok (.ifCond .eq 9, 3) := by decide +kernel
theorem d_MO_laySeats_233 : decode prog_11_method_44_code 233 = .ok (.iload 6, 2) := by decide +kernel
theorem d_MO_laySeats_235 : decode prog_11_method_44_code 235 = .ok (.iload_n 2, 1) := by decide +kernel
theorem d_MO_laySeats_236 : decode prog_11_method_44_code 236 = .ok (.if_icmp .ge 8, 3) := by decide +kernel
theorem d_MO_laySeats_239 : decode prog_11_method_44_code 239 = .ok (.iload 6, 2) := by decide +kernel
theorem d_MO_laySeats_241 : decode prog_11_method_44_code 241 = .ok (.goto 4, 3) := by decide +kernel
theorem d_MO_laySeats_244 : decode prog_11_method_44_code 244 = .ok (.iload_n 2, 1) := by decide +kernel
theorem d_MO_laySeats_245 : decode prog_11_method_44_code 245 = .ok (.istore_n 2, 1) := by decide +kernel
theorem d_MO_laySeats_246 : decode prog_11_method_44_code 246 = .ok (.iinc 4 1, 3) := by decide +kernel
theorem d_MO_laySeats_249 : decode prog_11_method_44_code 249 = .ok (.goto (-166), 3) := by decide +kernel
theorem d_MO_laySeats_252 : decode prog_11_method_44_code 252 = .ok (.aload_n 0, 1) := by decide +kernel
theorem d_MO_laySeats_253 : decode prog_11_method_44_code 253 = .ok (.getfield 123, 3) := by decide +kernel
theorem d_MO_laySeats_256 : decode prog_11_method_44_code 256 = .ok (.iconst 1, 1) := by decide +kernel
theorem d_MO_laySeats_257 : decode prog_11_method_44_code 257 = .ok (.isub, 1) := by decide +kernel
theorem d_MO_laySeats_258 : decode prog_11_method_44_code 258 = .ok (.istore 4, 2) := by decide +kernel
theorem d_MO_laySeats_260 : decode prog_11_method_44_code 260 = .ok (.iload 4, 2) := by decide +kernel
theorem d_MO_laySeats_262 : decode prog_11_method_44_code 262 = .ok (.ifCond .lt 29, 3) := by decide +kernel
theorem d_MO_laySeats_265 : decode prog_11_method_44_code 265 = .ok (.aload_n 0, 1) := by decide +kernel
theorem d_MO_laySeats_266 : decode prog_11_method_44_code 266 = .ok (.getfield 46, 3) := by decide +kernel
theorem d_MO_laySeats_269 : decode prog_11_method_44_code 269 = .ok (.iload 4, 2) := by decide +kernel
theorem d_MO_laySeats_271 : decode prog_11_method_44_code 271 = .ok (.iload_n 3, 1) := by decide +kernel
theorem d_MO_laySeats_272 : decode prog_11_method_44_code 272 = .ok (.aload_n 0, 1) := by decide +kernel
theorem d_MO_laySeats_273 : decode prog_11_method_44_code 273 = .ok (.getfield 69, 3) := by decide +kernel
theorem d_MO_laySeats_276 : decode prog_11_method_44_code 276 = .ok (.irem, 1) := by decide +kernel
theorem d_MO_laySeats_277 : decode prog_11_method_44_code 277 = .ok (.iastore, 1) := by decide +kernel
theorem d_MO_laySeats_278 : decode prog_11_method_44_code 278 = .ok (.iload_n 3, 1) := by decide +kernel
theorem d_MO_laySeats_279 : decode prog_11_method_44_code 279 = .ok (.aload_n 0, 1) := by decide +kernel
theorem d_MO_laySeats_280 : decode prog_11_method_44_code 280 = .ok (.getfield 69, 3) := by decide +kernel
theorem d_MO_laySeats_283 : decode prog_11_method_44_code 283 = .ok (.idiv, 1) := by decide +kernel
theorem d_MO_laySeats_284 : decode prog_11_method_44_code 284 = .ok (.istore_n 3, 1) := by decide +kernel
theorem d_MO_laySeats_285 : decode prog_11_method_44_code 285 = .ok (.iinc 4 (-1), 3) := by decide +kernel
theorem d_MO_laySeats_288 : decode prog_11_method_44_code 288 = .ok (.goto (-28), 3) := by decide +kernel
theorem d_MO_laySeats_291 : decode prog_11_method_44_code 291 = .ok (.iload_n 2, 1) := by decide +kernel
theorem d_MO_laySeats_292 : decode prog_11_method_44_code 292 = .ok (.ireturn, 1) := by decide +kernel
theorem d_MO_seats_0 : decode prog_11_method_45_code 0 = .ok (.aload_n 0, 1) := by decide +kernel
theorem d_MO_seats_1 : decode prog_11_method_45_code 1 = .ok (.getfield 123, 3) := by decide +kernel
theorem d_MO_seats_4 : decode prog_11_method_45_code 4 = .ok (.bipush 6, 2) := by decide +kernel
theorem d_MO_seats_6 : decode prog_11_method_45_code 6 = .ok (.if_icmp .le 8, 3) := by decide +kernel
theorem d_MO_seats_9 : decode prog_11_method_45_code 9 = .ok (.bipush (-3), 2) := by decide +kernel
theorem d_MO_seats_11 : decode prog_11_method_45_code 11 = .ok (.goto 7, 3) := by decide +kernel
theorem d_MO_seats_14 : decode prog_11_method_45_code 14 = .ok (.aload_n 0, 1) := by decide +kernel
theorem d_MO_seats_15 : decode prog_11_method_45_code 15 = .ok (.invokevirtual 178, 3) := by decide +kernel
theorem d_MO_seats_18 : decode prog_11_method_45_code 18 = .ok (.ireturn, 1) := by decide +kernel
theorem d_MO_seatAt_0 : decode prog_11_method_46_code 0 = .ok (.aload_n 0, 1) := by decide +kernel
theorem d_MO_seatAt_1 : decode prog_11_method_46_code 1 = .ok (.iload_n 1, 1) := by decide +kernel
theorem d_MO_seatAt_2 : decode prog_11_method_46_code 2 = .ok (.invokevirtual 142, 3) := by decide +kernel
theorem d_MO_seatAt_5 : decode prog_11_method_46_code 5 = .ok (.ifCond .ne 5, 3) := by decide +kernel
theorem d_MO_seatAt_8 : decode prog_11_method_46_code 8 = .ok (.iconst (-1), 1) := by decide +kernel
theorem d_MO_seatAt_9 : decode prog_11_method_46_code 9 = .ok (.ireturn, 1) := by decide +kernel
theorem d_MO_seatAt_10 : decode prog_11_method_46_code 10 = .ok (.aload_n 0, 1) := by decide +kernel
theorem d_MO_seatAt_11 : decode prog_11_method_46_code 11 = .ok (.getfield 123, 3) := by decide +kernel
theorem d_MO_seatAt_14 : decode prog_11_method_46_code 14 = .ok (.bipush 6, 2) := by decide +kernel
theorem d_MO_seatAt_16 : decode prog_11_method_46_code 16 = .ok (.if_icmp .le 6, 3) := by decide +kernel
theorem d_MO_seatAt_19 : decode prog_11_method_46_code 19 = .ok (.bipush (-3), 2) := by decide +kernel
theorem d_MO_seatAt_21 : decode prog_11_method_46_code 21 = .ok (.ireturn, 1) := by decide +kernel
theorem d_MO_seatAt_22 : decode prog_11_method_46_code 22 = .ok (.aload_n 0, 1) := by decide +kernel
theorem d_MO_seatAt_23 : decode prog_11_method_46_code 23 = .ok (.invokevirtual 178, 3) := by decide +kernel
theorem d_MO_seatAt_26 : decode prog_11_method_46_code 26 = .ok (.pop, 1) := by decide +kernel
theorem d_MO_seatAt_27 : decode prog_11_method_46_code 27 = .ok (.aload_n 0, 1) := by decide +kernel
theorem d_MO_seatAt_28 : decode prog_11_method_46_code 28 = .ok (.getfield 46, 3) := by decide +kernel
theorem d_MO_seatAt_31 : decode prog_11_method_46_code 31 = .ok (.iload_n 1, 1) := by decide +kernel
theorem d_MO_seatAt_32 : decode prog_11_method_46_code 32 = .ok (.iaload, 1) := by decide +kernel
theorem d_MO_seatAt_33 : decode prog_11_method_46_code 33 = .ok (.ireturn, 1) := by decide +kernel
theorem d_MO_isSteady_0 : decode prog_11_method_47_code 0 = .ok (.iconst 0, 1) := by decide +kernel
theorem d_MO_isSteady_1 : decode prog_11_method_47_code 1 = .ok (.istore_n 2, 1) := by decide +kernel
theorem d_MO_isSteady_2 : decode prog_11_method_47_code 2 = .ok (.iload_n 2, 1) := by decide +kernel
theorem d_MO_isSteady_3 : decode prog_11_method_47_code 3 = .ok (.aload_n 0, 1) := by decide +kernel
theorem d_MO_isSteady_4 : decode prog_11_method_47_code 4 = .ok (.getfield 123, 3) := by decide +kernel
theorem d_MO_isSteady_7 : decode prog_11_method_47_code 7 = .ok (.if_icmp .ge 43, 3) := by decide +kernel
theorem d_MO_isSteady_10 : decode prog_11_method_47_code 10 = .ok (.aload_n 0, 1) := by decide +kernel
theorem d_MO_isSteady_11 : decode prog_11_method_47_code 11 = .ok (.getfield 22, 3) := by decide +kernel
theorem d_MO_isSteady_14 : decode prog_11_method_47_code 14 = .ok (.iconst 5, 1) := by decide +kernel
theorem d_MO_isSteady_15 : decode prog_11_method_47_code 15 = .ok (.iload_n 2, 1) := by decide +kernel
theorem d_MO_isSteady_16 : decode prog_11_method_47_code 16 = .ok (.imul, 1) := by decide +kernel
theorem d_MO_isSteady_17 : decode prog_11_method_47_code 17 = .ok (.iconst 4, 1) := by decide +kernel
theorem d_MO_isSteady_18 : decode prog_11_method_47_code 18 = .ok (.iadd, 1) := by decide +kernel
theorem d_MO_isSteady_19 : decode prog_11_method_47_code 19 = .ok (.aload_n 0, 1) := by decide +kernel
theorem d_MO_isSteady_20 : decode prog_11_method_47_code 20 = .ok (.getfield 52, 3) := by decide +kernel
theorem d_MO_isSteady_23 : decode prog_11_method_47_code 23 = .ok (.iload_n 2, 1) := by decide +kernel
theorem d_MO_isSteady_24 : decode prog_11_method_47_code 24 = .ok (.iaload, 1) := by decide +kernel
theorem d_MO_isSteady_25 : decode prog_11_method_47_code 25 = .ok (.iconst 1, 1) := by decide +kernel
theorem d_MO_isSteady_26 : decode prog_11_method_47_code 26 = .ok (.if_icmp .eq 12, 3) := by decide +kernel
theorem d_MO_isSteady_29 : decode prog_11_method_47_code 29 = .ok (.iload_n 1, 1) := by decide +kernel
theorem d_MO_isSteady_30 : decode prog_11_method_47_code 30 = .ok (.iload_n 2, 1) := by decide +kernel
theorem d_MO_isSteady_31 : decode prog_11_method_47_code 31 = .ok (.ishr, 1) := by decide +kernel
theorem d_MO_isSteady_32 : decode prog_11_method_47_code 32 = .ok (.iconst 1, 1) := by decide +kernel
theorem d_MO_isSteady_33 : decode prog_11_method_47_code 33 = .ok (.iand, 1) := by decide +kernel
theorem d_MO_isSteady_34 : decode prog_11_method_47_code 34 = .ok (.iconst 1, 1) := by decide +kernel
theorem d_MO_isSteady_35 : decode prog_11_method_47_code 35 = .ok (.if_icmp .ne 7, 3) := by decide +kernel
theorem d_MO_isSteady_38 : decode prog_11_method_47_code 38 = .ok (.iconst 1, 1) := by decide +kernel
theorem d_MO_isSteady_39 : decode prog_11_method_47_code 39 = .ok (.goto 4, 3) := by decide +kernel
theorem d_MO_isSteady_42 : decode prog_11_method_47_code 42 = .ok (.iconst 0, 1) := by decide +kernel
theorem d_MO_isSteady_43 : decode prog_11_method_47_code 43 = .ok (.iastore, 1) := by decide +kernel
theorem d_MO_isSteady_44 : decode prog_11_method_47_code 44 = .ok (.iinc 2 1, 3) := by decide +kernel
theorem d_MO_isSteady_47 : decode prog_11_method_47_code 47 = .ok (.goto (-45), 3) := by decide +kernel
theorem d_MO_isSteady_50 : decode prog_11_method_47_code 50 = .ok (.aload_n 0, 1) := by decide +kernel
theorem d_MO_isSteady_51 : decode prog_11_method_47_code 51 = .ok (.invokevirtual 166, 3) := by decide +kernel
theorem d_MO_isSteady_54 : decode prog_11_method_47_code 54 = .ok (.ifCond .ne 7, 3) := by decide +kernel
theorem d_MO_isSteady_57 : decode prog_11_method_47_code 57 = .ok (.iconst 1, 1) := by decide +kernel
theorem d_MO_isSteady_58 : decode prog_11_method_47_code 58 = .ok (.goto 4, 3) := by decide +kernel
theorem d_MO_isSteady_61 : decode prog_11_method_47_code 61 = .ok (.iconst 0, 1) := by decide +kernel
theorem d_MO_isSteady_62 : decode prog_11_method_47_code 62 = .ok (.ireturn, 1) := by decide +kernel
theorem d_MO_bribes_0 : decode prog_11_method_48_code 0 = .ok (.iconst 0, 1) := by decide +kernel
theorem d_MO_bribes_1 : decode prog_11_method_48_code 1 = .ok (.istore_n 1, 1) := by decide +kernel
theorem d_MO_bribes_2 : decode prog_11_method_48_code 2 = .ok (.iconst 0, 1) := by decide +kernel
theorem d_MO_bribes_3 : decode prog_11_method_48_code 3 = .ok (.istore_n 2, 1) := by decide +kernel
theorem d_MO_bribes_4 : decode prog_11_method_48_code 4 = .ok (.iload_n 2, 1) := by decide +kernel
theorem d_MO_bribes_5 : decode prog_11_method_48_code 5 = .ok (.aload_n 0, 1) := by decide +kernel
theorem d_MO_bribes_6 : decode prog_11_method_48_code 6 = .ok (.getfield 123, 3) := by decide +kernel
theorem d_MO_bribes_9 : decode prog_11_method_48_code 9 = .ok (.if_icmp .ge 36, 3) := by decide +kernel
theorem d_MO_bribes_12 : decode prog_11_method_48_code 12 = .ok (.aload_n 0, 1) := by decide +kernel
theorem d_MO_bribes_13 : decode prog_11_method_48_code 13 = .ok (.getfield 52, 3) := by decide +kernel
theorem d_MO_bribes_16 : decode prog_11_method_48_code 16 = .ok (.iload_n 2, 1) := by decide +kernel
theorem d_MO_bribes_17 : decode prog_11_method_48_code 17 = .ok (.aload_n 0, 1) := by decide +kernel
theorem d_MO_bribes_18 : decode prog_11_method_48_code 18 = .ok (.getfield 22, 3) := by decide +kernel
theorem d_MO_bribes_21 : decode prog_11_method_48_code 21 = .ok (.iconst 5, 1) := by decide +kernel
theorem d_MO_bribes_22 : decode prog_11_method_48_code 22 = .ok (.iload_n 2, 1) := by decide +kernel
theorem d_MO_bribes_23 : decode prog_11_method_48_code 23 = .ok (.imul, 1) := by decide +kernel
theorem d_MO_bribes_24 : decode prog_11_method_48_code 24 = .ok (.iconst 4, 1) := by decide +kernel
theorem d_MO_bribes_25 : decode prog_11_method_48_code 25 = .ok (.iadd, 1) := by decide +kernel
theorem d_MO_bribes_26 : decode prog_11_method_48_code 26 = .ok (.iaload, 1) := by decide +kernel
theorem d_MO_bribes_27 : decode prog_11_method_48_code 27 = .ok (.iastore, 1) := by decide +kernel
theorem d_MO_bribes_28 : decode prog_11_method_48_code 28 = .ok (.iload_n 1, 1) := by decide +kernel
theorem d_MO_bribes_29 : decode prog_11_method_48_code 29 = .ok (.aload_n 0, 1) := by decide +kernel
theorem d_MO_bribes_30 : decode prog_11_method_48_code 30 = .ok (.getfield 52, 3) := by decide +kernel
theorem d_MO_bribes_33 : decode prog_11_method_48_code 33 = .ok (.iload_n 2, 1) := by decide +kernel
theorem d_MO_bribes_34 : decode prog_11_method_48_code 34 = .ok (.iaload, 1) := by decide +kernel
theorem d_MO_bribes_35 : decode prog_11_method_48_code 35 = .ok (.iload_n 2, 1) := by decide +kernel
theorem d_MO_bribes_36 : decode prog_11_method_48_code 36 = .ok (.ishl, 1) := by decide +kernel
theorem d_MO_bribes_37 : decode prog_11_method_48_code 37 = .ok (.ior, 1) := by decide +kernel
theorem d_MO_bribes_38 : decode prog_11_method_48_code 38 = .ok (.istore_n 1, 1) := by decide +kernel
theorem d_MO_bribes_39 : decode prog_11_method_48_code 39 = .ok (.iinc 2 1, 3) := by decide +kernel
theorem d_MO_bribes_42 : decode prog_11_method_48_code 42 = .ok (.goto (-38), 3) := by decide +kernel
theorem d_MO_bribes_45 : decode prog_11_method_48_code 45 = .ok (.bipush (-9), 2) := by decide +kernel
theorem d_MO_bribes_47 : decode prog_11_method_48_code 47 = .ok (.istore_n 2, 1) := by decide +kernel
theorem d_MO_bribes_48 : decode prog_11_method_48_code 48 = .ok (.iconst 0, 1) := by decide +kernel
theorem d_MO_bribes_49 : decode prog_11_method_48_code 49 = .ok (.istore_n 3, 1) := by decide +kernel
theorem d_MO_bribes_50 : decode prog_11_method_48_code 50 = .ok (.iload_n 3, 1) := by decide +kernel
theorem d_MO_bribes_51 : decode prog_11_method_48_code 51 = .ok (.iconst 1, 1) := by decide +kernel
theorem d_MO_bribes_52 : decode prog_11_method_48_code 52 = .ok (.aload_n 0, 1) := by decide +kernel
theorem d_MO_bribes_53 : decode prog_11_method_48_code 53 = .ok (.getfield 123, 3) := by decide +kernel
theorem d_MO_bribes_56 : decode prog_11_method_48_code 56 = .ok (.ishl, 1) := by decide +kernel
theorem d_MO_bribes_57 : decode prog_11_method_48_code 57 = .ok (.if_icmp .ge 58, 3) := by decide +kernel
theorem d_MO_bribes_60 : decode prog_11_method_48_code 60 = .ok (.iload_n 3, 1) := by decide +kernel
theorem d_MO_bribes_61 : decode prog_11_method_48_code 61 = .ok (.iload_n 1, 1) := by decide +kernel
theorem d_MO_bribes_62 : decode prog_11_method_48_code 62 = .ok (.iand, 1) := by decide +kernel
theorem d_MO_bribes_63 : decode prog_11_method_48_code 63 = .ok (.ifCond .ne 24, 3) := by decide +kernel
theorem d_MO_bribes_66 : decode prog_11_method_48_code 66 = .ok (.iload_n 2, 1) := by decide +kernel
theorem d_MO_bribes_67 : decode prog_11_method_48_code 67 = .ok (.bipush (-9), 2) := by decide +kernel
theorem d_MO_bribes_69 : decode prog_11_method_48_code 69 = .ok (.if_icmp .eq 14, 3) := by decide +kernel
theorem d_MO_bribes_72 : decode prog_11_method_48_code 72 = .ok (.iload_n 3, 1) := by decide +kernel
theorem d_MO_bribes_73 : decode prog_11_method_48_code 73 = .ok (.invokestatic 169, 3) := by decide +kernel
theorem d_MO_bribes_76 : decode prog_11_method_48_code 76 = .ok (.iload_n 2, 1) := by decide +kernel
theorem d_MO_bribes_77 : decode prog_11_method_48_code 77 = .ok (.invokestatic 169, 3) := by decide +kernel
theorem d_MO_bribes_80 : decode prog_11_method_48_code 80 = .ok (.if_icmp .ge 7, 3) := by decide +kernel
theorem d_MO_bribes_83 : decode prog_11_method_48_code 83 = .ok (.iconst 1, 1) := by decide +kernel
theorem d_MO_bribes_84 : decode prog_11_method_48_code 84 = .ok (.goto 4, 3) := by decide +kernel
theorem d_MO_bribes_87 : decode prog_11_method_48_code 87 = .ok (.iconst 0, 1) := by decide +kernel
theorem d_MO_bribes_88 : decode prog_11_method_48_code 88 = .ok (.istore 4, 2) := by decide +kernel
theorem d_MO_bribes_90 : decode prog_11_method_48_code 90 = .ok (.iload 4, 2) := by decide +kernel
theorem d_MO_bribes_92 : decode prog_11_method_48_code 92 = .ok (.ifCond .eq 15, 3) := by decide +kernel
theorem d_MO_bribes_95 : decode prog_11_method_48_code 95 = .ok (.aload_n 0, 1) := by decide +kernel
theorem d_MO_bribes_96 : decode prog_11_method_48_code 96 = .ok (.iload_n 3, 1) := by decide +kernel
theorem d_MO_bribes_97 : decode prog_11_method_48_code 97 = .ok (.invokevirtual 181, 3) := by decide +kernel
theorem d_MO_bribes_100 : decode prog_11_method_48_code 100 = .ok (.ifCond .eq 7, 3) := by decide +kernel
theorem d_MO_bribes_103 : decode prog_11_method_48_code 103 = .ok (.iload_n 3, 1) := by decide +kernel
theorem d_MO_bribes_104 : decode prog_11_method_48_code 104 = .ok (.goto 4, 3) := by decide +kernel
theorem d_MO_bribes_107 : decode prog_11_method_48_code 107 = .ok (.iload_n 2, 1) := by decide +kernel
theorem d_MO_bribes_108 : decode prog_11_method_48_code 108 = .ok (.istore_n 2, 1) := by decide +kernel
theorem d_MO_bribes_109 : decode prog_11_method_48_code 109 = .ok (.iinc 3 1, 3) := by decide +kernel
theorem d_MO_bribes_112 : decode prog_11_method_48_code 112 = .ok (.goto (-62), 3) := by decide +kernel
theorem d_MO_bribes_115 : decode prog_11_method_48_code 115 = .ok (.iconst 0, 1) := by decide +kernel
theorem d_MO_bribes_116 : decode prog_11_method_48_code 116 = .ok (.istore_n 3, 1) := by decide +kernel
theorem d_MO_bribes_117 : decode prog_11_method_48_code 117 = .ok (.iload_n 3, 1) := by decide +kernel
theorem d_MO_bribes_118 : decode prog_11_method_48_code 118 = .ok (.aload_n 0, 1) := by decide +kernel
theorem d_MO_bribes_119 : decode prog_11_method_48_code 119 = .ok (.getfield 123, 3) := by decide +kernel
theorem d_MO_bribes_122 : decode prog_11_method_48_code 122 = .ok (.if_icmp .ge 25, 3) := by decide +kernel
theorem d_MO_bribes_125 : decode prog_11_method_48_code 125 = .ok (.aload_n 0, 1) := by decide +kernel
theorem d_MO_bribes_126 : decode prog_11_method_48_code 126 = .ok (.getfield 22, 3) := by decide +kernel
theorem d_MO_bribes_129 : decode prog_11_method_48_code 129 = .ok (.iconst 5, 1) := by decide +kernel
theorem d_MO_bribes_130 : decode prog_11_method_48_code 130 = .ok (.iload_n 3, 1) := by decide +kernel
theorem d_MO_bribes_131 : decode prog_11_method_48_code 131 = .ok (.imul, 1) := by decide +kernel
theorem d_MO_bribes_132 : decode prog_11_method_48_code 132 = .ok (.iconst 4, 1) := by decide +kernel
theorem d_MO_bribes_133 : decode prog_11_method_48_code 133 = .ok (.iadd, 1) := by decide +kernel
theorem d_MO_bribes_134 : decode prog_11_method_48_code 134 = .ok (.aload_n 0, 1) := by decide +kernel
theorem d_MO_bribes_135 : decode prog_11_method_48_code 135 = .ok (.getfield 52, 3) := by decide +kernel
theorem d_MO_bribes_138 : decode prog_11_method_48_code 138 = .ok (.iload_n 3, 1) := by decide +kernel
theorem d_MO_bribes_139 : decode prog_11_method_48_code 139 = .ok (.iaload, 1) := by decide +kernel
theorem d_MO_bribes_140 : decode prog_11_method_48_code 140 = .ok (.iastore, 1) := by decide +kernel
theorem d_MO_bribes_141 : decode prog_11_method_48_code 141 = .ok (.iinc 3 1, 3) := by decide +kernel
theorem d_MO_bribes_144 : decode prog_11_method_48_code 144 = .ok (.goto (-27), 3) := by decide +kernel
theorem d_MO_bribes_147 : decode prog_11_method_48_code 147 = .ok (.iload_n 2, 1) := by decide +kernel
theorem d_MO_bribes_148 : decode prog_11_method_48_code 148 = .ok (.ireturn, 1) := by decide +kernel
theorem d_MO_needed_0 : decode prog_11_method_49_code 0 = .ok (.aload_n 0, 1) := by decide +kernel
theorem d_MO_needed_1 : decode prog_11_method_49_code 1 = .ok (.iload_n 1, 1) := by decide +kernel
theorem d_MO_needed_2 : decode prog_11_method_49_code 2 = .ok (.invokevirtual 142, 3) := by decide +kernel
theorem d_MO_needed_5 : decode prog_11_method_49_code 5 = .ok (.ifCond .ne 5, 3) := by decide +kernel
theorem d_MO_needed_8 : decode prog_11_method_49_code 8 = .ok (.iconst (-1), 1) := by decide +kernel
theorem d_MO_needed_9 : decode prog_11_method_49_code 9 = .ok (.ireturn, 1) := by decide +kernel
theorem d_MO_needed_10 : decode prog_11_method_49_code 10 = .ok (.aload_n 0, 1) := by decide +kernel
theorem d_MO_needed_11 : decode prog_11_method_49_code 11 = .ok (.getfield 22, 3) := by decide +kernel
theorem d_MO_needed_14 : decode prog_11_method_49_code 14 = .ok (.iconst 5, 1) := by decide +kernel
theorem d_MO_needed_15 : decode prog_11_method_49_code 15 = .ok (.iload_n 1, 1) := by decide +kernel
theorem d_MO_needed_16 : decode prog_11_method_49_code 16 = .ok (.imul, 1) := by decide +kernel
theorem d_MO_needed_17 : decode prog_11_method_49_code 17 = .ok (.iconst 2, 1) := by decide +kernel
theorem d_MO_needed_18 : decode prog_11_method_49_code 18 = .ok (.iadd, 1) := by decide +kernel
theorem d_MO_needed_19 : decode prog_11_method_49_code 19 = .ok (.iaload, 1) := by decide +kernel
theorem d_MO_needed_20 : decode prog_11_method_49_code 20 = .ok (.istore_n 2, 1) := by decide +kernel
theorem d_MO_needed_21 : decode prog_11_method_49_code 21 = .ok (.aload_n 0, 1) := by decide +kernel
theorem d_MO_needed_22 : decode prog_11_method_49_code 22 = .ok (.iload_n 2, 1) := by decide +kernel
theorem d_MO_needed_23 : decode prog_11_method_49_code 23 = .ok (.invokevirtual 160, 3) := by decide +kernel
theorem d_MO_needed_26 : decode prog_11_method_49_code 26 = .ok (.istore_n 3, 1) := by decide +kernel
theorem d_MO_needed_27 : decode prog_11_method_49_code 27 = .ok (.aload_n 0, 1) := by decide +kernel
theorem d_MO_needed_28 : decode prog_11_method_49_code 28 = .ok (.iload_n 2, 1) := by decide +kernel
theorem d_MO_needed_29 : decode prog_11_method_49_code 29 = .ok (.iload_n 3, 1) := by decide +kernel
theorem d_MO_needed_30 : decode prog_11_method_49_code 30 = .ok (.iconst 1, 1) := by decide +kernel
theorem d_MO_needed_31 : decode prog_11_method_49_code 31 = .ok (.iload_n 1, 1) := by decide +kernel
theorem d_MO_needed_32 : decode prog_11_method_49_code 32 = .ok (.ishl, 1) := by decide +kernel
theorem d_MO_needed_33 : decode prog_11_method_49_code 33 = .ok (.iconst (-1), 1) := by decide +kernel
theorem d_MO_needed_34 : decode prog_11_method_49_code 34 = .ok (.ixor, 1) := by decide +kernel
theorem d_MO_needed_35 : decode prog_11_method_49_code 35 = .ok (.iand, 1) := by decide +kernel
theorem d_MO_needed_36 : decode prog_11_method_49_code 36 = .ok (.invokevirtual 163, 3) := by decide +kernel
theorem d_MO_needed_39 : decode prog_11_method_49_code 39 = .ok (.aload_n 0, 1) := by decide +kernel
theorem d_MO_needed_40 : decode prog_11_method_49_code 40 = .ok (.iload_n 2, 1) := by decide +kernel
theorem d_MO_needed_41 : decode prog_11_method_49_code 41 = .ok (.iload_n 3, 1) := by decide +kernel
theorem d_MO_needed_42 : decode prog_11_method_49_code 42 = .ok (.invokevirtual 163, 3) := by decide +kernel
theorem d_MO_needed_45 : decode prog_11_method_49_code 45 = .ok (.isub, 1) := by decide +kernel
theorem d_MO_needed_46 : decode prog_11_method_49_code 46 = .ok (.ireturn, 1) := by decide +kernel
theorem d_MO_never_0 : decode prog_11_method_50_code 0 = .ok (.iconst 0, 1) := by decide +kernel
theorem d_MO_never_1 : decode prog_11_method_50_code 1 = .ok (.istore_n 1, 1) := by decide +kernel
theorem d_MO_never_2 : decode prog_11_method_50_code 2 = .ok (.iload_n 1, 1) := by decide +kernel
theorem d_MO_never_3 : decode prog_11_method_50_code 3 = .ok (.aload_n 0, 1) := by decide +kernel
theorem d_MO_never_4 : decode prog_11_method_50_code 4 = .ok (.getfield 126, 3) := by decide +kernel
theorem d_MO_never_7 : decode prog_11_method_50_code 7 = .ok (.if_icmp .ge 112, 3) := by decide +kernel
theorem d_MO_never_10 : decode prog_11_method_50_code 10 = .ok (.iconst 0, 1) := by decide +kernel
theorem d_MO_never_11 : decode prog_11_method_50_code 11 = .ok (.istore_n 2, 1) := by decide +kernel
theorem d_MO_never_12 : decode prog_11_method_50_code 12 = .ok (.iload_n 2, 1) := by decide +kernel
theorem d_MO_never_13 : decode prog_11_method_50_code 13 = .ok (.aload_n 0, 1) := by decide +kernel
theorem d_MO_never_14 : decode prog_11_method_50_code 14 = .ok (.getfield 69, 3) := by decide +kernel
theorem d_MO_never_17 : decode prog_11_method_50_code 17 = .ok (.if_icmp .ge 96, 3) := by decide +kernel
theorem d_MO_never_20 : decode prog_11_method_50_code 20 = .ok (.aload_n 0, 1) := by decide +kernel
theorem d_MO_never_21 : decode prog_11_method_50_code 21 = .ok (.getfield 132, 3) := by decide +kernel
theorem d_MO_never_24 : decode prog_11_method_50_code 24 = .ok (.istore_n 3, 1) := by decide +kernel
theorem d_MO_never_25 : decode prog_11_method_50_code 25 = .ok (.iconst 0, 1) := by decide +kernel
theorem d_MO_never_26 : decode prog_11_method_50_code 26 = .ok (.istore 4, 2) := by decide +kernel
theorem d_MO_never_28 : decode prog_11_method_50_code 28 = .ok (.iload 4, 2) := by decide +kernel
theorem d_MO_never_30 : decode prog_11_method_50_code 30 = .ok (.aload_n 0, 1) := by decide +kernel
theorem d_MO_never_31 : decode prog_11_method_50_code 31 = .ok (.getfield 123, 3) := by decide +kernel
theorem d_MO_never_34 : decode prog_11_method_50_code 34 = .ok (.if_icmp .ge 42, 3) := by decide +kernel
theorem d_MO_never_37 : decode prog_11_method_50_code 37 = .ok (.iload_n 3, 1) := by decide +kernel
theorem d_MO_never_38 : decode prog_11_method_50_code 38 = .ok (.aload_n 0, 1) := by decide +kernel
theorem d_MO_never_39 : decode prog_11_method_50_code 39 = .ok (.getfield 22, 3) := by decide +kernel
theorem d_MO_never_42 : decode prog_11_method_50_code 42 = .ok (.iconst 5, 1) := by decide +kernel
theorem d_MO_never_43 : decode prog_11_method_50_code 43 = .ok (.iload 4, 2) := by decide +kernel
theorem d_MO_never_45 : decode prog_11_method_50_code 45 = .ok (.imul, 1) := by decide +kernel
theorem d_MO_never_46 : decode prog_11_method_50_code 46 = .ok (.iconst 2, 1) := by decide +kernel
theorem d_MO_never_47 : decode prog_11_method_50_code 47 = .ok (.iadd, 1) := by decide +kernel
theorem d_MO_never_48 : decode prog_11_method_50_code 48 = .ok (.iaload, 1) := by decide +kernel
theorem d_MO_never_49 : decode prog_11_method_50_code 49 = .ok (.iload_n 2, 1) := by decide +kernel
theorem d_MO_never_50 : decode prog_11_method_50_code 50 = .ok (.if_icmp .ne 17, 3) := by decide +kernel
theorem d_MO_never_53 : decode prog_11_method_50_code 53 = .ok (.aload_n 0, 1) := by decide +kernel
theorem d_MO_never_54 : decode prog_11_method_50_code 54 = .ok (.getfield 22, 3) := by decide +kernel
theorem d_MO_never_57 : decode prog_11_method_50_code 57 = .ok (.iconst 5, 1) := by decide +kernel
theorem d_MO_never_58 : decode prog_11_method_50_code 58 = .ok (.iload 4, 2) := by decide +kernel
theorem d_MO_never_60 : decode prog_11_method_50_code 60 = .ok (.imul, 1) := by decide +kernel
theorem d_MO_never_61 : decode prog_11_method_50_code 61 = .ok (.iconst 1, 1) := by decide +kernel
theorem d_MO_never_62 : decode prog_11_method_50_code 62 = .ok (.iadd, 1) := by decide +kernel
theorem d_MO_never_63 : decode prog_11_method_50_code 63 = .ok (.iaload, 1) := by decide +kernel
theorem d_MO_never_64 : decode prog_11_method_50_code 64 = .ok (.goto 4, 3) := by decide +kernel
theorem d_MO_never_67 : decode prog_11_method_50_code 67 = .ok (.iconst 0, 1) := by decide +kernel
theorem d_MO_never_68 : decode prog_11_method_50_code 68 = .ok (.iadd, 1) := by decide +kernel
theorem d_MO_never_69 : decode prog_11_method_50_code 69 = .ok (.istore_n 3, 1) := by decide +kernel
theorem d_MO_never_70 : decode prog_11_method_50_code 70 = .ok (.iinc 4 1, 3) := by decide +kernel
theorem d_MO_never_73 : decode prog_11_method_50_code 73 = .ok (.goto (-45), 3) := by decide +kernel
theorem d_MO_never_76 : decode prog_11_method_50_code 76 = .ok (.aload_n 0, 1) := by decide +kernel
theorem d_MO_never_77 : decode prog_11_method_50_code 77 = .ok (.getfield 25, 3) := by decide +kernel
theorem d_MO_never_80 : decode prog_11_method_50_code 80 = .ok (.iload_n 1, 1) := by decide +kernel
theorem d_MO_never_81 : decode prog_11_method_50_code 81 = .ok (.iaload, 1) := by decide +kernel
theorem d_MO_never_82 : decode prog_11_method_50_code 82 = .ok (.iload_n 2, 1) := by decide +kernel
theorem d_MO_never_83 : decode prog_11_method_50_code 83 = .ok (.ishr, 1) := by decide +kernel
theorem d_MO_never_84 : decode prog_11_method_50_code 84 = .ok (.iconst 1, 1) := by decide +kernel
theorem d_MO_never_85 : decode prog_11_method_50_code 85 = .ok (.iand, 1) := by decide +kernel
theorem d_MO_never_86 : decode prog_11_method_50_code 86 = .ok (.iconst 1, 1) := by decide +kernel
theorem d_MO_never_87 : decode prog_11_method_50_code 87 = .ok (.if_icmp .ne 20, 3) := by decide +kernel
theorem d_MO_never_90 : decode prog_11_method_50_code 90 = .ok (.aload_n 0, 1) := by decide +kernel
theorem d_MO_never_91 : decode prog_11_method_50_code 91 = .ok (.getfield 19, 3) := by decide +kernel
theorem d_MO_never_94 : decode prog_11_method_50_code 94 = .ok (.iload_n 2, 1) := by decide +kernel
theorem d_MO_never_95 : decode prog_11_method_50_code 95 = .ok (.iaload, 1) := by decide +kernel
theorem d_MO_never_96 : decode prog_11_method_50_code 96 = .ok (.iload_n 3, 1) := by decide +kernel
theorem d_MO_never_97 : decode prog_11_method_50_code 97 = .ok (.if_icmp .le 10, 3) := by decide +kernel
theorem d_MO_never_100 : decode prog_11_method_50_code 100 = .ok (.bipush 10, 2) := by decide +kernel
theorem d_MO_never_102 : decode prog_11_method_50_code 102 = .ok (.iload_n 1, 1) := by decide +kernel
theorem d_MO_never_103 : decode prog_11_method_50_code 103 = .ok (.imul, 1) := by decide +kernel
theorem d_MO_never_104 : decode prog_11_method_50_code 104 = .ok (.iload_n 2, 1) := by decide +kernel
theorem d_MO_never_105 : decode prog_11_method_50_code 105 = .ok (.iadd, 1) := by decide +kernel
theorem d_MO_never_106 : decode prog_11_method_50_code 106 = .ok (.ireturn, 1) := by decide +kernel
theorem d_MO_never_107 : decode prog_11_method_50_code 107 = .ok (.iinc 2 1, 3) := by decide +kernel
theorem d_MO_never_110 : decode prog_11_method_50_code 110 = .ok (.goto (-98), 3) := by decide +kernel
theorem d_MO_never_113 : decode prog_11_method_50_code 113 = .ok (.iinc 1 1, 3) := by decide +kernel
theorem d_MO_never_116 : decode prog_11_method_50_code 116 = .ok (.goto (-114), 3) := by decide +kernel
theorem d_MO_never_119 : decode prog_11_method_50_code 119 = .ok (.bipush (-9), 2) := by decide +kernel
theorem d_MO_never_121 : decode prog_11_method_50_code 121 = .ok (.ireturn, 1) := by decide +kernel
theorem d_MO_layWays_0 : decode prog_11_method_51_code 0 = .ok (.iconst 0, 1) := by decide +kernel
theorem d_MO_layWays_1 : decode prog_11_method_51_code 1 = .ok (.istore 4, 2) := by decide +kernel
theorem d_MO_layWays_3 : decode prog_11_method_51_code 3 = .ok (.iload 4, 2) := by decide +kernel
theorem d_MO_layWays_5 : decode prog_11_method_51_code 5 = .ok (.bipush 40, 2) := by decide +kernel
theorem d_MO_layWays_7 : decode prog_11_method_51_code 7 = .ok (.if_icmp .ge 26, 3) := by decide +kernel
theorem d_MO_layWays_10 : decode prog_11_method_51_code 10 = .ok (.aload_n 0, 1) := by decide +kernel
theorem d_MO_layWays_11 : decode prog_11_method_51_code 11 = .ok (.getfield 55, 3) := by decide +kernel
theorem d_MO_layWays_14 : decode prog_11_method_51_code 14 = .ok (.iload 4, 2) := by decide +kernel
theorem d_MO_layWays_16 : decode prog_11_method_51_code 16 = .ok (.iload 4, 2) := by decide +kernel
theorem d_MO_layWays_18 : decode prog_11_method_51_code 18 = .ok (.ifCond .ne 7, 3) := by decide +kernel
theorem d_MO_layWays_21 : decode prog_11_method_51_code 21 = .ok (.lconst 1, 1) := by decide +kernel
theorem d_MO_layWays_22 : decode prog_11_method_51_code 22 = .ok (.goto 4, 3) := by decide +kernel
theorem d_MO_layWays_25 : decode prog_11_method_51_code 25 = .ok (.lconst 0, 1) := by decide +kernel
theorem d_MO_layWays_26 : decode prog_11_method_51_code 26 = .ok (.lastore, 1) := by decide +kernel
theorem d_MO_layWays_27 : decode prog_11_method_51_code 27 = .ok (.iinc 4 1, 3) := by decide +kernel
theorem d_MO_layWays_30 : decode prog_11_method_51_code 30 = .ok (.goto (-27), 3) := by decide +kernel
theorem d_MO_layWays_33 : decode prog_11_method_51_code 33 = .ok (.aload_n 0, 1) := by decide +kernel
theorem d_MO_layWays_34 : decode prog_11_method_51_code 34 = .ok (.lconst 1, 1) := by decide +kernel
theorem d_MO_layWays_35 : decode prog_11_method_51_code 35 = .ok (.putfield 184, 3) := by decide +kernel
theorem d_MO_layWays_38 : decode prog_11_method_51_code 38 = .ok (.iconst 0, 1) := by decide +kernel
theorem d_MO_layWays_39 : decode prog_11_method_51_code 39 = .ok (.istore 4, 2) := by decide +kernel
theorem d_MO_layWays_41 : decode prog_11_method_51_code 41 = .ok (.iload 4, 2) := by decide +kernel
theorem d_MO_layWays_43 : decode prog_11_method_51_code 43 = .ok (.aload_n 0, 1) := by decide +kernel
theorem d_MO_layWays_44 : decode prog_11_method_51_code 44 = .ok (.getfield 123, 3) := by decide +kernel
theorem d_MO_layWays_47 : decode prog_11_method_51_code 47 = .ok (.if_icmp .ge 118, 3) := by decide +kernel
theorem d_MO_layWays_50 : decode prog_11_method_51_code 50 = .ok (.iload_n 1, 1) := by decide +kernel
theorem d_MO_layWays_51 : decode prog_11_method_51_code 51 = .ok (.iload 4, 2) := by decide +kernel
theorem d_MO_layWays_53 : decode prog_11_method_51_code 53 = .ok (.ishr, 1) := by decide +kernel
theorem d_MO_layWays_54 : decode prog_11_method_51_code 54 = .ok (.iconst 1, 1) := by decide +kernel
theorem d_MO_layWays_55 : decode prog_11_method_51_code 55 = .ok (.iand, 1) := by decide +kernel
theorem d_MO_layWays_56 : decode prog_11_method_51_code 56 = .ok (.iconst 1, 1) := by decide +kernel
theorem d_MO_layWays_57 : decode prog_11_method_51_code 57 = .ok (.if_icmp .ne 13, 3) := by decide +kernel
theorem d_MO_layWays_60 : decode prog_11_method_51_code 60 = .ok (.aload_n 0, 1) := by decide +kernel
theorem d_MO_layWays_61 : decode prog_11_method_51_code 61 = .ok (.iload 4, 2) := by decide +kernel
theorem d_MO_layWays_63 : decode prog_11_method_51_code 63 = .ok (.iload_n 2, 1) := by decide +kernel
theorem d_MO_layWays_64 : decode prog_11_method_51_code 64 = .ok (.invokevirtual 154, 3) := by decide +kernel
theorem d_MO_layWays_67 : decode prog_11_method_51_code 67 = .ok (.goto 4, 3) := by decide +kernel
theorem d_MO_layWays_70 : decode prog_11_method_51_code 70 = .ok (.iconst 0, 1) := by decide +kernel
theorem d_MO_layWays_71 : decode prog_11_method_51_code 71 = .ok (.istore 5, 2) := by decide +kernel
theorem d_MO_layWays_73 : decode prog_11_method_51_code 73 = .ok (.bipush 39, 2) := by decide +kernel
theorem d_MO_layWays_75 : decode prog_11_method_51_code 75 = .ok (.istore 6, 2) := by decide +kernel
theorem d_MO_layWays_77 : decode prog_11_method_51_code 77 = .ok (.iload 6, 2) := by decide +kernel
theorem d_MO_layWays_79 : decode prog_11_method_51_code 79 = .ok (.ifCond .lt 59, 3) := by decide +kernel
theorem d_MO_layWays_82 : decode prog_11_method_51_code 82 = .ok (.iload 5, 2) := by decide +kernel
theorem d_MO_layWays_84 : decode prog_11_method_51_code 84 = .ok (.ifCond .le 54, 3) := by decide +kernel
theorem d_MO_layWays_87 : decode prog_11_method_51_code 87 = .ok (.aload_n 0, 1) := by decide +kernel
theorem d_MO_layWays_88 : decode prog_11_method_51_code 88 = .ok (.getfield 55, 3) := by decide +kernel
theorem d_MO_layWays_91 : decode prog_11_method_51_code 91 = .ok (.iload 6, 2) := by decide +kernel
theorem d_MO_layWays_93 : decode prog_11_method_51_code 93 = .ok (.aload_n 0, 1) := by decide +kernel
theorem d_MO_layWays_94 : decode prog_11_method_51_code 94 = .ok (.getfield 55, 3) := by decide +kernel
theorem d_MO_layWays_97 : decode prog_11_method_51_code 97 = .ok (.iload 6, 2) := by decide +kernel
theorem d_MO_layWays_99 : decode prog_11_method_51_code 99 = .ok (.laload, 1) := by decide +kernel
theorem d_MO_layWays_100 : decode prog_11_method_51_code 100 = .ok (.iload_n 3, 1) := by decide +kernel
theorem d_MO_layWays_101 : decode prog_11_method_51_code 101 = .ok (.i2l, 1) := by decide +kernel
theorem d_MO_layWays_102 : decode prog_11_method_51_code 102 = .ok (.lmul, 1) := by decide +kernel
theorem d_MO_layWays_103 : decode prog_11_method_51_code 103 = .ok (.iload 6, 2) := by decide +kernel
theorem d_MO_layWays_105 : decode prog_11_method_51_code 105 = .ok (.iload 5, 2) := by decide +kernel
theorem d_MO_layWays_107 : decode prog_11_method_51_code 107 = .ok (.if_icmp .lt 22, 3) := by decide +kernel
theorem d_MO_layWays_110 : decode prog_11_method_51_code 110 = .ok (.aload_n 0, 1) := by decide +kernel
theorem d_MO_layWays_111 : decode prog_11_method_51_code 111 = .ok (.getfield 55, 3) := by decide +kernel
theorem d_MO_layWays_114 : decode prog_11_method_51_code 114 = .ok (.iload 6, 2) := by decide +kernel
theorem d_MO_layWays_116 : decode prog_11_method_51_code 116 = .ok (.iload 5, 2) := by decide +kernel
theorem d_MO_layWays_118 : decode prog_11_method_51_code 118 = .ok (.isub, 1) := by decide +kernel
theorem d_MO_layWays_119 : decode prog_11_method_51_code 119 = .ok (.laload, 1) := by decide +kernel
theorem d_MO_layWays_120 : decode prog_11_method_51_code 120 = .ok (.bipush 10, 2) := by decide +kernel
theorem d_MO_layWays_122 : decode prog_11_method_51_code 122 = .ok (.iload_n 3, 1) := by decide +kernel
theorem d_MO_layWays_123 : decode prog_11_method_51_code 123 = .ok (.isub, 1) := by decide +kernel
theorem d_MO_layWays_124 : decode prog_11_method_51_code 124 = .ok (.i2l, 1) := by decide +kernel
theorem d_MO_layWays_125 : decode prog_11_method_51_code 125 = .ok (.lmul, 1) := by decide +kernel
theorem d_MO_layWays_126 : decode prog_11_method_51_code 126 = .ok (.goto 4, 3) := by decide +kernel
theorem d_MO_layWays_129 : decode prog_11_method_51_code 129 = .ok (.lconst 0, 1) := by decide +kernel
theorem d_MO_layWays_130 : decode prog_11_method_51_code 130 = .ok (.ladd, 1) := by decide +kernel
theorem d_MO_layWays_131 : decode prog_11_method_51_code 131 = .ok (.lastore, 1) := by decide +kernel
theorem d_MO_layWays_132 : decode prog_11_method_51_code 132 = .ok (.iinc 6 (-1), 3) := by decide +kernel
theorem d_MO_layWays_135 : decode prog_11_method_51_code 135 = .ok (.goto (-58), 3) := by decide +kernel
theorem d_MO_layWays_138 : decode prog_11_method_51_code 138 = .ok (.aload_n 0, 1) := by decide +kernel
theorem d_MO_layWays_139 : decode prog_11_method_51_code 139 = .ok (.dup, 1) := by decide +kernel
theorem d_MO_layWays_140 : decode prog_11_method_51_code 140 = .ok (.getfield 184, 3) := by decide +kernel
theorem d_MO_layWays_143 : decode prog_11_method_51_code 143 = .ok (.iload 5, 2) := by decide +kernel
theorem d_MO_layWays_145 : decode prog_11_method_51_code 145 = .ok (.ifCond .le 9, 3) := by decide +kernel
theorem d_MO_layWays_148 : decode prog_11_method_51_code 148 = .ok (.ldc2_w 188, 3) := by decide +kernel
theorem d_MO_layWays_151 : decode prog_11_method_51_code 151 = .ok (.goto 4, 3) := by decide +kernel
theorem d_MO_layWays_154 : decode prog_11_method_51_code 154 = .ok (.lconst 1, 1) := by decide +kernel
theorem d_MO_layWays_155 : decode prog_11_method_51_code 155 = .ok (.lmul, 1) := by decide +kernel
theorem d_MO_layWays_156 : decode prog_11_method_51_code 156 = .ok (.putfield 184, 3) := by decide +kernel
theorem d_MO_layWays_159 : decode prog_11_method_51_code 159 = .ok (.iinc 4 1, 3) := by decide +kernel
theorem d_MO_layWays_162 : decode prog_11_method_51_code 162 = .ok (.goto (-121), 3) := by decide +kernel
theorem d_MO_layWays_165 : decode prog_11_method_51_code 165 = .ok (.return_, 1) := by decide +kernel
theorem d_MO_less_0 : decode prog_11_method_52_code 0 = .ok (.lconst 0, 1) := by decide +kernel
theorem d_MO_less_1 : decode prog_11_method_52_code 1 = .ok (.lstore_n 2, 1) := by decide +kernel
theorem d_MO_less_2 : decode prog_11_method_52_code 2 = .ok (.iconst 0, 1) := by decide +kernel
theorem d_MO_less_3 : decode prog_11_method_52_code 3 = .ok (.istore 4, 2) := by decide +kernel
theorem d_MO_less_5 : decode prog_11_method_52_code 5 = .ok (.iload 4, 2) := by decide +kernel
theorem d_MO_less_7 : decode prog_11_method_52_code 7 = .ok (.iload_n 1, 1) := by decide +kernel
theorem d_MO_less_8 : decode prog_11_method_52_code 8 = .ok (.if_icmp .ge 19, 3) := by decide +kernel
theorem d_MO_less_11 : decode prog_11_method_52_code 11 = .ok (.lload_n 2, 1) := by decide +kernel
theorem d_MO_less_12 : decode prog_11_method_52_code 12 = .ok (.aload_n 0, 1) := by decide +kernel
theorem d_MO_less_13 : decode prog_11_method_52_code 13 = .ok (.getfield 55, 3) := by decide +kernel
theorem d_MO_less_16 : decode prog_11_method_52_code 16 = .ok (.iload 4, 2) := by decide +kernel
theorem d_MO_less_18 : decode prog_11_method_52_code 18 = .ok (.laload, 1) := by decide +kernel
theorem d_MO_less_19 : decode prog_11_method_52_code 19 = .ok (.ladd, 1) := by decide +kernel
theorem d_MO_less_20 : decode prog_11_method_52_code 20 = .ok (.lstore_n 2, 1) := by decide +kernel
theorem d_MO_less_21 : decode prog_11_method_52_code 21 = .ok (.iinc 4 1, 3) := by decide +kernel
theorem d_MO_less_24 : decode prog_11_method_52_code 24 = .ok (.goto (-19), 3) := by decide +kernel
theorem d_MO_less_27 : decode prog_11_method_52_code 27 = .ok (.lload_n 2, 1) := by decide +kernel
theorem d_MO_less_28 : decode prog_11_method_52_code 28 = .ok (.lreturn, 1) := by decide +kernel
theorem d_MO_part_0 : decode prog_11_method_53_code 0 = .ok (.lload_n 0, 1) := by decide +kernel
theorem d_MO_part_1 : decode prog_11_method_53_code 1 = .ok (.lstore 5, 2) := by decide +kernel
theorem d_MO_part_3 : decode prog_11_method_53_code 3 = .ok (.lload_n 2, 1) := by decide +kernel
theorem d_MO_part_4 : decode prog_11_method_53_code 4 = .ok (.lstore 7, 2) := by decide +kernel
theorem d_MO_part_6 : decode prog_11_method_53_code 6 = .ok (.lload 7, 2) := by decide +kernel
theorem d_MO_part_8 : decode prog_11_method_53_code 8 = .ok (.lconst 0, 1) := by decide +kernel
theorem d_MO_part_9 : decode prog_11_method_53_code 9 = .ok (.lcmp, 1) := by decide +kernel
theorem d_MO_part_10 : decode prog_11_method_53_code 10 = .ok (.ifCond .eq 21, 3) := by decide +kernel
theorem d_MO_part_13 : decode prog_11_method_53_code 13 = .ok (.lload 5, 2) := by decide +kernel
theorem d_MO_part_15 : decode prog_11_method_53_code 15 = .ok (.lload 7, 2) := by decide +kernel
theorem d_MO_part_17 : decode prog_11_method_53_code 17 = .ok (.lrem, 1) := by decide +kernel
theorem d_MO_part_18 : decode prog_11_method_53_code 18 = .ok (.lstore 9, 2) := by decide +kernel
theorem d_MO_part_20 : decode prog_11_method_53_code 20 = .ok (.lload 7, 2) := by decide +kernel
theorem d_MO_part_22 : decode prog_11_method_53_code 22 = .ok (.lstore 5, 2) := by decide +kernel
theorem d_MO_part_24 : decode prog_11_method_53_code 24 = .ok (.lload 9, 2) := by decide +kernel
theorem d_MO_part_26 : decode prog_11_method_53_code 26 = .ok (.lstore 7, 2) := by decide +kernel
theorem d_MO_part_28 : decode prog_11_method_53_code 28 = .ok (.goto (-22), 3) := by decide +kernel
theorem d_MO_part_31 : decode prog_11_method_53_code 31 = .ok (.iload 4, 2) := by decide +kernel
theorem d_MO_part_33 : decode prog_11_method_53_code 33 = .ok (.ifCond .eq 10, 3) := by decide +kernel
theorem d_MO_part_36 : decode prog_11_method_53_code 36 = .ok (.lload_n 0, 1) := by decide +kernel
theorem d_MO_part_37 : decode prog_11_method_53_code 37 = .ok (.lload 5, 2) := by decide +kernel
theorem d_MO_part_39 : decode prog_11_method_53_code 39 = .ok (.ldiv, 1) := by decide +kernel
theorem d_MO_part_40 : decode prog_11_method_53_code 40 = .ok (.goto 7, 3) := by decide +kernel
theorem d_MO_part_43 : decode prog_11_method_53_code 43 = .ok (.lload_n 2, 1) := by decide +kernel
theorem d_MO_part_44 : decode prog_11_method_53_code 44 = .ok (.lload 5, 2) := by decide +kernel
theorem d_MO_part_46 : decode prog_11_method_53_code 46 = .ok (.ldiv, 1) := by decide +kernel
theorem d_MO_part_47 : decode prog_11_method_53_code 47 = .ok (.lreturn, 1) := by decide +kernel
theorem d_MO_steady_0 : decode prog_11_method_54_code 0 = .ok (.aload_n 0, 1) := by decide +kernel
theorem d_MO_steady_1 : decode prog_11_method_54_code 1 = .ok (.iload_n 1, 1) := by decide +kernel
theorem d_MO_steady_2 : decode prog_11_method_54_code 2 = .ok (.invokevirtual 135, 3) := by decide +kernel
theorem d_MO_steady_5 : decode prog_11_method_54_code 5 = .ok (.ifCond .eq 11, 3) := by decide +kernel
theorem d_MO_steady_8 : decode prog_11_method_54_code 8 = .ok (.aload_n 0, 1) := by decide +kernel
theorem d_MO_steady_9 : decode prog_11_method_54_code 9 = .ok (.iload_n 2, 1) := by decide +kernel
theorem d_MO_steady_10 : decode prog_11_method_54_code 10 = .ok (.invokevirtual 139, 3) := by decide +kernel
theorem d_MO_steady_13 : decode prog_11_method_54_code 13 = .ok (.ifCond .ne 7, 3) := by decide +kernel
theorem d_MO_steady_16 : decode prog_11_method_54_code 16 = .ok (.ldc2_w 190, 3) := by decide +kernel
theorem d_MO_steady_19 : decode prog_11_method_54_code 19 = .ok (.lreturn, 1) := by decide +kernel
theorem d_MO_steady_20 : decode prog_11_method_54_code 20 = .ok (.iload_n 3, 1) := by decide +kernel
theorem d_MO_steady_21 : decode prog_11_method_54_code 21 = .ok (.i2l, 1) := by decide +kernel
theorem d_MO_steady_22 : decode prog_11_method_54_code 22 = .ok (.lconst 0, 1) := by decide +kernel
theorem d_MO_steady_23 : decode prog_11_method_54_code 23 = .ok (.ldc2_w 188, 3) := by decide +kernel
theorem d_MO_steady_26 : decode prog_11_method_54_code 26 = .ok (.invokestatic 75, 3) := by decide +kernel
theorem d_MO_steady_29 : decode prog_11_method_54_code 29 = .ok (.ifCond .ne 7, 3) := by decide +kernel
theorem d_MO_steady_32 : decode prog_11_method_54_code 32 = .ok (.ldc2_w 192, 3) := by decide +kernel
theorem d_MO_steady_35 : decode prog_11_method_54_code 35 = .ok (.lreturn, 1) := by decide +kernel
theorem d_MO_steady_36 : decode prog_11_method_54_code 36 = .ok (.aload_n 0, 1) := by decide +kernel
theorem d_MO_steady_37 : decode prog_11_method_54_code 37 = .ok (.aload_n 0, 1) := by decide +kernel
theorem d_MO_steady_38 : decode prog_11_method_54_code 38 = .ok (.iload_n 1, 1) := by decide +kernel
theorem d_MO_steady_39 : decode prog_11_method_54_code 39 = .ok (.invokevirtual 160, 3) := by decide +kernel
theorem d_MO_steady_42 : decode prog_11_method_54_code 42 = .ok (.iload_n 2, 1) := by decide +kernel
theorem d_MO_steady_43 : decode prog_11_method_54_code 43 = .ok (.iload_n 3, 1) := by decide +kernel
theorem d_MO_steady_44 : decode prog_11_method_54_code 44 = .ok (.invokevirtual 194, 3) := by decide +kernel
theorem d_MO_steady_47 : decode prog_11_method_54_code 47 = .ok (.aload_n 0, 1) := by decide +kernel
theorem d_MO_steady_48 : decode prog_11_method_54_code 48 = .ok (.getfield 184, 3) := by decide +kernel
theorem d_MO_steady_51 : decode prog_11_method_54_code 51 = .ok (.aload_n 0, 1) := by decide +kernel
theorem d_MO_steady_52 : decode prog_11_method_54_code 52 = .ok (.aload_n 0, 1) := by decide +kernel
theorem d_MO_steady_53 : decode prog_11_method_54_code 53 = .ok (.getfield 19, 3) := by decide +kernel
theorem d_MO_steady_56 : decode prog_11_method_54_code 56 = .ok (.iload_n 1, 1) := by decide +kernel
theorem d_MO_steady_57 : decode prog_11_method_54_code 57 = .ok (.iaload, 1) := by decide +kernel
theorem d_MO_steady_58 : decode prog_11_method_54_code 58 = .ok (.invokevirtual 198, 3) := by decide +kernel
theorem d_MO_steady_61 : decode prog_11_method_54_code 61 = .ok (.lsub, 1) := by decide +kernel
theorem d_MO_steady_62 : decode prog_11_method_54_code 62 = .ok (.aload_n 0, 1) := by decide +kernel
theorem d_MO_steady_63 : decode prog_11_method_54_code 63 = .ok (.getfield 184, 3) := by decide +kernel
theorem d_MO_steady_66 : decode prog_11_method_54_code 66 = .ok (.iload 4, 2) := by decide +kernel
theorem d_MO_steady_68 : decode prog_11_method_54_code 68 = .ok (.invokestatic 202, 3) := by decide +kernel
theorem d_MO_steady_71 : decode prog_11_method_54_code 71 = .ok (.lreturn, 1) := by decide +kernel
theorem d_MO_blame_0 : decode prog_11_method_55_code 0 = .ok (.aload_n 0, 1) := by decide +kernel
theorem d_MO_blame_1 : decode prog_11_method_55_code 1 = .ok (.iload_n 1, 1) := by decide +kernel
theorem d_MO_blame_2 : decode prog_11_method_55_code 2 = .ok (.invokevirtual 142, 3) := by decide +kernel
theorem d_MO_blame_5 : decode prog_11_method_55_code 5 = .ok (.ifCond .eq 11, 3) := by decide +kernel
theorem d_MO_blame_8 : decode prog_11_method_55_code 8 = .ok (.aload_n 0, 1) := by decide +kernel
theorem d_MO_blame_9 : decode prog_11_method_55_code 9 = .ok (.iload_n 2, 1) := by decide +kernel
theorem d_MO_blame_10 : decode prog_11_method_55_code 10 = .ok (.invokevirtual 139, 3) := by decide +kernel
theorem d_MO_blame_13 : decode prog_11_method_55_code 13 = .ok (.ifCond .ne 7, 3) := by decide +kernel
theorem d_MO_blame_16 : decode prog_11_method_55_code 16 = .ok (.ldc2_w 190, 3) := by decide +kernel
theorem d_MO_blame_19 : decode prog_11_method_55_code 19 = .ok (.lreturn, 1) := by decide +kernel
theorem d_MO_blame_20 : decode prog_11_method_55_code 20 = .ok (.iload_n 3, 1) := by decide +kernel
theorem d_MO_blame_21 : decode prog_11_method_55_code 21 = .ok (.i2l, 1) := by decide +kernel
theorem d_MO_blame_22 : decode prog_11_method_55_code 22 = .ok (.lconst 0, 1) := by decide +kernel
theorem d_MO_blame_23 : decode prog_11_method_55_code 23 = .ok (.ldc2_w 188, 3) := by decide +kernel
theorem d_MO_blame_26 : decode prog_11_method_55_code 26 = .ok (.invokestatic 75, 3) := by decide +kernel
theorem d_MO_blame_29 : decode prog_11_method_55_code 29 = .ok (.ifCond .ne 7, 3) := by decide +kernel
theorem d_MO_blame_32 : decode prog_11_method_55_code 32 = .ok (.ldc2_w 192, 3) := by decide +kernel
theorem d_MO_blame_35 : decode prog_11_method_55_code 35 = .ok (.lreturn, 1) := by decide +kernel
theorem d_MO_blame_36 : decode prog_11_method_55_code 36 = .ok (.aload_n 0, 1) := by decide +kernel
theorem d_MO_blame_37 : decode prog_11_method_55_code 37 = .ok (.getfield 22, 3) := by decide +kernel
theorem d_MO_blame_40 : decode prog_11_method_55_code 40 = .ok (.iconst 5, 1) := by decide +kernel
theorem d_MO_blame_41 : decode prog_11_method_55_code 41 = .ok (.iload_n 1, 1) := by decide +kernel
theorem d_MO_blame_42 : decode prog_11_method_55_code 42 = .ok (.imul, 1) := by decide +kernel
theorem d_MO_blame_43 : decode prog_11_method_55_code 43 = .ok (.iconst 2, 1) := by decide +kernel
theorem d_MO_blame_44 : decode prog_11_method_55_code 44 = .ok (.iadd, 1) := by decide +kernel
theorem d_MO_blame_45 : decode prog_11_method_55_code 45 = .ok (.iaload, 1) := by decide +kernel
theorem d_MO_blame_46 : decode prog_11_method_55_code 46 = .ok (.istore 5, 2) := by decide +kernel
theorem d_MO_blame_48 : decode prog_11_method_55_code 48 = .ok (.aload_n 0, 1) := by decide +kernel
theorem d_MO_blame_49 : decode prog_11_method_55_code 49 = .ok (.aload_n 0, 1) := by decide +kernel
theorem d_MO_blame_50 : decode prog_11_method_55_code 50 = .ok (.iload 5, 2) := by decide +kernel
theorem d_MO_blame_52 : decode prog_11_method_55_code 52 = .ok (.invokevirtual 160, 3) := by decide +kernel
theorem d_MO_blame_55 : decode prog_11_method_55_code 55 = .ok (.iload_n 2, 1) := by decide +kernel
theorem d_MO_blame_56 : decode prog_11_method_55_code 56 = .ok (.iload_n 3, 1) := by decide +kernel
theorem d_MO_blame_57 : decode prog_11_method_55_code 57 = .ok (.invokevirtual 194, 3) := by decide +kernel
theorem d_MO_blame_60 : decode prog_11_method_55_code 60 = .ok (.aload_n 0, 1) := by decide +kernel
theorem d_MO_blame_61 : decode prog_11_method_55_code 61 = .ok (.aload_n 0, 1) := by decide +kernel
theorem d_MO_blame_62 : decode prog_11_method_55_code 62 = .ok (.getfield 19, 3) := by decide +kernel
theorem d_MO_blame_65 : decode prog_11_method_55_code 65 = .ok (.iload 5, 2) := by decide +kernel
theorem d_MO_blame_67 : decode prog_11_method_55_code 67 = .ok (.iaload, 1) := by decide +kernel
theorem d_MO_blame_68 : decode prog_11_method_55_code 68 = .ok (.invokevirtual 198, 3) := by decide +kernel
theorem d_MO_blame_71 : decode prog_11_method_55_code 71 = .ok (.lstore 6, 2) := by decide +kernel
theorem d_MO_blame_73 : decode prog_11_method_55_code 73 = .ok (.lload 6, 2) := by decide +kernel
theorem d_MO_blame_75 : decode prog_11_method_55_code 75 = .ok (.lconst 0, 1) := by decide +kernel
theorem d_MO_blame_76 : decode prog_11_method_55_code 76 = .ok (.lcmp, 1) := by decide +kernel
theorem d_MO_blame_77 : decode prog_11_method_55_code 77 = .ok (.ifCond .ne 7, 3) := by decide +kernel
theorem d_MO_blame_80 : decode prog_11_method_55_code 80 = .ok (.ldc2_w 206, 3) := by decide +kernel
theorem d_MO_blame_83 : decode prog_11_method_55_code 83 = .ok (.lreturn, 1) := by decide +kernel
theorem d_MO_blame_84 : decode prog_11_method_55_code 84 = .ok (.aload_n 0, 1) := by decide +kernel
theorem d_MO_blame_85 : decode prog_11_method_55_code 85 = .ok (.iload_n 1, 1) := by decide +kernel
theorem d_MO_blame_86 : decode prog_11_method_55_code 86 = .ok (.iload_n 2, 1) := by decide +kernel
theorem d_MO_blame_87 : decode prog_11_method_55_code 87 = .ok (.invokevirtual 154, 3) := by decide +kernel
theorem d_MO_blame_90 : decode prog_11_method_55_code 90 = .ok (.ifCond .ne 12, 3) := by decide +kernel
theorem d_MO_blame_93 : decode prog_11_method_55_code 93 = .ok (.lconst 0, 1) := by decide +kernel
theorem d_MO_blame_94 : decode prog_11_method_55_code 94 = .ok (.lload 6, 2) := by decide +kernel
theorem d_MO_blame_96 : decode prog_11_method_55_code 96 = .ok (.iload 4, 2) := by decide +kernel
theorem d_MO_blame_98 : decode prog_11_method_55_code 98 = .ok (.invokestatic 202, 3) := by decide +kernel
theorem d_MO_blame_101 : decode prog_11_method_55_code 101 = .ok (.lreturn, 1) := by decide +kernel
theorem d_MO_blame_102 : decode prog_11_method_55_code 102 = .ok (.aload_n 0, 1) := by decide +kernel
theorem d_MO_blame_103 : decode prog_11_method_55_code 103 = .ok (.aload_n 0, 1) := by decide +kernel
theorem d_MO_blame_104 : decode prog_11_method_55_code 104 = .ok (.iload 5, 2) := by decide +kernel
theorem d_MO_blame_106 : decode prog_11_method_55_code 106 = .ok (.invokevirtual 160, 3) := by decide +kernel
theorem d_MO_blame_109 : decode prog_11_method_55_code 109 = .ok (.iconst 1, 1) := by decide +kernel
theorem d_MO_blame_110 : decode prog_11_method_55_code 110 = .ok (.iload_n 1, 1) := by decide +kernel
theorem d_MO_blame_111 : decode prog_11_method_55_code 111 = .ok (.ishl, 1) := by decide +kernel
theorem d_MO_blame_112 : decode prog_11_method_55_code 112 = .ok (.iconst (-1), 1) := by decide +kernel
theorem d_MO_blame_113 : decode prog_11_method_55_code 113 = .ok (.ixor, 1) := by decide +kernel
theorem d_MO_blame_114 : decode prog_11_method_55_code 114 = .ok (.iand, 1) := by decide +kernel
theorem d_MO_blame_115 : decode prog_11_method_55_code 115 = .ok (.iload_n 2, 1) := by decide +kernel
theorem d_MO_blame_116 : decode prog_11_method_55_code 116 = .ok (.iload_n 3, 1) := by decide +kernel
theorem d_MO_blame_117 : decode prog_11_method_55_code 117 = .ok (.invokevirtual 194, 3) := by decide +kernel
theorem d_MO_blame_120 : decode prog_11_method_55_code 120 = .ok (.aload_n 0, 1) := by decide +kernel
theorem d_MO_blame_121 : decode prog_11_method_55_code 121 = .ok (.aload_n 0, 1) := by decide +kernel
theorem d_MO_blame_122 : decode prog_11_method_55_code 122 = .ok (.getfield 19, 3) := by decide +kernel
theorem d_MO_blame_125 : decode prog_11_method_55_code 125 = .ok (.iload 5, 2) := by decide +kernel
theorem d_MO_blame_127 : decode prog_11_method_55_code 127 = .ok (.iaload, 1) := by decide +kernel
theorem d_MO_blame_128 : decode prog_11_method_55_code 128 = .ok (.invokevirtual 198, 3) := by decide +kernel
theorem d_MO_blame_131 : decode prog_11_method_55_code 131 = .ok (.iload_n 3, 1) := by decide +kernel
theorem d_MO_blame_132 : decode prog_11_method_55_code 132 = .ok (.i2l, 1) := by decide +kernel
theorem d_MO_blame_133 : decode prog_11_method_55_code 133 = .ok (.lmul, 1) := by decide +kernel
theorem d_MO_blame_134 : decode prog_11_method_55_code 134 = .ok (.lload 6, 2) := by decide +kernel
theorem d_MO_blame_136 : decode prog_11_method_55_code 136 = .ok (.iload 4, 2) := by decide +kernel
theorem d_MO_blame_138 : decode prog_11_method_55_code 138 = .ok (.invokestatic 202, 3) := by decide +kernel
theorem d_MO_blame_141 : decode prog_11_method_55_code 141 = .ok (.lreturn, 1) := by decide +kernel
theorem d_MO_keep_0 : decode prog_11_method_56_code 0 = .ok (.iload_n 1, 1) := by decide +kernel
theorem d_MO_keep_1 : decode prog_11_method_56_code 1 = .ok (.i2l, 1) := by decide +kernel
theorem d_MO_keep_2 : decode prog_11_method_56_code 2 = .ok (.lconst 0, 1) := by decide +kernel
theorem d_MO_keep_3 : decode prog_11_method_56_code 3 = .ok (.lconst 1, 1) := by decide +kernel
theorem d_MO_keep_4 : decode prog_11_method_56_code 4 = .ok (.invokestatic 75, 3) := by decide +kernel
theorem d_MO_keep_7 : decode prog_11_method_56_code 7 = .ok (.ifCond .ne 5, 3) := by decide +kernel
theorem d_MO_keep_10 : decode prog_11_method_56_code 10 = .ok (.iconst (-1), 1) := by decide +kernel
theorem d_MO_keep_11 : decode prog_11_method_56_code 11 = .ok (.ireturn, 1) := by decide +kernel
theorem d_MO_keep_12 : decode prog_11_method_56_code 12 = .ok (.aload_n 0, 1) := by decide +kernel
theorem d_MO_keep_13 : decode prog_11_method_56_code 13 = .ok (.getfield 59, 3) := by decide +kernel
theorem d_MO_keep_16 : decode prog_11_method_56_code 16 = .ok (.iload_n 1, 1) := by decide +kernel
theorem d_MO_keep_17 : decode prog_11_method_56_code 17 = .ok (.iconst 1, 1) := by decide +kernel
theorem d_MO_keep_18 : decode prog_11_method_56_code 18 = .ok (.bastore, 1) := by decide +kernel
theorem d_MO_keep_19 : decode prog_11_method_56_code 19 = .ok (.iconst 0, 1) := by decide +kernel
theorem d_MO_keep_20 : decode prog_11_method_56_code 20 = .ok (.istore_n 2, 1) := by decide +kernel
theorem d_MO_keep_21 : decode prog_11_method_56_code 21 = .ok (.iload_n 2, 1) := by decide +kernel
theorem d_MO_keep_22 : decode prog_11_method_56_code 22 = .ok (.bipush 60, 2) := by decide +kernel
theorem d_MO_keep_24 : decode prog_11_method_56_code 24 = .ok (.if_icmp .ge 26, 3) := by decide +kernel
theorem d_MO_keep_27 : decode prog_11_method_56_code 27 = .ok (.aload_n 0, 1) := by decide +kernel
theorem d_MO_keep_28 : decode prog_11_method_56_code 28 = .ok (.getfield 63, 3) := by decide +kernel
theorem d_MO_keep_31 : decode prog_11_method_56_code 31 = .ok (.bipush 60, 2) := by decide +kernel
theorem d_MO_keep_33 : decode prog_11_method_56_code 33 = .ok (.iload_n 1, 1) := by decide +kernel
theorem d_MO_keep_34 : decode prog_11_method_56_code 34 = .ok (.imul, 1) := by decide +kernel
theorem d_MO_keep_35 : decode prog_11_method_56_code 35 = .ok (.iload_n 2, 1) := by decide +kernel
theorem d_MO_keep_36 : decode prog_11_method_56_code 36 = .ok (.iadd, 1) := by decide +kernel
theorem d_MO_keep_37 : decode prog_11_method_56_code 37 = .ok (.aload_n 0, 1) := by decide +kernel
theorem d_MO_keep_38 : decode prog_11_method_56_code 38 = .ok (.getfield 22, 3) := by decide +kernel
theorem d_MO_keep_41 : decode prog_11_method_56_code 41 = .ok (.iload_n 2, 1) := by decide +kernel
theorem d_MO_keep_42 : decode prog_11_method_56_code 42 = .ok (.iaload, 1) := by decide +kernel
theorem d_MO_keep_43 : decode prog_11_method_56_code 43 = .ok (.iastore, 1) := by decide +kernel
theorem d_MO_keep_44 : decode prog_11_method_56_code 44 = .ok (.iinc 2 1, 3) := by decide +kernel
theorem d_MO_keep_47 : decode prog_11_method_56_code 47 = .ok (.goto (-26), 3) := by decide +kernel
theorem d_MO_keep_50 : decode prog_11_method_56_code 50 = .ok (.aload_n 0, 1) := by decide +kernel
theorem d_MO_keep_51 : decode prog_11_method_56_code 51 = .ok (.getfield 66, 3) := by decide +kernel
theorem d_MO_keep_54 : decode prog_11_method_56_code 54 = .ok (.iconst 2, 1) := by decide +kernel
theorem d_MO_keep_55 : decode prog_11_method_56_code 55 = .ok (.iload_n 1, 1) := by decide +kernel
theorem d_MO_keep_56 : decode prog_11_method_56_code 56 = .ok (.imul, 1) := by decide +kernel
theorem d_MO_keep_57 : decode prog_11_method_56_code 57 = .ok (.aload_n 0, 1) := by decide +kernel
theorem d_MO_keep_58 : decode prog_11_method_56_code 58 = .ok (.getfield 129, 3) := by decide +kernel
theorem d_MO_keep_61 : decode prog_11_method_56_code 61 = .ok (.iastore, 1) := by decide +kernel
theorem d_MO_keep_62 : decode prog_11_method_56_code 62 = .ok (.aload_n 0, 1) := by decide +kernel
theorem d_MO_keep_63 : decode prog_11_method_56_code 63 = .ok (.getfield 66, 3) := by decide +kernel
theorem d_MO_keep_66 : decode prog_11_method_56_code 66 = .ok (.iconst 2, 1) := by decide +kernel
theorem d_MO_keep_67 : decode prog_11_method_56_code 67 = .ok (.iload_n 1, 1) := by decide +kernel
theorem d_MO_keep_68 : decode prog_11_method_56_code 68 = .ok (.imul, 1) := by decide +kernel
theorem d_MO_keep_69 : decode prog_11_method_56_code 69 = .ok (.iconst 1, 1) := by decide +kernel
theorem d_MO_keep_70 : decode prog_11_method_56_code 70 = .ok (.iadd, 1) := by decide +kernel
theorem d_MO_keep_71 : decode prog_11_method_56_code 71 = .ok (.aload_n 0, 1) := by decide +kernel
theorem d_MO_keep_72 : decode prog_11_method_56_code 72 = .ok (.getfield 132, 3) := by decide +kernel
theorem d_MO_keep_75 : decode prog_11_method_56_code 75 = .ok (.iastore, 1) := by decide +kernel
theorem d_MO_keep_76 : decode prog_11_method_56_code 76 = .ok (.aload_n 0, 1) := by decide +kernel
theorem d_MO_keep_77 : decode prog_11_method_56_code 77 = .ok (.getfield 123, 3) := by decide +kernel
theorem d_MO_keep_80 : decode prog_11_method_56_code 80 = .ok (.ireturn, 1) := by decide +kernel
theorem d_MO_again_0 : decode prog_11_method_57_code 0 = .ok (.iload_n 1, 1) := by decide +kernel
theorem d_MO_again_1 : decode prog_11_method_57_code 1 = .ok (.i2l, 1) := by decide +kernel
theorem d_MO_again_2 : decode prog_11_method_57_code 2 = .ok (.lconst 0, 1) := by decide +kernel
theorem d_MO_again_3 : decode prog_11_method_57_code 3 = .ok (.lconst 1, 1) := by decide +kernel
theorem d_MO_again_4 : decode prog_11_method_57_code 4 = .ok (.invokestatic 75, 3) := by decide +kernel
theorem d_MO_again_7 : decode prog_11_method_57_code 7 = .ok (.ifCond .ne 5, 3) := by decide +kernel
theorem d_MO_again_10 : decode prog_11_method_57_code 10 = .ok (.iconst (-1), 1) := by decide +kernel
theorem d_MO_again_11 : decode prog_11_method_57_code 11 = .ok (.ireturn, 1) := by decide +kernel
theorem d_MO_again_12 : decode prog_11_method_57_code 12 = .ok (.aload_n 0, 1) := by decide +kernel
theorem d_MO_again_13 : decode prog_11_method_57_code 13 = .ok (.getfield 59, 3) := by decide +kernel
theorem d_MO_again_16 : decode prog_11_method_57_code 16 = .ok (.iload_n 1, 1) := by decide +kernel
theorem d_MO_again_17 : decode prog_11_method_57_code 17 = .ok (.baload, 1) := by decide +kernel
theorem d_MO_again_18 : decode prog_11_method_57_code 18 = .ok (.ifCond .ne 6, 3) := by decide +kernel
theorem d_MO_again_21 : decode prog_11_method_57_code 21 = .ok (.bipush (-3), 2) := by decide +kernel
theorem d_MO_again_23 : decode prog_11_method_57_code 23 = .ok (.ireturn, 1) := by decide +kernel
theorem d_MO_again_24 : decode prog_11_method_57_code 24 = .ok (.iconst 0, 1) := by decide +kernel
theorem d_MO_again_25 : decode prog_11_method_57_code 25 = .ok (.istore_n 2, 1) := by decide +kernel
theorem d_MO_again_26 : decode prog_11_method_57_code 26 = .ok (.iload_n 2, 1) := by decide +kernel
theorem d_MO_again_27 : decode prog_11_method_57_code 27 = .ok (.bipush 60, 2) := by decide +kernel
theorem d_MO_again_29 : decode prog_11_method_57_code 29 = .ok (.if_icmp .ge 26, 3) := by decide +kernel
theorem d_MO_again_32 : decode prog_11_method_57_code 32 = .ok (.aload_n 0, 1) := by decide +kernel
theorem d_MO_again_33 : decode prog_11_method_57_code 33 = .ok (.getfield 22, 3) := by decide +kernel
theorem d_MO_again_36 : decode prog_11_method_57_code 36 = .ok (.iload_n 2, 1) := by decide +kernel
theorem d_MO_again_37 : decode prog_11_method_57_code 37 = .ok (.aload_n 0, 1) := by decide +kernel
theorem d_MO_again_38 : decode prog_11_method_57_code 38 = .ok (.getfield 63, 3) := by decide +kernel
theorem d_MO_again_41 : decode prog_11_method_57_code 41 = .ok (.bipush 60, 2) := by decide +kernel
theorem d_MO_again_43 : decode prog_11_method_57_code 43 = .ok (.iload_n 1, 1) := by decide +kernel
theorem d_MO_again_44 : decode prog_11_method_57_code 44 = .ok (.imul, 1) := by decide +kernel
theorem d_MO_again_45 : decode prog_11_method_57_code 45 = .ok (.iload_n 2, 1) := by decide +kernel
theorem d_MO_again_46 : decode prog_11_method_57_code 46 = .ok (.iadd, 1) := by decide +kernel
theorem d_MO_again_47 : decode prog_11_method_57_code 47 = .ok (.iaload, 1) := by decide +kernel
theorem d_MO_again_48 : decode prog_11_method_57_code 48 = .ok (.iastore, 1) := by decide +kernel
theorem d_MO_again_49 : decode prog_11_method_57_code 49 = .ok (.iinc 2 1, 3) := by decide +kernel
theorem d_MO_again_52 : decode prog_11_method_57_code 52 = .ok (.goto (-26), 3) := by decide +kernel
theorem d_MO_again_55 : decode prog_11_method_57_code 55 = .ok (.aload_n 0, 1) := by decide +kernel
theorem d_MO_again_56 : decode prog_11_method_57_code 56 = .ok (.aload_n 0, 1) := by decide +kernel
theorem d_MO_again_57 : decode prog_11_method_57_code 57 = .ok (.getfield 66, 3) := by decide +kernel
theorem d_MO_again_60 : decode prog_11_method_57_code 60 = .ok (.iconst 2, 1) := by decide +kernel
theorem d_MO_again_61 : decode prog_11_method_57_code 61 = .ok (.iload_n 1, 1) := by decide +kernel
theorem d_MO_again_62 : decode prog_11_method_57_code 62 = .ok (.imul, 1) := by decide +kernel
theorem d_MO_again_63 : decode prog_11_method_57_code 63 = .ok (.iaload, 1) := by decide +kernel
theorem d_MO_again_64 : decode prog_11_method_57_code 64 = .ok (.putfield 129, 3) := by decide +kernel
theorem d_MO_again_67 : decode prog_11_method_57_code 67 = .ok (.aload_n 0, 1) := by decide +kernel
theorem d_MO_again_68 : decode prog_11_method_57_code 68 = .ok (.aload_n 0, 1) := by decide +kernel
theorem d_MO_again_69 : decode prog_11_method_57_code 69 = .ok (.getfield 66, 3) := by decide +kernel
theorem d_MO_again_72 : decode prog_11_method_57_code 72 = .ok (.iconst 2, 1) := by decide +kernel
theorem d_MO_again_73 : decode prog_11_method_57_code 73 = .ok (.iload_n 1, 1) := by decide +kernel
theorem d_MO_again_74 : decode prog_11_method_57_code 74 = .ok (.imul, 1) := by decide +kernel
theorem d_MO_again_75 : decode prog_11_method_57_code 75 = .ok (.iconst 1, 1) := by decide +kernel
theorem d_MO_again_76 : decode prog_11_method_57_code 76 = .ok (.iadd, 1) := by decide +kernel
theorem d_MO_again_77 : decode prog_11_method_57_code 77 = .ok (.iaload, 1) := by decide +kernel
theorem d_MO_again_78 : decode prog_11_method_57_code 78 = .ok (.putfield 132, 3) := by decide +kernel
theorem d_MO_again_81 : decode prog_11_method_57_code 81 = .ok (.aload_n 0, 1) := by decide +kernel
theorem d_MO_again_82 : decode prog_11_method_57_code 82 = .ok (.getfield 123, 3) := by decide +kernel
theorem d_MO_again_85 : decode prog_11_method_57_code 85 = .ok (.ireturn, 1) := by decide +kernel
theorem d_MO_count_0 : decode prog_11_method_58_code 0 = .ok (.iconst 0, 1) := by decide +kernel
theorem d_MO_count_1 : decode prog_11_method_58_code 1 = .ok (.istore_n 2, 1) := by decide +kernel
theorem d_MO_count_2 : decode prog_11_method_58_code 2 = .ok (.iconst 0, 1) := by decide +kernel
theorem d_MO_count_3 : decode prog_11_method_58_code 3 = .ok (.istore_n 3, 1) := by decide +kernel
theorem d_MO_count_4 : decode prog_11_method_58_code 4 = .ok (.iload_n 3, 1) := by decide +kernel
theorem d_MO_count_5 : decode prog_11_method_58_code 5 = .ok (.aload_n 0, 1) := by decide +kernel
theorem d_MO_count_6 : decode prog_11_method_58_code 6 = .ok (.getfield 123, 3) := by decide +kernel
theorem d_MO_count_9 : decode prog_11_method_58_code 9 = .ok (.if_icmp .ge 22, 3) := by decide +kernel
theorem d_MO_count_12 : decode prog_11_method_58_code 12 = .ok (.iload_n 2, 1) := by decide +kernel
theorem d_MO_count_13 : decode prog_11_method_58_code 13 = .ok (.aload_n 0, 1) := by decide +kernel
theorem d_MO_count_14 : decode prog_11_method_58_code 14 = .ok (.getfield 22, 3) := by decide +kernel
theorem d_MO_count_17 : decode prog_11_method_58_code 17 = .ok (.iconst 5, 1) := by decide +kernel
theorem d_MO_count_18 : decode prog_11_method_58_code 18 = .ok (.iload_n 3, 1) := by decide +kernel
theorem d_MO_count_19 : decode prog_11_method_58_code 19 = .ok (.imul, 1) := by decide +kernel
theorem d_MO_count_20 : decode prog_11_method_58_code 20 = .ok (.iconst 4, 1) := by decide +kernel
theorem d_MO_count_21 : decode prog_11_method_58_code 21 = .ok (.iadd, 1) := by decide +kernel
theorem d_MO_count_22 : decode prog_11_method_58_code 22 = .ok (.iaload, 1) := by decide +kernel
theorem d_MO_count_23 : decode prog_11_method_58_code 23 = .ok (.iadd, 1) := by decide +kernel
theorem d_MO_count_24 : decode prog_11_method_58_code 24 = .ok (.istore_n 2, 1) := by decide +kernel
theorem d_MO_count_25 : decode prog_11_method_58_code 25 = .ok (.iinc 3 1, 3) := by decide +kernel
theorem d_MO_count_28 : decode prog_11_method_58_code 28 = .ok (.goto (-24), 3) := by decide +kernel
theorem d_MO_count_31 : decode prog_11_method_58_code 31 = .ok (.iload_n 1, 1) := by decide +kernel
theorem d_MO_count_32 : decode prog_11_method_58_code 32 = .ok (.tableswitch 76 0 6 #[44, 49, 54, 59, 64, 66, 71], 44) := by decide +kernel
theorem d_MO_count_76 : decode prog_11_method_58_code 76 = .ok (.aload_n 0, 1) := by decide +kernel
theorem d_MO_count_77 : decode prog_11_method_58_code 77 = .ok (.getfield 79, 3) := by decide +kernel
theorem d_MO_count_80 : decode prog_11_method_58_code 80 = .ok (.ireturn, 1) := by decide +kernel
theorem d_MO_count_81 : decode prog_11_method_58_code 81 = .ok (.aload_n 0, 1) := by decide +kernel
theorem d_MO_count_82 : decode prog_11_method_58_code 82 = .ok (.getfield 69, 3) := by decide +kernel
theorem d_MO_count_85 : decode prog_11_method_58_code 85 = .ok (.ireturn, 1) := by decide +kernel
theorem d_MO_count_86 : decode prog_11_method_58_code 86 = .ok (.aload_n 0, 1) := by decide +kernel
theorem d_MO_count_87 : decode prog_11_method_58_code 87 = .ok (.getfield 123, 3) := by decide +kernel
theorem d_MO_count_90 : decode prog_11_method_58_code 90 = .ok (.ireturn, 1) := by decide +kernel
theorem d_MO_count_91 : decode prog_11_method_58_code 91 = .ok (.aload_n 0, 1) := by decide +kernel
theorem d_MO_count_92 : decode prog_11_method_58_code 92 = .ok (.getfield 126, 3) := by decide +kernel
theorem d_MO_count_95 : decode prog_11_method_58_code 95 = .ok (.ireturn, 1) := by decide +kernel
theorem d_MO_count_96 : decode prog_11_method_58_code 96 = .ok (.iload_n 2, 1) := by decide +kernel
theorem d_MO_count_97 : decode prog_11_method_58_code 97 = .ok (.ireturn, 1) := by decide +kernel
theorem d_MO_count_98 : decode prog_11_method_58_code 98 = .ok (.aload_n 0, 1) := by decide +kernel
theorem d_MO_count_99 : decode prog_11_method_58_code 99 = .ok (.getfield 129, 3) := by decide +kernel
theorem d_MO_count_102 : decode prog_11_method_58_code 102 = .ok (.ireturn, 1) := by decide +kernel
theorem d_MO_count_103 : decode prog_11_method_58_code 103 = .ok (.aload_n 0, 1) := by decide +kernel
theorem d_MO_count_104 : decode prog_11_method_58_code 104 = .ok (.getfield 132, 3) := by decide +kernel
theorem d_MO_count_107 : decode prog_11_method_58_code 107 = .ok (.ireturn, 1) := by decide +kernel
theorem d_MO_count_108 : decode prog_11_method_58_code 108 = .ok (.bipush (-2), 2) := by decide +kernel
theorem d_MO_count_110 : decode prog_11_method_58_code 110 = .ok (.ireturn, 1) := by decide +kernel
end
section
/-! decode rows -/
theorem d_LW_law_0 : decode code 0 = .ok (.new 7, 3) := by decide +kernel
theorem d_LW_law_3 : decode code 3 = .ok (.dup, 1) := by decide +kernel
theorem d_LW_law_4 : decode code 4 = .ok (.invokespecial 9, 3) := by decide +kernel
theorem d_LW_law_7 : decode code 7 = .ok (.astore_n 1, 1) := by decide +kernel
theorem d_LW_law_8 : decode code 8 = .ok (.new 10, 3) := by decide +kernel
theorem d_LW_law_11 : decode code 11 = .ok (.dup, 1) := by decide +kernel
theorem d_LW_law_12 : decode code 12 = .ok (.invokespecial 12, 3) := by decide +kernel
theorem d_LW_law_15 : decode code 15 = .ok (.astore_n 2, 1) := by decide +kernel
theorem d_LW_law_16 : decode code 16 = .ok (.iconst 0, 1) := by decide +kernel
theorem d_LW_law_17 : decode code 17 = .ok (.istore_n 3, 1) := by decide +kernel
theorem d_LW_law_18 : decode code 18 = .ok (.iload_n 3, 1) := by decide +kernel
theorem d_LW_law_19 : decode code 19 = .ok (.aload_n 0, 1) := by decide +kernel
theorem d_LW_law_20 : decode code 20 = .ok (.arraylength, 1) := by decide +kernel
theorem d_LW_law_21 : decode code 21 = .ok (.iconst 5, 1) := by decide +kernel
theorem d_LW_law_22 : decode code 22 = .ok (.isub, 1) := by decide +kernel
theorem d_LW_law_23 : decode code 23 = .ok (.if_icmp .gt 1072, 3) := by decide +kernel
theorem d_LW_law_26 : decode code 26 = .ok (.aload_n 0, 1) := by decide +kernel
theorem d_LW_law_27 : decode code 27 = .ok (.iload_n 3, 1) := by decide +kernel
theorem d_LW_law_28 : decode code 28 = .ok (.iaload, 1) := by decide +kernel
theorem d_LW_law_29 : decode code 29 = .ok (.bipush 63, 2) := by decide +kernel
theorem d_LW_law_31 : decode code 31 = .ok (.iand, 1) := by decide +kernel
theorem d_LW_law_32 : decode code 32 = .ok (.tableswitch 1057 0 32 #[148, 211, 224, 237, 250, 273, 306, 339, 372, 405, 454, 477, 500, 523, 556, 589, 622, 655, 668, 681, 694, 707, 730, 763, 776, 799, 812, 835, 848, 918, 988, 1011, 1034], 148) := by decide +kernel
theorem d_LW_law_180 : decode code 180 = .ok (.aload_n 1, 1) := by decide +kernel
theorem d_LW_law_181 : decode code 181 = .ok (.aload_n 0, 1) := by decide +kernel
theorem d_LW_law_182 : decode code 182 = .ok (.iload_n 3, 1) := by decide +kernel
theorem d_LW_law_183 : decode code 183 = .ok (.iconst 1, 1) := by decide +kernel
theorem d_LW_law_184 : decode code 184 = .ok (.iadd, 1) := by decide +kernel
theorem d_LW_law_185 : decode code 185 = .ok (.iaload, 1) := by decide +kernel
theorem d_LW_law_186 : decode code 186 = .ok (.aload_n 0, 1) := by decide +kernel
theorem d_LW_law_187 : decode code 187 = .ok (.iload_n 3, 1) := by decide +kernel
theorem d_LW_law_188 : decode code 188 = .ok (.iconst 2, 1) := by decide +kernel
theorem d_LW_law_189 : decode code 189 = .ok (.iadd, 1) := by decide +kernel
theorem d_LW_law_190 : decode code 190 = .ok (.iaload, 1) := by decide +kernel
theorem d_LW_law_191 : decode code 191 = .ok (.i2l, 1) := by decide +kernel
theorem d_LW_law_192 : decode code 192 = .ok (.bipush 32, 2) := by decide +kernel
theorem d_LW_law_194 : decode code 194 = .ok (.lshl, 1) := by decide +kernel
theorem d_LW_law_195 : decode code 195 = .ok (.aload_n 0, 1) := by decide +kernel
theorem d_LW_law_196 : decode code 196 = .ok (.iload_n 3, 1) := by decide +kernel
theorem d_LW_law_197 : decode code 197 = .ok (.iconst 3, 1) := by decide +kernel
theorem d_LW_law_198 : decode code 198 = .ok (.iadd, 1) := by decide +kernel
theorem d_LW_law_199 : decode code 199 = .ok (.iaload, 1) := by decide +kernel
theorem d_LW_law_200 : decode code 200 = .ok (.i2l, 1) := by decide +kernel
theorem d_LW_law_201 : decode code 201 = .ok (.ldc2_w 13, 3) := by decide +kernel
theorem d_LW_law_204 : decode code 204 = .ok (.land, 1) := by decide +kernel
theorem d_LW_law_205 : decode code 205 = .ok (.lor, 1) := by decide +kernel
theorem d_LW_law_206 : decode code 206 = .ok (.invokevirtual 15, 3) := by decide +kernel
theorem d_LW_law_209 : decode code 209 = .ok (.aload_n 2, 1) := by decide +kernel
theorem d_LW_law_210 : decode code 210 = .ok (.aload_n 0, 1) := by decide +kernel
theorem d_LW_law_211 : decode code 211 = .ok (.iload_n 3, 1) := by decide +kernel
theorem d_LW_law_212 : decode code 212 = .ok (.iconst 1, 1) := by decide +kernel
theorem d_LW_law_213 : decode code 213 = .ok (.iadd, 1) := by decide +kernel
theorem d_LW_law_214 : decode code 214 = .ok (.iaload, 1) := by decide +kernel
theorem d_LW_law_215 : decode code 215 = .ok (.aload_n 0, 1) := by decide +kernel
theorem d_LW_law_216 : decode code 216 = .ok (.iload_n 3, 1) := by decide +kernel
theorem d_LW_law_217 : decode code 217 = .ok (.iconst 2, 1) := by decide +kernel
theorem d_LW_law_218 : decode code 218 = .ok (.iadd, 1) := by decide +kernel
theorem d_LW_law_219 : decode code 219 = .ok (.iaload, 1) := by decide +kernel
theorem d_LW_law_220 : decode code 220 = .ok (.i2l, 1) := by decide +kernel
theorem d_LW_law_221 : decode code 221 = .ok (.bipush 32, 2) := by decide +kernel
theorem d_LW_law_223 : decode code 223 = .ok (.lshl, 1) := by decide +kernel
theorem d_LW_law_224 : decode code 224 = .ok (.aload_n 0, 1) := by decide +kernel
theorem d_LW_law_225 : decode code 225 = .ok (.iload_n 3, 1) := by decide +kernel
theorem d_LW_law_226 : decode code 226 = .ok (.iconst 3, 1) := by decide +kernel
theorem d_LW_law_227 : decode code 227 = .ok (.iadd, 1) := by decide +kernel
theorem d_LW_law_228 : decode code 228 = .ok (.iaload, 1) := by decide +kernel
theorem d_LW_law_229 : decode code 229 = .ok (.i2l, 1) := by decide +kernel
theorem d_LW_law_230 : decode code 230 = .ok (.ldc2_w 13, 3) := by decide +kernel
theorem d_LW_law_233 : decode code 233 = .ok (.land, 1) := by decide +kernel
theorem d_LW_law_234 : decode code 234 = .ok (.lor, 1) := by decide +kernel
theorem d_LW_law_235 : decode code 235 = .ok (.invokevirtual 19, 3) := by decide +kernel
theorem d_LW_law_238 : decode code 238 = .ok (.if_icmp .eq 851, 3) := by decide +kernel
theorem d_LW_law_241 : decode code 241 = .ok (.iconst 0, 1) := by decide +kernel
theorem d_LW_law_242 : decode code 242 = .ok (.ireturn, 1) := by decide +kernel
theorem d_LW_law_243 : decode code 243 = .ok (.aload_n 1, 1) := by decide +kernel
theorem d_LW_law_244 : decode code 244 = .ok (.invokevirtual 20, 3) := by decide +kernel
theorem d_LW_law_247 : decode code 247 = .ok (.aload_n 2, 1) := by decide +kernel
theorem d_LW_law_248 : decode code 248 = .ok (.invokevirtual 24, 3) := by decide +kernel
theorem d_LW_law_251 : decode code 251 = .ok (.if_icmp .eq 838, 3) := by decide +kernel
theorem d_LW_law_254 : decode code 254 = .ok (.iconst 0, 1) := by decide +kernel
theorem d_LW_law_255 : decode code 255 = .ok (.ireturn, 1) := by decide +kernel
theorem d_LW_law_256 : decode code 256 = .ok (.aload_n 1, 1) := by decide +kernel
theorem d_LW_law_257 : decode code 257 = .ok (.invokevirtual 25, 3) := by decide +kernel
theorem d_LW_law_260 : decode code 260 = .ok (.aload_n 2, 1) := by decide +kernel
theorem d_LW_law_261 : decode code 261 = .ok (.invokevirtual 28, 3) := by decide +kernel
theorem d_LW_law_264 : decode code 264 = .ok (.if_icmp .eq 825, 3) := by decide +kernel
theorem d_LW_law_267 : decode code 267 = .ok (.iconst 0, 1) := by decide +kernel
theorem d_LW_law_268 : decode code 268 = .ok (.ireturn, 1) := by decide +kernel
theorem d_LW_law_269 : decode code 269 = .ok (.aload_n 1, 1) := by decide +kernel
theorem d_LW_law_270 : decode code 270 = .ok (.invokevirtual 29, 3) := by decide +kernel
theorem d_LW_law_273 : decode code 273 = .ok (.aload_n 2, 1) := by decide +kernel
theorem d_LW_law_274 : decode code 274 = .ok (.invokevirtual 32, 3) := by decide +kernel
theorem d_LW_law_277 : decode code 277 = .ok (.if_icmp .eq 812, 3) := by decide +kernel
theorem d_LW_law_280 : decode code 280 = .ok (.iconst 0, 1) := by decide +kernel
theorem d_LW_law_281 : decode code 281 = .ok (.ireturn, 1) := by decide +kernel
theorem d_LW_law_282 : decode code 282 = .ok (.aload_n 1, 1) := by decide +kernel
theorem d_LW_law_283 : decode code 283 = .ok (.aload_n 0, 1) := by decide +kernel
theorem d_LW_law_284 : decode code 284 = .ok (.iload_n 3, 1) := by decide +kernel
theorem d_LW_law_285 : decode code 285 = .ok (.iconst 1, 1) := by decide +kernel
theorem d_LW_law_286 : decode code 286 = .ok (.iadd, 1) := by decide +kernel
theorem d_LW_law_287 : decode code 287 = .ok (.iaload, 1) := by decide +kernel
theorem d_LW_law_288 : decode code 288 = .ok (.invokevirtual 33, 3) := by decide +kernel
theorem d_LW_law_291 : decode code 291 = .ok (.aload_n 2, 1) := by decide +kernel
theorem d_LW_law_292 : decode code 292 = .ok (.aload_n 0, 1) := by decide +kernel
theorem d_LW_law_293 : decode code 293 = .ok (.iload_n 3, 1) := by decide +kernel
theorem d_LW_law_294 : decode code 294 = .ok (.iconst 1, 1) := by decide +kernel
theorem d_LW_law_295 : decode code 295 = .ok (.iadd, 1) := by decide +kernel
theorem d_LW_law_296 : decode code 296 = .ok (.iaload, 1) := by decide +kernel
theorem d_LW_law_297 : decode code 297 = .ok (.invokevirtual 37, 3) := by decide +kernel
theorem d_LW_law_300 : decode code 300 = .ok (.if_icmp .eq 789, 3) := by decide +kernel
theorem d_LW_law_303 : decode code 303 = .ok (.iconst 0, 1) := by decide +kernel
theorem d_LW_law_304 : decode code 304 = .ok (.ireturn, 1) := by decide +kernel
theorem d_LW_law_305 : decode code 305 = .ok (.aload_n 1, 1) := by decide +kernel
theorem d_LW_law_306 : decode code 306 = .ok (.aload_n 0, 1) := by decide +kernel
theorem d_LW_law_307 : decode code 307 = .ok (.iload_n 3, 1) := by decide +kernel
theorem d_LW_law_308 : decode code 308 = .ok (.iconst 1, 1) := by decide +kernel
theorem d_LW_law_309 : decode code 309 = .ok (.iadd, 1) := by decide +kernel
theorem d_LW_law_310 : decode code 310 = .ok (.iaload, 1) := by decide +kernel
theorem d_LW_law_311 : decode code 311 = .ok (.aload_n 0, 1) := by decide +kernel
theorem d_LW_law_312 : decode code 312 = .ok (.iload_n 3, 1) := by decide +kernel
theorem d_LW_law_313 : decode code 313 = .ok (.iconst 2, 1) := by decide +kernel
theorem d_LW_law_314 : decode code 314 = .ok (.iadd, 1) := by decide +kernel
theorem d_LW_law_315 : decode code 315 = .ok (.iaload, 1) := by decide +kernel
theorem d_LW_law_316 : decode code 316 = .ok (.invokevirtual 38, 3) := by decide +kernel
theorem d_LW_law_319 : decode code 319 = .ok (.aload_n 2, 1) := by decide +kernel
theorem d_LW_law_320 : decode code 320 = .ok (.aload_n 0, 1) := by decide +kernel
theorem d_LW_law_321 : decode code 321 = .ok (.iload_n 3, 1) := by decide +kernel
theorem d_LW_law_322 : decode code 322 = .ok (.iconst 1, 1) := by decide +kernel
theorem d_LW_law_323 : decode code 323 = .ok (.iadd, 1) := by decide +kernel
theorem d_LW_law_324 : decode code 324 = .ok (.iaload, 1) := by decide +kernel
theorem d_LW_law_325 : decode code 325 = .ok (.aload_n 0, 1) := by decide +kernel
theorem d_LW_law_326 : decode code 326 = .ok (.iload_n 3, 1) := by decide +kernel
theorem d_LW_law_327 : decode code 327 = .ok (.iconst 2, 1) := by decide +kernel
theorem d_LW_law_328 : decode code 328 = .ok (.iadd, 1) := by decide +kernel
theorem d_LW_law_329 : decode code 329 = .ok (.iaload, 1) := by decide +kernel
theorem d_LW_law_330 : decode code 330 = .ok (.invokevirtual 42, 3) := by decide +kernel
theorem d_LW_law_333 : decode code 333 = .ok (.if_icmp .eq 756, 3) := by decide +kernel
theorem d_LW_law_336 : decode code 336 = .ok (.iconst 0, 1) := by decide +kernel
theorem d_LW_law_337 : decode code 337 = .ok (.ireturn, 1) := by decide +kernel
theorem d_LW_law_338 : decode code 338 = .ok (.aload_n 1, 1) := by decide +kernel
theorem d_LW_law_339 : decode code 339 = .ok (.aload_n 0, 1) := by decide +kernel
theorem d_LW_law_340 : decode code 340 = .ok (.iload_n 3, 1) := by decide +kernel
theorem d_LW_law_341 : decode code 341 = .ok (.iconst 1, 1) := by decide +kernel
theorem d_LW_law_342 : decode code 342 = .ok (.iadd, 1) := by decide +kernel
theorem d_LW_law_343 : decode code 343 = .ok (.iaload, 1) := by decide +kernel
theorem d_LW_law_344 : decode code 344 = .ok (.aload_n 0, 1) := by decide +kernel
theorem d_LW_law_345 : decode code 345 = .ok (.iload_n 3, 1) := by decide +kernel
theorem d_LW_law_346 : decode code 346 = .ok (.iconst 2, 1) := by decide +kernel
theorem d_LW_law_347 : decode code 347 = .ok (.iadd, 1) := by decide +kernel
theorem d_LW_law_348 : decode code 348 = .ok (.iaload, 1) := by decide +kernel
theorem d_LW_law_349 : decode code 349 = .ok (.invokevirtual 43, 3) := by decide +kernel
theorem d_LW_law_352 : decode code 352 = .ok (.aload_n 2, 1) := by decide +kernel
theorem d_LW_law_353 : decode code 353 = .ok (.aload_n 0, 1) := by decide +kernel
theorem d_LW_law_354 : decode code 354 = .ok (.iload_n 3, 1) := by decide +kernel
theorem d_LW_law_355 : decode code 355 = .ok (.iconst 1, 1) := by decide +kernel
theorem d_LW_law_356 : decode code 356 = .ok (.iadd, 1) := by decide +kernel
theorem d_LW_law_357 : decode code 357 = .ok (.iaload, 1) := by decide +kernel
theorem d_LW_law_358 : decode code 358 = .ok (.aload_n 0, 1) := by decide +kernel
theorem d_LW_law_359 : decode code 359 = .ok (.iload_n 3, 1) := by decide +kernel
theorem d_LW_law_360 : decode code 360 = .ok (.iconst 2, 1) := by decide +kernel
theorem d_LW_law_361 : decode code 361 = .ok (.iadd, 1) := by decide +kernel
theorem d_LW_law_362 : decode code 362 = .ok (.iaload, 1) := by decide +kernel
theorem d_LW_law_363 : decode code 363 = .ok (.invokevirtual 46, 3) := by decide +kernel
theorem d_LW_law_366 : decode code 366 = .ok (.if_icmp .eq 723, 3) := by decide +kernel
theorem d_LW_law_369 : decode code 369 = .ok (.iconst 0, 1) := by decide +kernel
theorem d_LW_law_370 : decode code 370 = .ok (.ireturn, 1) := by decide +kernel
theorem d_LW_law_371 : decode code 371 = .ok (.aload_n 1, 1) := by decide +kernel
theorem d_LW_law_372 : decode code 372 = .ok (.aload_n 0, 1) := by decide +kernel
theorem d_LW_law_373 : decode code 373 = .ok (.iload_n 3, 1) := by decide +kernel
theorem d_LW_law_374 : decode code 374 = .ok (.iconst 1, 1) := by decide +kernel
theorem d_LW_law_375 : decode code 375 = .ok (.iadd, 1) := by decide +kernel
theorem d_LW_law_376 : decode code 376 = .ok (.iaload, 1) := by decide +kernel
theorem d_LW_law_377 : decode code 377 = .ok (.aload_n 0, 1) := by decide +kernel
theorem d_LW_law_378 : decode code 378 = .ok (.iload_n 3, 1) := by decide +kernel
theorem d_LW_law_379 : decode code 379 = .ok (.iconst 2, 1) := by decide +kernel
theorem d_LW_law_380 : decode code 380 = .ok (.iadd, 1) := by decide +kernel
theorem d_LW_law_381 : decode code 381 = .ok (.iaload, 1) := by decide +kernel
theorem d_LW_law_382 : decode code 382 = .ok (.invokevirtual 47, 3) := by decide +kernel
theorem d_LW_law_385 : decode code 385 = .ok (.aload_n 2, 1) := by decide +kernel
theorem d_LW_law_386 : decode code 386 = .ok (.aload_n 0, 1) := by decide +kernel
theorem d_LW_law_387 : decode code 387 = .ok (.iload_n 3, 1) := by decide +kernel
theorem d_LW_law_388 : decode code 388 = .ok (.iconst 1, 1) := by decide +kernel
theorem d_LW_law_389 : decode code 389 = .ok (.iadd, 1) := by decide +kernel
theorem d_LW_law_390 : decode code 390 = .ok (.iaload, 1) := by decide +kernel
theorem d_LW_law_391 : decode code 391 = .ok (.aload_n 0, 1) := by decide +kernel
theorem d_LW_law_392 : decode code 392 = .ok (.iload_n 3, 1) := by decide +kernel
theorem d_LW_law_393 : decode code 393 = .ok (.iconst 2, 1) := by decide +kernel
theorem d_LW_law_394 : decode code 394 = .ok (.iadd, 1) := by decide +kernel
theorem d_LW_law_395 : decode code 395 = .ok (.iaload, 1) := by decide +kernel
theorem d_LW_law_396 : decode code 396 = .ok (.invokevirtual 50, 3) := by decide +kernel
theorem d_LW_law_399 : decode code 399 = .ok (.if_icmp .eq 690, 3) := by decide +kernel
theorem d_LW_law_402 : decode code 402 = .ok (.iconst 0, 1) := by decide +kernel
theorem d_LW_law_403 : decode code 403 = .ok (.ireturn, 1) := by decide +kernel
theorem d_LW_law_404 : decode code 404 = .ok (.aload_n 1, 1) := by decide +kernel
theorem d_LW_law_405 : decode code 405 = .ok (.aload_n 0, 1) := by decide +kernel
theorem d_LW_law_406 : decode code 406 = .ok (.iload_n 3, 1) := by decide +kernel
theorem d_LW_law_407 : decode code 407 = .ok (.iconst 1, 1) := by decide +kernel
theorem d_LW_law_408 : decode code 408 = .ok (.iadd, 1) := by decide +kernel
theorem d_LW_law_409 : decode code 409 = .ok (.iaload, 1) := by decide +kernel
theorem d_LW_law_410 : decode code 410 = .ok (.aload_n 0, 1) := by decide +kernel
theorem d_LW_law_411 : decode code 411 = .ok (.iload_n 3, 1) := by decide +kernel
theorem d_LW_law_412 : decode code 412 = .ok (.iconst 2, 1) := by decide +kernel
theorem d_LW_law_413 : decode code 413 = .ok (.iadd, 1) := by decide +kernel
theorem d_LW_law_414 : decode code 414 = .ok (.iaload, 1) := by decide +kernel
theorem d_LW_law_415 : decode code 415 = .ok (.invokevirtual 51, 3) := by decide +kernel
theorem d_LW_law_418 : decode code 418 = .ok (.aload_n 2, 1) := by decide +kernel
theorem d_LW_law_419 : decode code 419 = .ok (.aload_n 0, 1) := by decide +kernel
theorem d_LW_law_420 : decode code 420 = .ok (.iload_n 3, 1) := by decide +kernel
theorem d_LW_law_421 : decode code 421 = .ok (.iconst 1, 1) := by decide +kernel
theorem d_LW_law_422 : decode code 422 = .ok (.iadd, 1) := by decide +kernel
theorem d_LW_law_423 : decode code 423 = .ok (.iaload, 1) := by decide +kernel
theorem d_LW_law_424 : decode code 424 = .ok (.aload_n 0, 1) := by decide +kernel
theorem d_LW_law_425 : decode code 425 = .ok (.iload_n 3, 1) := by decide +kernel
theorem d_LW_law_426 : decode code 426 = .ok (.iconst 2, 1) := by decide +kernel
theorem d_LW_law_427 : decode code 427 = .ok (.iadd, 1) := by decide +kernel
theorem d_LW_law_428 : decode code 428 = .ok (.iaload, 1) := by decide +kernel
theorem d_LW_law_429 : decode code 429 = .ok (.invokevirtual 54, 3) := by decide +kernel
theorem d_LW_law_432 : decode code 432 = .ok (.if_icmp .eq 657, 3) := by decide +kernel
theorem d_LW_law_435 : decode code 435 = .ok (.iconst 0, 1) := by decide +kernel
theorem d_LW_law_436 : decode code 436 = .ok (.ireturn, 1) := by decide +kernel
theorem d_LW_law_437 : decode code 437 = .ok (.aload_n 1, 1) := by decide +kernel
theorem d_LW_law_438 : decode code 438 = .ok (.aload_n 0, 1) := by decide +kernel
theorem d_LW_law_439 : decode code 439 = .ok (.iload_n 3, 1) := by decide +kernel
theorem d_LW_law_440 : decode code 440 = .ok (.iconst 1, 1) := by decide +kernel
theorem d_LW_law_441 : decode code 441 = .ok (.iadd, 1) := by decide +kernel
theorem d_LW_law_442 : decode code 442 = .ok (.iaload, 1) := by decide +kernel
theorem d_LW_law_443 : decode code 443 = .ok (.aload_n 0, 1) := by decide +kernel
theorem d_LW_law_444 : decode code 444 = .ok (.iload_n 3, 1) := by decide +kernel
theorem d_LW_law_445 : decode code 445 = .ok (.iconst 2, 1) := by decide +kernel
theorem d_LW_law_446 : decode code 446 = .ok (.iadd, 1) := by decide +kernel
theorem d_LW_law_447 : decode code 447 = .ok (.iaload, 1) := by decide +kernel
theorem d_LW_law_448 : decode code 448 = .ok (.ifCond .eq 7, 3) := by decide +kernel
theorem d_LW_law_451 : decode code 451 = .ok (.iconst 1, 1) := by decide +kernel
theorem d_LW_law_452 : decode code 452 = .ok (.goto 4, 3) := by decide +kernel
theorem d_LW_law_455 : decode code 455 = .ok (.iconst 0, 1) := by decide +kernel
theorem d_LW_law_456 : decode code 456 = .ok (.invokevirtual 55, 3) := by decide +kernel
theorem d_LW_law_459 : decode code 459 = .ok (.aload_n 2, 1) := by decide +kernel
theorem d_LW_law_460 : decode code 460 = .ok (.aload_n 0, 1) := by decide +kernel
theorem d_LW_law_461 : decode code 461 = .ok (.iload_n 3, 1) := by decide +kernel
theorem d_LW_law_462 : decode code 462 = .ok (.iconst 1, 1) := by decide +kernel
theorem d_LW_law_463 : decode code 463 = .ok (.iadd, 1) := by decide +kernel
theorem d_LW_law_464 : decode code 464 = .ok (.iaload, 1) := by decide +kernel
theorem d_LW_law_465 : decode code 465 = .ok (.aload_n 0, 1) := by decide +kernel
theorem d_LW_law_466 : decode code 466 = .ok (.iload_n 3, 1) := by decide +kernel
theorem d_LW_law_467 : decode code 467 = .ok (.iconst 2, 1) := by decide +kernel
theorem d_LW_law_468 : decode code 468 = .ok (.iadd, 1) := by decide +kernel
theorem d_LW_law_469 : decode code 469 = .ok (.iaload, 1) := by decide +kernel
theorem d_LW_law_470 : decode code 470 = .ok (.ifCond .eq 7, 3) := by decide +kernel
theorem d_LW_law_473 : decode code 473 = .ok (.iconst 1, 1) := by decide +kernel
theorem d_LW_law_474 : decode code 474 = .ok (.goto 4, 3) := by decide +kernel
theorem d_LW_law_477 : decode code 477 = .ok (.iconst 0, 1) := by decide +kernel
theorem d_LW_law_478 : decode code 478 = .ok (.invokevirtual 59, 3) := by decide +kernel
theorem d_LW_law_481 : decode code 481 = .ok (.if_icmp .eq 608, 3) := by decide +kernel
theorem d_LW_law_484 : decode code 484 = .ok (.iconst 0, 1) := by decide +kernel
theorem d_LW_law_485 : decode code 485 = .ok (.ireturn, 1) := by decide +kernel
theorem d_LW_law_486 : decode code 486 = .ok (.aload_n 1, 1) := by decide +kernel
theorem d_LW_law_487 : decode code 487 = .ok (.aload_n 0, 1) := by decide +kernel
theorem d_LW_law_488 : decode code 488 = .ok (.iload_n 3, 1) := by decide +kernel
theorem d_LW_law_489 : decode code 489 = .ok (.iconst 1, 1) := by decide +kernel
theorem d_LW_law_490 : decode code 490 = .ok (.iadd, 1) := by decide +kernel
theorem d_LW_law_491 : decode code 491 = .ok (.iaload, 1) := by decide +kernel
theorem d_LW_law_492 : decode code 492 = .ok (.invokevirtual 60, 3) := by decide +kernel
theorem d_LW_law_495 : decode code 495 = .ok (.aload_n 2, 1) := by decide +kernel
theorem d_LW_law_496 : decode code 496 = .ok (.aload_n 0, 1) := by decide +kernel
theorem d_LW_law_497 : decode code 497 = .ok (.iload_n 3, 1) := by decide +kernel
theorem d_LW_law_498 : decode code 498 = .ok (.iconst 1, 1) := by decide +kernel
theorem d_LW_law_499 : decode code 499 = .ok (.iadd, 1) := by decide +kernel
theorem d_LW_law_500 : decode code 500 = .ok (.iaload, 1) := by decide +kernel
theorem d_LW_law_501 : decode code 501 = .ok (.invokevirtual 63, 3) := by decide +kernel
theorem d_LW_law_504 : decode code 504 = .ok (.if_icmp .eq 585, 3) := by decide +kernel
theorem d_LW_law_507 : decode code 507 = .ok (.iconst 0, 1) := by decide +kernel
theorem d_LW_law_508 : decode code 508 = .ok (.ireturn, 1) := by decide +kernel
theorem d_LW_law_509 : decode code 509 = .ok (.aload_n 1, 1) := by decide +kernel
theorem d_LW_law_510 : decode code 510 = .ok (.aload_n 0, 1) := by decide +kernel
theorem d_LW_law_511 : decode code 511 = .ok (.iload_n 3, 1) := by decide +kernel
theorem d_LW_law_512 : decode code 512 = .ok (.iconst 1, 1) := by decide +kernel
theorem d_LW_law_513 : decode code 513 = .ok (.iadd, 1) := by decide +kernel
theorem d_LW_law_514 : decode code 514 = .ok (.iaload, 1) := by decide +kernel
theorem d_LW_law_515 : decode code 515 = .ok (.invokevirtual 64, 3) := by decide +kernel
theorem d_LW_law_518 : decode code 518 = .ok (.aload_n 2, 1) := by decide +kernel
theorem d_LW_law_519 : decode code 519 = .ok (.aload_n 0, 1) := by decide +kernel
theorem d_LW_law_520 : decode code 520 = .ok (.iload_n 3, 1) := by decide +kernel
theorem d_LW_law_521 : decode code 521 = .ok (.iconst 1, 1) := by decide +kernel
theorem d_LW_law_522 : decode code 522 = .ok (.iadd, 1) := by decide +kernel
theorem d_LW_law_523 : decode code 523 = .ok (.iaload, 1) := by decide +kernel
theorem d_LW_law_524 : decode code 524 = .ok (.invokevirtual 67, 3) := by decide +kernel
theorem d_LW_law_527 : decode code 527 = .ok (.if_icmp .eq 562, 3) := by decide +kernel
theorem d_LW_law_530 : decode code 530 = .ok (.iconst 0, 1) := by decide +kernel
theorem d_LW_law_531 : decode code 531 = .ok (.ireturn, 1) := by decide +kernel
theorem d_LW_law_532 : decode code 532 = .ok (.aload_n 1, 1) := by decide +kernel
theorem d_LW_law_533 : decode code 533 = .ok (.aload_n 0, 1) := by decide +kernel
theorem d_LW_law_534 : decode code 534 = .ok (.iload_n 3, 1) := by decide +kernel
theorem d_LW_law_535 : decode code 535 = .ok (.iconst 1, 1) := by decide +kernel
theorem d_LW_law_536 : decode code 536 = .ok (.iadd, 1) := by decide +kernel
theorem d_LW_law_537 : decode code 537 = .ok (.iaload, 1) := by decide +kernel
theorem d_LW_law_538 : decode code 538 = .ok (.invokevirtual 68, 3) := by decide +kernel
theorem d_LW_law_541 : decode code 541 = .ok (.aload_n 2, 1) := by decide +kernel
theorem d_LW_law_542 : decode code 542 = .ok (.aload_n 0, 1) := by decide +kernel
theorem d_LW_law_543 : decode code 543 = .ok (.iload_n 3, 1) := by decide +kernel
theorem d_LW_law_544 : decode code 544 = .ok (.iconst 1, 1) := by decide +kernel
theorem d_LW_law_545 : decode code 545 = .ok (.iadd, 1) := by decide +kernel
theorem d_LW_law_546 : decode code 546 = .ok (.iaload, 1) := by decide +kernel
theorem d_LW_law_547 : decode code 547 = .ok (.invokevirtual 71, 3) := by decide +kernel
theorem d_LW_law_550 : decode code 550 = .ok (.if_icmp .eq 539, 3) := by decide +kernel
theorem d_LW_law_553 : decode code 553 = .ok (.iconst 0, 1) := by decide +kernel
theorem d_LW_law_554 : decode code 554 = .ok (.ireturn, 1) := by decide +kernel
theorem d_LW_law_555 : decode code 555 = .ok (.aload_n 1, 1) := by decide +kernel
theorem d_LW_law_556 : decode code 556 = .ok (.aload_n 0, 1) := by decide +kernel
theorem d_LW_law_557 : decode code 557 = .ok (.iload_n 3, 1) := by decide +kernel
theorem d_LW_law_558 : decode code 558 = .ok (.iconst 1, 1) := by decide +kernel
theorem d_LW_law_559 : decode code 559 = .ok (.iadd, 1) := by decide +kernel
theorem d_LW_law_560 : decode code 560 = .ok (.iaload, 1) := by decide +kernel
theorem d_LW_law_561 : decode code 561 = .ok (.aload_n 0, 1) := by decide +kernel
theorem d_LW_law_562 : decode code 562 = .ok (.iload_n 3, 1) := by decide +kernel
theorem d_LW_law_563 : decode code 563 = .ok (.iconst 2, 1) := by decide +kernel
theorem d_LW_law_564 : decode code 564 = .ok (.iadd, 1) := by decide +kernel
theorem d_LW_law_565 : decode code 565 = .ok (.iaload, 1) := by decide +kernel
theorem d_LW_law_566 : decode code 566 = .ok (.invokevirtual 72, 3) := by decide +kernel
theorem d_LW_law_569 : decode code 569 = .ok (.aload_n 2, 1) := by decide +kernel
theorem d_LW_law_570 : decode code 570 = .ok (.aload_n 0, 1) := by decide +kernel
theorem d_LW_law_571 : decode code 571 = .ok (.iload_n 3, 1) := by decide +kernel
theorem d_LW_law_572 : decode code 572 = .ok (.iconst 1, 1) := by decide +kernel
theorem d_LW_law_573 : decode code 573 = .ok (.iadd, 1) := by decide +kernel
theorem d_LW_law_574 : decode code 574 = .ok (.iaload, 1) := by decide +kernel
theorem d_LW_law_575 : decode code 575 = .ok (.aload_n 0, 1) := by decide +kernel
theorem d_LW_law_576 : decode code 576 = .ok (.iload_n 3, 1) := by decide +kernel
theorem d_LW_law_577 : decode code 577 = .ok (.iconst 2, 1) := by decide +kernel
theorem d_LW_law_578 : decode code 578 = .ok (.iadd, 1) := by decide +kernel
theorem d_LW_law_579 : decode code 579 = .ok (.iaload, 1) := by decide +kernel
theorem d_LW_law_580 : decode code 580 = .ok (.invokevirtual 75, 3) := by decide +kernel
theorem d_LW_law_583 : decode code 583 = .ok (.if_icmp .eq 506, 3) := by decide +kernel
theorem d_LW_law_586 : decode code 586 = .ok (.iconst 0, 1) := by decide +kernel
theorem d_LW_law_587 : decode code 587 = .ok (.ireturn, 1) := by decide +kernel
theorem d_LW_law_588 : decode code 588 = .ok (.aload_n 1, 1) := by decide +kernel
theorem d_LW_law_589 : decode code 589 = .ok (.aload_n 0, 1) := by decide +kernel
theorem d_LW_law_590 : decode code 590 = .ok (.iload_n 3, 1) := by decide +kernel
theorem d_LW_law_591 : decode code 591 = .ok (.iconst 1, 1) := by decide +kernel
theorem d_LW_law_592 : decode code 592 = .ok (.iadd, 1) := by decide +kernel
theorem d_LW_law_593 : decode code 593 = .ok (.iaload, 1) := by decide +kernel
theorem d_LW_law_594 : decode code 594 = .ok (.aload_n 0, 1) := by decide +kernel
theorem d_LW_law_595 : decode code 595 = .ok (.iload_n 3, 1) := by decide +kernel
theorem d_LW_law_596 : decode code 596 = .ok (.iconst 2, 1) := by decide +kernel
theorem d_LW_law_597 : decode code 597 = .ok (.iadd, 1) := by decide +kernel
theorem d_LW_law_598 : decode code 598 = .ok (.iaload, 1) := by decide +kernel
theorem d_LW_law_599 : decode code 599 = .ok (.invokevirtual 76, 3) := by decide +kernel
theorem d_LW_law_602 : decode code 602 = .ok (.aload_n 2, 1) := by decide +kernel
theorem d_LW_law_603 : decode code 603 = .ok (.aload_n 0, 1) := by decide +kernel
theorem d_LW_law_604 : decode code 604 = .ok (.iload_n 3, 1) := by decide +kernel
theorem d_LW_law_605 : decode code 605 = .ok (.iconst 1, 1) := by decide +kernel
theorem d_LW_law_606 : decode code 606 = .ok (.iadd, 1) := by decide +kernel
theorem d_LW_law_607 : decode code 607 = .ok (.iaload, 1) := by decide +kernel
theorem d_LW_law_608 : decode code 608 = .ok (.aload_n 0, 1) := by decide +kernel
theorem d_LW_law_609 : decode code 609 = .ok (.iload_n 3, 1) := by decide +kernel
theorem d_LW_law_610 : decode code 610 = .ok (.iconst 2, 1) := by decide +kernel
theorem d_LW_law_611 : decode code 611 = .ok (.iadd, 1) := by decide +kernel
theorem d_LW_law_612 : decode code 612 = .ok (.iaload, 1) := by decide +kernel
theorem d_LW_law_613 : decode code 613 = .ok (.invokevirtual 79, 3) := by decide +kernel
theorem d_LW_law_616 : decode code 616 = .ok (.if_icmp .eq 473, 3) := by decide +kernel
theorem d_LW_law_619 : decode code 619 = .ok (.iconst 0, 1) := by decide +kernel
theorem d_LW_law_620 : decode code 620 = .ok (.ireturn, 1) := by decide +kernel
theorem d_LW_law_621 : decode code 621 = .ok (.aload_n 1, 1) := by decide +kernel
theorem d_LW_law_622 : decode code 622 = .ok (.aload_n 0, 1) := by decide +kernel
theorem d_LW_law_623 : decode code 623 = .ok (.iload_n 3, 1) := by decide +kernel
theorem d_LW_law_624 : decode code 624 = .ok (.iconst 1, 1) := by decide +kernel
theorem d_LW_law_625 : decode code 625 = .ok (.iadd, 1) := by decide +kernel
theorem d_LW_law_626 : decode code 626 = .ok (.iaload, 1) := by decide +kernel
theorem d_LW_law_627 : decode code 627 = .ok (.aload_n 0, 1) := by decide +kernel
theorem d_LW_law_628 : decode code 628 = .ok (.iload_n 3, 1) := by decide +kernel
theorem d_LW_law_629 : decode code 629 = .ok (.iconst 2, 1) := by decide +kernel
theorem d_LW_law_630 : decode code 630 = .ok (.iadd, 1) := by decide +kernel
theorem d_LW_law_631 : decode code 631 = .ok (.iaload, 1) := by decide +kernel
theorem d_LW_law_632 : decode code 632 = .ok (.invokevirtual 80, 3) := by decide +kernel
theorem d_LW_law_635 : decode code 635 = .ok (.aload_n 2, 1) := by decide +kernel
theorem d_LW_law_636 : decode code 636 = .ok (.aload_n 0, 1) := by decide +kernel
theorem d_LW_law_637 : decode code 637 = .ok (.iload_n 3, 1) := by decide +kernel
theorem d_LW_law_638 : decode code 638 = .ok (.iconst 1, 1) := by decide +kernel
theorem d_LW_law_639 : decode code 639 = .ok (.iadd, 1) := by decide +kernel
theorem d_LW_law_640 : decode code 640 = .ok (.iaload, 1) := by decide +kernel
theorem d_LW_law_641 : decode code 641 = .ok (.aload_n 0, 1) := by decide +kernel
theorem d_LW_law_642 : decode code 642 = .ok (.iload_n 3, 1) := by decide +kernel
theorem d_LW_law_643 : decode code 643 = .ok (.iconst 2, 1) := by decide +kernel
theorem d_LW_law_644 : decode code 644 = .ok (.iadd, 1) := by decide +kernel
theorem d_LW_law_645 : decode code 645 = .ok (.iaload, 1) := by decide +kernel
theorem d_LW_law_646 : decode code 646 = .ok (.invokevirtual 83, 3) := by decide +kernel
theorem d_LW_law_649 : decode code 649 = .ok (.if_icmp .eq 440, 3) := by decide +kernel
theorem d_LW_law_652 : decode code 652 = .ok (.iconst 0, 1) := by decide +kernel
theorem d_LW_law_653 : decode code 653 = .ok (.ireturn, 1) := by decide +kernel
theorem d_LW_law_654 : decode code 654 = .ok (.aload_n 1, 1) := by decide +kernel
theorem d_LW_law_655 : decode code 655 = .ok (.aload_n 0, 1) := by decide +kernel
theorem d_LW_law_656 : decode code 656 = .ok (.iload_n 3, 1) := by decide +kernel
theorem d_LW_law_657 : decode code 657 = .ok (.iconst 1, 1) := by decide +kernel
theorem d_LW_law_658 : decode code 658 = .ok (.iadd, 1) := by decide +kernel
theorem d_LW_law_659 : decode code 659 = .ok (.iaload, 1) := by decide +kernel
theorem d_LW_law_660 : decode code 660 = .ok (.aload_n 0, 1) := by decide +kernel
theorem d_LW_law_661 : decode code 661 = .ok (.iload_n 3, 1) := by decide +kernel
theorem d_LW_law_662 : decode code 662 = .ok (.iconst 2, 1) := by decide +kernel
theorem d_LW_law_663 : decode code 663 = .ok (.iadd, 1) := by decide +kernel
theorem d_LW_law_664 : decode code 664 = .ok (.iaload, 1) := by decide +kernel
theorem d_LW_law_665 : decode code 665 = .ok (.invokevirtual 84, 3) := by decide +kernel
theorem d_LW_law_668 : decode code 668 = .ok (.aload_n 2, 1) := by decide +kernel
theorem d_LW_law_669 : decode code 669 = .ok (.aload_n 0, 1) := by decide +kernel
theorem d_LW_law_670 : decode code 670 = .ok (.iload_n 3, 1) := by decide +kernel
theorem d_LW_law_671 : decode code 671 = .ok (.iconst 1, 1) := by decide +kernel
theorem d_LW_law_672 : decode code 672 = .ok (.iadd, 1) := by decide +kernel
theorem d_LW_law_673 : decode code 673 = .ok (.iaload, 1) := by decide +kernel
theorem d_LW_law_674 : decode code 674 = .ok (.aload_n 0, 1) := by decide +kernel
theorem d_LW_law_675 : decode code 675 = .ok (.iload_n 3, 1) := by decide +kernel
theorem d_LW_law_676 : decode code 676 = .ok (.iconst 2, 1) := by decide +kernel
theorem d_LW_law_677 : decode code 677 = .ok (.iadd, 1) := by decide +kernel
theorem d_LW_law_678 : decode code 678 = .ok (.iaload, 1) := by decide +kernel
theorem d_LW_law_679 : decode code 679 = .ok (.invokevirtual 87, 3) := by decide +kernel
theorem d_LW_law_682 : decode code 682 = .ok (.if_icmp .eq 407, 3) := by decide +kernel
theorem d_LW_law_685 : decode code 685 = .ok (.iconst 0, 1) := by decide +kernel
theorem d_LW_law_686 : decode code 686 = .ok (.ireturn, 1) := by decide +kernel
theorem d_LW_law_687 : decode code 687 = .ok (.aload_n 1, 1) := by decide +kernel
theorem d_LW_law_688 : decode code 688 = .ok (.invokevirtual 88, 3) := by decide +kernel
theorem d_LW_law_691 : decode code 691 = .ok (.aload_n 2, 1) := by decide +kernel
theorem d_LW_law_692 : decode code 692 = .ok (.invokevirtual 91, 3) := by decide +kernel
theorem d_LW_law_695 : decode code 695 = .ok (.if_icmp .eq 394, 3) := by decide +kernel
theorem d_LW_law_698 : decode code 698 = .ok (.iconst 0, 1) := by decide +kernel
theorem d_LW_law_699 : decode code 699 = .ok (.ireturn, 1) := by decide +kernel
theorem d_LW_law_700 : decode code 700 = .ok (.aload_n 1, 1) := by decide +kernel
theorem d_LW_law_701 : decode code 701 = .ok (.invokevirtual 92, 3) := by decide +kernel
theorem d_LW_law_704 : decode code 704 = .ok (.aload_n 2, 1) := by decide +kernel
theorem d_LW_law_705 : decode code 705 = .ok (.invokevirtual 95, 3) := by decide +kernel
theorem d_LW_law_708 : decode code 708 = .ok (.if_icmp .eq 381, 3) := by decide +kernel
theorem d_LW_law_711 : decode code 711 = .ok (.iconst 0, 1) := by decide +kernel
theorem d_LW_law_712 : decode code 712 = .ok (.ireturn, 1) := by decide +kernel
theorem d_LW_law_713 : decode code 713 = .ok (.aload_n 1, 1) := by decide +kernel
theorem d_LW_law_714 : decode code 714 = .ok (.invokevirtual 96, 3) := by decide +kernel
theorem d_LW_law_717 : decode code 717 = .ok (.aload_n 2, 1) := by decide +kernel
theorem d_LW_law_718 : decode code 718 = .ok (.invokevirtual 99, 3) := by decide +kernel
theorem d_LW_law_721 : decode code 721 = .ok (.if_icmp .eq 368, 3) := by decide +kernel
theorem d_LW_law_724 : decode code 724 = .ok (.iconst 0, 1) := by decide +kernel
theorem d_LW_law_725 : decode code 725 = .ok (.ireturn, 1) := by decide +kernel
theorem d_LW_law_726 : decode code 726 = .ok (.aload_n 1, 1) := by decide +kernel
theorem d_LW_law_727 : decode code 727 = .ok (.invokevirtual 100, 3) := by decide +kernel
theorem d_LW_law_730 : decode code 730 = .ok (.aload_n 2, 1) := by decide +kernel
theorem d_LW_law_731 : decode code 731 = .ok (.invokevirtual 103, 3) := by decide +kernel
theorem d_LW_law_734 : decode code 734 = .ok (.if_icmp .eq 355, 3) := by decide +kernel
theorem d_LW_law_737 : decode code 737 = .ok (.iconst 0, 1) := by decide +kernel
theorem d_LW_law_738 : decode code 738 = .ok (.ireturn, 1) := by decide +kernel
theorem d_LW_law_739 : decode code 739 = .ok (.aload_n 1, 1) := by decide +kernel
theorem d_LW_law_740 : decode code 740 = .ok (.aload_n 0, 1) := by decide +kernel
theorem d_LW_law_741 : decode code 741 = .ok (.iload_n 3, 1) := by decide +kernel
theorem d_LW_law_742 : decode code 742 = .ok (.iconst 1, 1) := by decide +kernel
theorem d_LW_law_743 : decode code 743 = .ok (.iadd, 1) := by decide +kernel
theorem d_LW_law_744 : decode code 744 = .ok (.iaload, 1) := by decide +kernel
theorem d_LW_law_745 : decode code 745 = .ok (.invokevirtual 104, 3) := by decide +kernel
theorem d_LW_law_748 : decode code 748 = .ok (.aload_n 2, 1) := by decide +kernel
theorem d_LW_law_749 : decode code 749 = .ok (.aload_n 0, 1) := by decide +kernel
theorem d_LW_law_750 : decode code 750 = .ok (.iload_n 3, 1) := by decide +kernel
theorem d_LW_law_751 : decode code 751 = .ok (.iconst 1, 1) := by decide +kernel
theorem d_LW_law_752 : decode code 752 = .ok (.iadd, 1) := by decide +kernel
theorem d_LW_law_753 : decode code 753 = .ok (.iaload, 1) := by decide +kernel
theorem d_LW_law_754 : decode code 754 = .ok (.invokevirtual 107, 3) := by decide +kernel
theorem d_LW_law_757 : decode code 757 = .ok (.if_icmp .eq 332, 3) := by decide +kernel
theorem d_LW_law_760 : decode code 760 = .ok (.iconst 0, 1) := by decide +kernel
theorem d_LW_law_761 : decode code 761 = .ok (.ireturn, 1) := by decide +kernel
theorem d_LW_law_762 : decode code 762 = .ok (.aload_n 1, 1) := by decide +kernel
theorem d_LW_law_763 : decode code 763 = .ok (.aload_n 0, 1) := by decide +kernel
theorem d_LW_law_764 : decode code 764 = .ok (.iload_n 3, 1) := by decide +kernel
theorem d_LW_law_765 : decode code 765 = .ok (.iconst 1, 1) := by decide +kernel
theorem d_LW_law_766 : decode code 766 = .ok (.iadd, 1) := by decide +kernel
theorem d_LW_law_767 : decode code 767 = .ok (.iaload, 1) := by decide +kernel
theorem d_LW_law_768 : decode code 768 = .ok (.aload_n 0, 1) := by decide +kernel
theorem d_LW_law_769 : decode code 769 = .ok (.iload_n 3, 1) := by decide +kernel
theorem d_LW_law_770 : decode code 770 = .ok (.iconst 2, 1) := by decide +kernel
theorem d_LW_law_771 : decode code 771 = .ok (.iadd, 1) := by decide +kernel
theorem d_LW_law_772 : decode code 772 = .ok (.iaload, 1) := by decide +kernel
theorem d_LW_law_773 : decode code 773 = .ok (.invokevirtual 108, 3) := by decide +kernel
theorem d_LW_law_776 : decode code 776 = .ok (.aload_n 2, 1) := by decide +kernel
theorem d_LW_law_777 : decode code 777 = .ok (.aload_n 0, 1) := by decide +kernel
theorem d_LW_law_778 : decode code 778 = .ok (.iload_n 3, 1) := by decide +kernel
theorem d_LW_law_779 : decode code 779 = .ok (.iconst 1, 1) := by decide +kernel
theorem d_LW_law_780 : decode code 780 = .ok (.iadd, 1) := by decide +kernel
theorem d_LW_law_781 : decode code 781 = .ok (.iaload, 1) := by decide +kernel
theorem d_LW_law_782 : decode code 782 = .ok (.aload_n 0, 1) := by decide +kernel
theorem d_LW_law_783 : decode code 783 = .ok (.iload_n 3, 1) := by decide +kernel
theorem d_LW_law_784 : decode code 784 = .ok (.iconst 2, 1) := by decide +kernel
theorem d_LW_law_785 : decode code 785 = .ok (.iadd, 1) := by decide +kernel
theorem d_LW_law_786 : decode code 786 = .ok (.iaload, 1) := by decide +kernel
theorem d_LW_law_787 : decode code 787 = .ok (.invokevirtual 111, 3) := by decide +kernel
theorem d_LW_law_790 : decode code 790 = .ok (.if_icmp .eq 299, 3) := by decide +kernel
theorem d_LW_law_793 : decode code 793 = .ok (.iconst 0, 1) := by decide +kernel
theorem d_LW_law_794 : decode code 794 = .ok (.ireturn, 1) := by decide +kernel
theorem d_LW_law_795 : decode code 795 = .ok (.aload_n 1, 1) := by decide +kernel
theorem d_LW_law_796 : decode code 796 = .ok (.invokevirtual 112, 3) := by decide +kernel
theorem d_LW_law_799 : decode code 799 = .ok (.aload_n 2, 1) := by decide +kernel
theorem d_LW_law_800 : decode code 800 = .ok (.invokevirtual 115, 3) := by decide +kernel
theorem d_LW_law_803 : decode code 803 = .ok (.if_icmp .eq 286, 3) := by decide +kernel
theorem d_LW_law_806 : decode code 806 = .ok (.iconst 0, 1) := by decide +kernel
theorem d_LW_law_807 : decode code 807 = .ok (.ireturn, 1) := by decide +kernel
theorem d_LW_law_808 : decode code 808 = .ok (.aload_n 1, 1) := by decide +kernel
theorem d_LW_law_809 : decode code 809 = .ok (.aload_n 0, 1) := by decide +kernel
theorem d_LW_law_810 : decode code 810 = .ok (.iload_n 3, 1) := by decide +kernel
theorem d_LW_law_811 : decode code 811 = .ok (.iconst 1, 1) := by decide +kernel
theorem d_LW_law_812 : decode code 812 = .ok (.iadd, 1) := by decide +kernel
theorem d_LW_law_813 : decode code 813 = .ok (.iaload, 1) := by decide +kernel
theorem d_LW_law_814 : decode code 814 = .ok (.invokevirtual 116, 3) := by decide +kernel
theorem d_LW_law_817 : decode code 817 = .ok (.aload_n 2, 1) := by decide +kernel
theorem d_LW_law_818 : decode code 818 = .ok (.aload_n 0, 1) := by decide +kernel
theorem d_LW_law_819 : decode code 819 = .ok (.iload_n 3, 1) := by decide +kernel
theorem d_LW_law_820 : decode code 820 = .ok (.iconst 1, 1) := by decide +kernel
theorem d_LW_law_821 : decode code 821 = .ok (.iadd, 1) := by decide +kernel
theorem d_LW_law_822 : decode code 822 = .ok (.iaload, 1) := by decide +kernel
theorem d_LW_law_823 : decode code 823 = .ok (.invokevirtual 119, 3) := by decide +kernel
theorem d_LW_law_826 : decode code 826 = .ok (.if_icmp .eq 263, 3) := by decide +kernel
theorem d_LW_law_829 : decode code 829 = .ok (.iconst 0, 1) := by decide +kernel
theorem d_LW_law_830 : decode code 830 = .ok (.ireturn, 1) := by decide +kernel
theorem d_LW_law_831 : decode code 831 = .ok (.aload_n 1, 1) := by decide +kernel
theorem d_LW_law_832 : decode code 832 = .ok (.invokevirtual 120, 3) := by decide +kernel
theorem d_LW_law_835 : decode code 835 = .ok (.aload_n 2, 1) := by decide +kernel
theorem d_LW_law_836 : decode code 836 = .ok (.invokevirtual 123, 3) := by decide +kernel
theorem d_LW_law_839 : decode code 839 = .ok (.if_icmp .eq 250, 3) := by decide +kernel
theorem d_LW_law_842 : decode code 842 = .ok (.iconst 0, 1) := by decide +kernel
theorem d_LW_law_843 : decode code 843 = .ok (.ireturn, 1) := by decide +kernel
theorem d_LW_law_844 : decode code 844 = .ok (.aload_n 1, 1) := by decide +kernel
theorem d_LW_law_845 : decode code 845 = .ok (.aload_n 0, 1) := by decide +kernel
theorem d_LW_law_846 : decode code 846 = .ok (.iload_n 3, 1) := by decide +kernel
theorem d_LW_law_847 : decode code 847 = .ok (.iconst 1, 1) := by decide +kernel
theorem d_LW_law_848 : decode code 848 = .ok (.iadd, 1) := by decide +kernel
theorem d_LW_law_849 : decode code 849 = .ok (.iaload, 1) := by decide +kernel
theorem d_LW_law_850 : decode code 850 = .ok (.invokevirtual 124, 3) := by decide +kernel
theorem d_LW_law_853 : decode code 853 = .ok (.aload_n 2, 1) := by decide +kernel
theorem d_LW_law_854 : decode code 854 = .ok (.aload_n 0, 1) := by decide +kernel
theorem d_LW_law_855 : decode code 855 = .ok (.iload_n 3, 1) := by decide +kernel
theorem d_LW_law_856 : decode code 856 = .ok (.iconst 1, 1) := by decide +kernel
theorem d_LW_law_857 : decode code 857 = .ok (.iadd, 1) := by decide +kernel
theorem d_LW_law_858 : decode code 858 = .ok (.iaload, 1) := by decide +kernel
theorem d_LW_law_859 : decode code 859 = .ok (.invokevirtual 127, 3) := by decide +kernel
theorem d_LW_law_862 : decode code 862 = .ok (.if_icmp .eq 227, 3) := by decide +kernel
theorem d_LW_law_865 : decode code 865 = .ok (.iconst 0, 1) := by decide +kernel
theorem d_LW_law_866 : decode code 866 = .ok (.ireturn, 1) := by decide +kernel
theorem d_LW_law_867 : decode code 867 = .ok (.aload_n 1, 1) := by decide +kernel
theorem d_LW_law_868 : decode code 868 = .ok (.invokevirtual 128, 3) := by decide +kernel
theorem d_LW_law_871 : decode code 871 = .ok (.aload_n 2, 1) := by decide +kernel
theorem d_LW_law_872 : decode code 872 = .ok (.invokevirtual 131, 3) := by decide +kernel
theorem d_LW_law_875 : decode code 875 = .ok (.if_icmp .eq 214, 3) := by decide +kernel
theorem d_LW_law_878 : decode code 878 = .ok (.iconst 0, 1) := by decide +kernel
theorem d_LW_law_879 : decode code 879 = .ok (.ireturn, 1) := by decide +kernel
theorem d_LW_law_880 : decode code 880 = .ok (.aload_n 1, 1) := by decide +kernel
theorem d_LW_law_881 : decode code 881 = .ok (.aload_n 0, 1) := by decide +kernel
theorem d_LW_law_882 : decode code 882 = .ok (.iload_n 3, 1) := by decide +kernel
theorem d_LW_law_883 : decode code 883 = .ok (.iconst 1, 1) := by decide +kernel
theorem d_LW_law_884 : decode code 884 = .ok (.iadd, 1) := by decide +kernel
theorem d_LW_law_885 : decode code 885 = .ok (.iaload, 1) := by decide +kernel
theorem d_LW_law_886 : decode code 886 = .ok (.aload_n 0, 1) := by decide +kernel
theorem d_LW_law_887 : decode code 887 = .ok (.iload_n 3, 1) := by decide +kernel
theorem d_LW_law_888 : decode code 888 = .ok (.iconst 2, 1) := by decide +kernel
theorem d_LW_law_889 : decode code 889 = .ok (.iadd, 1) := by decide +kernel
theorem d_LW_law_890 : decode code 890 = .ok (.iaload, 1) := by decide +kernel
theorem d_LW_law_891 : decode code 891 = .ok (.aload_n 0, 1) := by decide +kernel
theorem d_LW_law_892 : decode code 892 = .ok (.iload_n 3, 1) := by decide +kernel
theorem d_LW_law_893 : decode code 893 = .ok (.iconst 3, 1) := by decide +kernel
theorem d_LW_law_894 : decode code 894 = .ok (.iadd, 1) := by decide +kernel
theorem d_LW_law_895 : decode code 895 = .ok (.iaload, 1) := by decide +kernel
theorem d_LW_law_896 : decode code 896 = .ok (.aload_n 0, 1) := by decide +kernel
theorem d_LW_law_897 : decode code 897 = .ok (.iload_n 3, 1) := by decide +kernel
theorem d_LW_law_898 : decode code 898 = .ok (.iconst 4, 1) := by decide +kernel
theorem d_LW_law_899 : decode code 899 = .ok (.iadd, 1) := by decide +kernel
theorem d_LW_law_900 : decode code 900 = .ok (.iaload, 1) := by decide +kernel
theorem d_LW_law_901 : decode code 901 = .ok (.ifCond .eq 7, 3) := by decide +kernel
theorem d_LW_law_904 : decode code 904 = .ok (.iconst 1, 1) := by decide +kernel
theorem d_LW_law_905 : decode code 905 = .ok (.goto 4, 3) := by decide +kernel
theorem d_LW_law_908 : decode code 908 = .ok (.iconst 0, 1) := by decide +kernel
theorem d_LW_law_909 : decode code 909 = .ok (.invokevirtual 132, 3) := by decide +kernel
theorem d_LW_law_912 : decode code 912 = .ok (.aload_n 2, 1) := by decide +kernel
theorem d_LW_law_913 : decode code 913 = .ok (.aload_n 0, 1) := by decide +kernel
theorem d_LW_law_914 : decode code 914 = .ok (.iload_n 3, 1) := by decide +kernel
theorem d_LW_law_915 : decode code 915 = .ok (.iconst 1, 1) := by decide +kernel
theorem d_LW_law_916 : decode code 916 = .ok (.iadd, 1) := by decide +kernel
theorem d_LW_law_917 : decode code 917 = .ok (.iaload, 1) := by decide +kernel
theorem d_LW_law_918 : decode code 918 = .ok (.aload_n 0, 1) := by decide +kernel
theorem d_LW_law_919 : decode code 919 = .ok (.iload_n 3, 1) := by decide +kernel
theorem d_LW_law_920 : decode code 920 = .ok (.iconst 2, 1) := by decide +kernel
theorem d_LW_law_921 : decode code 921 = .ok (.iadd, 1) := by decide +kernel
theorem d_LW_law_922 : decode code 922 = .ok (.iaload, 1) := by decide +kernel
theorem d_LW_law_923 : decode code 923 = .ok (.aload_n 0, 1) := by decide +kernel
theorem d_LW_law_924 : decode code 924 = .ok (.iload_n 3, 1) := by decide +kernel
theorem d_LW_law_925 : decode code 925 = .ok (.iconst 3, 1) := by decide +kernel
theorem d_LW_law_926 : decode code 926 = .ok (.iadd, 1) := by decide +kernel
theorem d_LW_law_927 : decode code 927 = .ok (.iaload, 1) := by decide +kernel
theorem d_LW_law_928 : decode code 928 = .ok (.aload_n 0, 1) := by decide +kernel
theorem d_LW_law_929 : decode code 929 = .ok (.iload_n 3, 1) := by decide +kernel
theorem d_LW_law_930 : decode code 930 = .ok (.iconst 4, 1) := by decide +kernel
theorem d_LW_law_931 : decode code 931 = .ok (.iadd, 1) := by decide +kernel
theorem d_LW_law_932 : decode code 932 = .ok (.iaload, 1) := by decide +kernel
theorem d_LW_law_933 : decode code 933 = .ok (.ifCond .eq 7, 3) := by decide +kernel
theorem d_LW_law_936 : decode code 936 = .ok (.iconst 1, 1) := by decide +kernel
theorem d_LW_law_937 : decode code 937 = .ok (.goto 4, 3) := by decide +kernel
theorem d_LW_law_940 : decode code 940 = .ok (.iconst 0, 1) := by decide +kernel
theorem d_LW_law_941 : decode code 941 = .ok (.invokevirtual 136, 3) := by decide +kernel
theorem d_LW_law_944 : decode code 944 = .ok (.lcmp, 1) := by decide +kernel
theorem d_LW_law_945 : decode code 945 = .ok (.ifCond .eq 144, 3) := by decide +kernel
theorem d_LW_law_948 : decode code 948 = .ok (.iconst 0, 1) := by decide +kernel
theorem d_LW_law_949 : decode code 949 = .ok (.ireturn, 1) := by decide +kernel
theorem d_LW_law_950 : decode code 950 = .ok (.aload_n 1, 1) := by decide +kernel
theorem d_LW_law_951 : decode code 951 = .ok (.aload_n 0, 1) := by decide +kernel
theorem d_LW_law_952 : decode code 952 = .ok (.iload_n 3, 1) := by decide +kernel
theorem d_LW_law_953 : decode code 953 = .ok (.iconst 1, 1) := by decide +kernel
theorem d_LW_law_954 : decode code 954 = .ok (.iadd, 1) := by decide +kernel
theorem d_LW_law_955 : decode code 955 = .ok (.iaload, 1) := by decide +kernel
theorem d_LW_law_956 : decode code 956 = .ok (.aload_n 0, 1) := by decide +kernel
theorem d_LW_law_957 : decode code 957 = .ok (.iload_n 3, 1) := by decide +kernel
theorem d_LW_law_958 : decode code 958 = .ok (.iconst 2, 1) := by decide +kernel
theorem d_LW_law_959 : decode code 959 = .ok (.iadd, 1) := by decide +kernel
theorem d_LW_law_960 : decode code 960 = .ok (.iaload, 1) := by decide +kernel
theorem d_LW_law_961 : decode code 961 = .ok (.aload_n 0, 1) := by decide +kernel
theorem d_LW_law_962 : decode code 962 = .ok (.iload_n 3, 1) := by decide +kernel
theorem d_LW_law_963 : decode code 963 = .ok (.iconst 3, 1) := by decide +kernel
theorem d_LW_law_964 : decode code 964 = .ok (.iadd, 1) := by decide +kernel
theorem d_LW_law_965 : decode code 965 = .ok (.iaload, 1) := by decide +kernel
theorem d_LW_law_966 : decode code 966 = .ok (.aload_n 0, 1) := by decide +kernel
theorem d_LW_law_967 : decode code 967 = .ok (.iload_n 3, 1) := by decide +kernel
theorem d_LW_law_968 : decode code 968 = .ok (.iconst 4, 1) := by decide +kernel
theorem d_LW_law_969 : decode code 969 = .ok (.iadd, 1) := by decide +kernel
theorem d_LW_law_970 : decode code 970 = .ok (.iaload, 1) := by decide +kernel
theorem d_LW_law_971 : decode code 971 = .ok (.ifCond .eq 7, 3) := by decide +kernel
theorem d_LW_law_974 : decode code 974 = .ok (.iconst 1, 1) := by decide +kernel
theorem d_LW_law_975 : decode code 975 = .ok (.goto 4, 3) := by decide +kernel
theorem d_LW_law_978 : decode code 978 = .ok (.iconst 0, 1) := by decide +kernel
theorem d_LW_law_979 : decode code 979 = .ok (.invokevirtual 137, 3) := by decide +kernel
theorem d_LW_law_982 : decode code 982 = .ok (.aload_n 2, 1) := by decide +kernel
theorem d_LW_law_983 : decode code 983 = .ok (.aload_n 0, 1) := by decide +kernel
theorem d_LW_law_984 : decode code 984 = .ok (.iload_n 3, 1) := by decide +kernel
theorem d_LW_law_985 : decode code 985 = .ok (.iconst 1, 1) := by decide +kernel
theorem d_LW_law_986 : decode code 986 = .ok (.iadd, 1) := by decide +kernel
theorem d_LW_law_987 : decode code 987 = .ok (.iaload, 1) := by decide +kernel
theorem d_LW_law_988 : decode code 988 = .ok (.aload_n 0, 1) := by decide +kernel
theorem d_LW_law_989 : decode code 989 = .ok (.iload_n 3, 1) := by decide +kernel
theorem d_LW_law_990 : decode code 990 = .ok (.iconst 2, 1) := by decide +kernel
theorem d_LW_law_991 : decode code 991 = .ok (.iadd, 1) := by decide +kernel
theorem d_LW_law_992 : decode code 992 = .ok (.iaload, 1) := by decide +kernel
theorem d_LW_law_993 : decode code 993 = .ok (.aload_n 0, 1) := by decide +kernel
theorem d_LW_law_994 : decode code 994 = .ok (.iload_n 3, 1) := by decide +kernel
theorem d_LW_law_995 : decode code 995 = .ok (.iconst 3, 1) := by decide +kernel
theorem d_LW_law_996 : decode code 996 = .ok (.iadd, 1) := by decide +kernel
theorem d_LW_law_997 : decode code 997 = .ok (.iaload, 1) := by decide +kernel
theorem d_LW_law_998 : decode code 998 = .ok (.aload_n 0, 1) := by decide +kernel
theorem d_LW_law_999 : decode code 999 = .ok (.iload_n 3, 1) := by decide +kernel
theorem d_LW_law_1000 : decode code 1000 = .ok (.iconst 4, 1) := by decide +kernel
theorem d_LW_law_1001 : decode code 1001 = .ok (.iadd, 1) := by decide +kernel
theorem d_LW_law_1002 : decode code 1002 = .ok (.iaload, 1) := by decide +kernel
theorem d_LW_law_1003 : decode code 1003 = .ok (.ifCond .eq 7, 3) := by decide +kernel
theorem d_LW_law_1006 : decode code 1006 = .ok (.iconst 1, 1) := by decide +kernel
theorem d_LW_law_1007 : decode code 1007 = .ok (.goto 4, 3) := by decide +kernel
theorem d_LW_law_1010 : decode code 1010 = .ok (.iconst 0, 1) := by decide +kernel
theorem d_LW_law_1011 : decode code 1011 = .ok (.invokevirtual 140, 3) := by decide +kernel
theorem d_LW_law_1014 : decode code 1014 = .ok (.lcmp, 1) := by decide +kernel
theorem d_LW_law_1015 : decode code 1015 = .ok (.ifCond .eq 74, 3) := by decide +kernel
theorem d_LW_law_1018 : decode code 1018 = .ok (.iconst 0, 1) := by decide +kernel
theorem d_LW_law_1019 : decode code 1019 = .ok (.ireturn, 1) := by decide +kernel
theorem d_LW_law_1020 : decode code 1020 = .ok (.aload_n 1, 1) := by decide +kernel
theorem d_LW_law_1021 : decode code 1021 = .ok (.aload_n 0, 1) := by decide +kernel
theorem d_LW_law_1022 : decode code 1022 = .ok (.iload_n 3, 1) := by decide +kernel
theorem d_LW_law_1023 : decode code 1023 = .ok (.iconst 1, 1) := by decide +kernel
theorem d_LW_law_1024 : decode code 1024 = .ok (.iadd, 1) := by decide +kernel
theorem d_LW_law_1025 : decode code 1025 = .ok (.iaload, 1) := by decide +kernel
theorem d_LW_law_1026 : decode code 1026 = .ok (.invokevirtual 141, 3) := by decide +kernel
theorem d_LW_law_1029 : decode code 1029 = .ok (.aload_n 2, 1) := by decide +kernel
theorem d_LW_law_1030 : decode code 1030 = .ok (.aload_n 0, 1) := by decide +kernel
theorem d_LW_law_1031 : decode code 1031 = .ok (.iload_n 3, 1) := by decide +kernel
theorem d_LW_law_1032 : decode code 1032 = .ok (.iconst 1, 1) := by decide +kernel
theorem d_LW_law_1033 : decode code 1033 = .ok (.iadd, 1) := by decide +kernel
theorem d_LW_law_1034 : decode code 1034 = .ok (.iaload, 1) := by decide +kernel
theorem d_LW_law_1035 : decode code 1035 = .ok (.invokevirtual 144, 3) := by decide +kernel
theorem d_LW_law_1038 : decode code 1038 = .ok (.if_icmp .eq 51, 3) := by decide +kernel
theorem d_LW_law_1041 : decode code 1041 = .ok (.iconst 0, 1) := by decide +kernel
theorem d_LW_law_1042 : decode code 1042 = .ok (.ireturn, 1) := by decide +kernel
theorem d_LW_law_1043 : decode code 1043 = .ok (.aload_n 1, 1) := by decide +kernel
theorem d_LW_law_1044 : decode code 1044 = .ok (.aload_n 0, 1) := by decide +kernel
theorem d_LW_law_1045 : decode code 1045 = .ok (.iload_n 3, 1) := by decide +kernel
theorem d_LW_law_1046 : decode code 1046 = .ok (.iconst 1, 1) := by decide +kernel
theorem d_LW_law_1047 : decode code 1047 = .ok (.iadd, 1) := by decide +kernel
theorem d_LW_law_1048 : decode code 1048 = .ok (.iaload, 1) := by decide +kernel
theorem d_LW_law_1049 : decode code 1049 = .ok (.invokevirtual 145, 3) := by decide +kernel
theorem d_LW_law_1052 : decode code 1052 = .ok (.aload_n 2, 1) := by decide +kernel
theorem d_LW_law_1053 : decode code 1053 = .ok (.aload_n 0, 1) := by decide +kernel
theorem d_LW_law_1054 : decode code 1054 = .ok (.iload_n 3, 1) := by decide +kernel
theorem d_LW_law_1055 : decode code 1055 = .ok (.iconst 1, 1) := by decide +kernel
theorem d_LW_law_1056 : decode code 1056 = .ok (.iadd, 1) := by decide +kernel
theorem d_LW_law_1057 : decode code 1057 = .ok (.iaload, 1) := by decide +kernel
theorem d_LW_law_1058 : decode code 1058 = .ok (.invokevirtual 148, 3) := by decide +kernel
theorem d_LW_law_1061 : decode code 1061 = .ok (.if_icmp .eq 28, 3) := by decide +kernel
theorem d_LW_law_1064 : decode code 1064 = .ok (.iconst 0, 1) := by decide +kernel
theorem d_LW_law_1065 : decode code 1065 = .ok (.ireturn, 1) := by decide +kernel
theorem d_LW_law_1066 : decode code 1066 = .ok (.aload_n 1, 1) := by decide +kernel
theorem d_LW_law_1067 : decode code 1067 = .ok (.aload_n 0, 1) := by decide +kernel
theorem d_LW_law_1068 : decode code 1068 = .ok (.iload_n 3, 1) := by decide +kernel
theorem d_LW_law_1069 : decode code 1069 = .ok (.iconst 1, 1) := by decide +kernel
theorem d_LW_law_1070 : decode code 1070 = .ok (.iadd, 1) := by decide +kernel
theorem d_LW_law_1071 : decode code 1071 = .ok (.iaload, 1) := by decide +kernel
theorem d_LW_law_1072 : decode code 1072 = .ok (.invokevirtual 149, 3) := by decide +kernel
theorem d_LW_law_1075 : decode code 1075 = .ok (.aload_n 2, 1) := by decide +kernel
theorem d_LW_law_1076 : decode code 1076 = .ok (.aload_n 0, 1) := by decide +kernel
theorem d_LW_law_1077 : decode code 1077 = .ok (.iload_n 3, 1) := by decide +kernel
theorem d_LW_law_1078 : decode code 1078 = .ok (.iconst 1, 1) := by decide +kernel
theorem d_LW_law_1079 : decode code 1079 = .ok (.iadd, 1) := by decide +kernel
theorem d_LW_law_1080 : decode code 1080 = .ok (.iaload, 1) := by decide +kernel
theorem d_LW_law_1081 : decode code 1081 = .ok (.invokevirtual 152, 3) := by decide +kernel
theorem d_LW_law_1084 : decode code 1084 = .ok (.if_icmp .eq 5, 3) := by decide +kernel
theorem d_LW_law_1087 : decode code 1087 = .ok (.iconst 0, 1) := by decide +kernel
theorem d_LW_law_1088 : decode code 1088 = .ok (.ireturn, 1) := by decide +kernel
theorem d_LW_law_1089 : decode code 1089 = .ok (.iinc 3 5, 3) := by decide +kernel
theorem d_LW_law_1092 : decode code 1092 = .ok (.goto (-1074), 3) := by decide +kernel
theorem d_LW_law_1095 : decode code 1095 = .ok (.iconst 1, 1) := by decide +kernel
theorem d_LW_law_1096 : decode code 1096 = .ok (.ireturn, 1) := by decide +kernel
end
section
/-! THE WORLD AS FUNCTIONS, AND A JUDGEMENT OVER IT: all cells are made by the two constructors and stay; so the heap is two functions (cell, place ↦ int; cell, place ↦ long), and the machine's steps are told over them -/
abbrev HI : Type := Nat → Nat → Int32
/-- the tables' words that every callee inherits, and the nest's links, which go by the state -/
def gtbl : List Cond := lw_tbl.filter goodWord
def isNestW : Cond → Bool
  | .fieldLinkNest .. => true
  | _ => false
def nests : List Cond := lw_tbl.filter isNestW
theorem gt_in (i : Nat) {w : Cond} (h : lw_tbl[i]? = some w) (hg : goodWord w = true) : w ∈ gtbl := List.mem_filter.mpr ⟨List.mem_of_getElem? h, hg⟩
theorem ne_in (i : Nat) {w : Cond} (h : lw_tbl[i]? = some w) (hg : isNestW w = true) : w ∈ nests := List.mem_filter.mpr ⟨List.mem_of_getElem? h, hg⟩
theorem gt_sub {ws : List Cond} (h : ∀ w ∈ ws, w ∈ lw_tbl) (hg : ws.all goodWord = true) : ∀ w ∈ ws, w ∈ gtbl := fun w hw => List.mem_filter.mpr ⟨h w hw, List.all_eq_true.mp hg w hw⟩
abbrev HL : Type := Nat → Nat → Int64
/-- a world's layout: the cells' addresses (100: the static table's, 101: the script's), the classes' numbers, the arrays' classes -/
abbrev Om : Type := (Nat → Nat) × va_G × (Nat → ClassId)
def shp (k : Nat) : Sh := shapes.getD k (.inl (0, 0))
def slotRef (i : Nat) : Option Nat := match i with
  | 0 => some 12
  | 1 => some 18
  | _ => none
def fval (α : Nat → Nat) (fi : Nat → Int32) (fl : Nat → Int64) (t : Option (Option Nat)) (i : Nat) : Value := match t with
  | none => .int (fi i)
  | some none => .long (fl i)
  | some (some r) => .ref (α r)
def fvals (α : Nat → Nat) (fi : Nat → Int32) (fl : Nat → Int64) : Nat → List (Option (Option Nat)) → List Value
  | _, [] => []
  | i, t :: ts => fval α fi fl t i :: fvals α fi fl (i + 1) ts
def ent (Ω : Om) (s : Sh) (fi : Nat → Int32) (fl : Nat → Int64) : va_E := match s with
  | .inl (3, n) => .inl (Ω.2.2 3, n, .inr (.inl fl))
  | .inl (4, n) => .inl (Ω.2.2 4, n, .inr (.inr (.inr (.inr (fun i => (slotRef i).map Ω.1)))))
  | .inl (t, n) => .inl (Ω.2.2 t, n, .inl fi)
  | .inr (ci, fs) => .inr (ci, fvals Ω.1 fi fl 0 fs)
def wcells (Ω : Om) (hi : HI) (hl : HL) : va_W := (List.range 61).map (fun k => (Ω.1 k, ent Ω (shp k) (hi k) (hl k)))
theorem wcells_at (Ω : Om) (hi : HI) (hl : HL) {k : Nat} (hk : k < 61) : (wcells Ω hi hl)[k]? = some (Ω.1 k, ent Ω (shp k) (hi k) (hl k)) := by
  simp [wcells, hk]
theorem wcells_set (Ω : Om) {hi hi' : HI} {hl hl' : HL} {k : Nat} {e : va_E} (hk : k < 61) (he : e = ent Ω (shp k) (hi' k) (hl' k)) (ho : ∀ j, j ≠ k → hi' j = hi j ∧ hl' j = hl j) : (wcells Ω hi hl).set k (Ω.1 k, e) = wcells Ω hi' hl' := by
  apply List.ext_getElem?
  intro j
  by_cases hj : j = k
  · subst hj
    rw [wcells_at Ω hi' hl' hk, List.getElem?_set_self (by simp [wcells]; exact hk), he]
  · rw [List.getElem?_set_ne (fun q => hj q.symm)]
    by_cases h : j < 61
    · rw [wcells_at Ω hi hl h, wcells_at Ω hi' hl' h, (ho j hj).1, (ho j hj).2]
    · rw [List.getElem?_eq_none (by simp [wcells]; omega), List.getElem?_eq_none (by simp [wcells]; omega)]
def inA (Ω : Om) : Nat → Prop := fun q => ∃ k, k < 61 ∧ q = Ω.1 k
def apartO (Ω : Om) : Prop := ∀ i j, i < 61 → j < 61 → Ω.1 i = Ω.1 j → i = j
theorem wD {Ω : Om} (h : apartO Ω) (hi : HI) (hl : HL) : va_D (inA Ω) (wcells Ω hi hl) := by
  have at' : ∀ (i : Nat) (q : Nat × va_E), (wcells Ω hi hl)[i]? = some q → i < 61 ∧ q.1 = Ω.1 i := by
    intro i q hq
    by_cases hk : i < 61
    · rw [wcells_at Ω hi hl hk] at hq
      cases hq
      exact ⟨hk, rfl⟩
    · rw [List.getElem?_eq_none (by simp [wcells]; omega)] at hq
      cases hq
  refine ⟨fun i j p q hp hq e => ?_, fun k q hq => ?_⟩
  · obtain ⟨a1, a2⟩ := at' i p hp
    obtain ⟨b1, b2⟩ := at' j q hq
    exact h i j a1 b1 (by rw [← a2, ← b2]; exact e)
  · obtain ⟨a1, a2⟩ := at' k q hq
    exact ⟨k, a1, a2⟩
abbrev tysO (Ω : Om) : List (ClassId × FieldType) := [(Ω.2.2 0, .int), (Ω.2.2 1, .byte), (Ω.2.2 2, .boolean), (Ω.2.2 3, .long), (Ω.2.2 4, .object "BlownByAll$People")]
def figs (j : Nat) : Value := match j with
  | 0 => .int 7776
  | 1 => .int 1296
  | 2 => .int 216
  | 3 => .int 36
  | 4 => .int 6
  | _ => .int 1
/-- what stands of a state beside the cells -/
def bK (Ω : Om) (U : State) : Prop := va_K Ω.2.1 classes (tysO Ω) U ∧ apartO Ω ∧ va_Z "BlownByAll$SeatPlan" "FIGURE_OF" "[I" (.ref (Ω.1 100)) (inA Ω) U U.heap ∧ va_T .int (Ω.1 100) 6 figs (inA Ω) U U.heap ∧ ∀ w ∈ nests, va_Nw w U
def trv (Ω : Om) (v : Value) : Value := match v with
  | .ref k => .ref (Ω.1 k)
  | v => v
abbrev trs (Ω : Om) (st : List Value) : List Value := st.map (trv Ω)
theorem trv_cat (Ω : Om) (v : Value) : (trv Ω v).category = v.category := by cases v <;> rfl
/-- the locals, place by place -/
abbrev LV : Type := List (Option Value)
def hasL (Ω : Om) (ls : Array Slot) (nL : Nat) (lv : LV) : Prop := ls.size = nL ∧ lv_wf ls ∧ ∀ (i : Nat) (v : Value), lv[i]? = some (some v) → ls[i]? = some (.val (trv Ω v))
def lvg : LV → Nat → Option Value
  | [], _ => none
  | o :: _, 0 => o
  | _ :: r, i + 1 => lvg r i
theorem lvg_at : ∀ {lv : LV} {i : Nat} {v : Value}, lvg lv i = some v → lv[i]? = some (some v)
  | [], _, _, h => by cases h
  | o :: _, 0, _, h => by simp only [lvg] at h; simp [h]
  | _ :: r, i + 1, _, h => by simp only [lvg] at h; simpa using lvg_at h
def keepO (o : Option Value) : Option Value := match o with
  | some (.long _) => none
  | some (.double _) => none
  | o => o
def lsetA (o : Option Value) (t : LV) : LV := match o with
  | some (.long _) => none :: t
  | some (.double _) => none :: t
  | o => o :: t
theorem lsetA_eq (o : Option Value) (t : LV) : lsetA o t = keepO o :: t := by
  cases o with
  | none => rfl
  | some w => cases w <;> rfl
/-- a store into one place: a long that stood a place ahead is gone -/
def lset : LV → Nat → Value → LV
  | [], _, _ => []
  | _ :: r, 0, v => some v :: r
  | o :: r, 1, v => lsetA o (lset r 0 v)
  | o :: r, i + 2, v => o :: lset r (i + 1) v
/-- a store of a long -/
def lset2 : LV → Nat → Value → LV
  | [], _, _ => []
  | [_], 0, v => [some v]
  | _ :: _ :: r, 0, v => some v :: none :: r
  | o :: r, 1, v => lsetA o (lset2 r 0 v)
  | o :: r, i + 2, v => o :: lset2 r (i + 1) v
def asc (Ω : Om) : Nat → LV → List (Nat × Value)
  | _, [] => []
  | i, none :: r => asc Ω (i + 1) r
  | i, some v :: r => (i, trv Ω v) :: asc Ω (i + 1) r
theorem asc_mem (Ω : Om) : ∀ (lv : LV) (b : Nat) (q : Nat × Value), q ∈ asc Ω b lv ↔ ∃ (i : Nat) (v : Value), lv[i]? = some (some v) ∧ q = (b + i, trv Ω v)
  | [], b, q => by simp [asc]
  | none :: r, b, q => by
    rw [asc, asc_mem Ω r (b + 1) q]
    constructor
    · rintro ⟨i, v, h, rfl⟩
      exact ⟨i + 1, v, by simpa using h, by rw [Nat.add_assoc, Nat.add_comm 1 i]⟩
    · rintro ⟨i, v, h, rfl⟩
      cases i with
      | zero => simp at h
      | succ i => exact ⟨i, v, by simpa using h, by rw [Nat.add_assoc, Nat.add_comm 1 i]⟩
  | some w :: r, b, q => by
    rw [asc, List.mem_cons, asc_mem Ω r (b + 1) q]
    constructor
    · rintro (rfl | ⟨i, v, h, rfl⟩)
      · exact ⟨0, w, rfl, rfl⟩
      · exact ⟨i + 1, v, by simpa using h, by rw [Nat.add_assoc, Nat.add_comm 1 i]⟩
    · rintro ⟨i, v, h, rfl⟩
      cases i with
      | zero =>
        left
        simp at h
        rw [h]; rfl
      | succ i => exact Or.inr ⟨i, v, by simpa using h, by rw [Nat.add_assoc, Nat.add_comm 1 i]⟩
theorem hasL_asc {Ω : Om} {ls : Array Slot} {nL : Nat} {lv : LV} : hasL Ω ls nL lv ↔ lv_has ls nL (asc Ω 0 lv) := by
  constructor
  · rintro ⟨h1, h2, h3⟩
    refine ⟨h1, h2, fun q hq => ?_⟩
    obtain ⟨i, v, h, rfl⟩ := (asc_mem Ω lv 0 q).mp hq
    rw [Nat.zero_add]
    exact h3 i v h
  · rintro ⟨h1, h2, h3⟩
    refine ⟨h1, h2, fun i v h => ?_⟩
    have := h3 (0 + i, trv Ω v) ((asc_mem Ω lv 0 _).mpr ⟨i, v, h, rfl⟩)
    rwa [Nat.zero_add] at this
theorem keepO_some {o : Option Value} {v : Value} (h : keepO o = some v) : o = some v ∧ ¬ v.category = 2 := by
  cases o with
  | none => cases h
  | some w => cases w <;> simp [keepO] at h <;> subst h <;> exact ⟨rfl, by simp [Value.category]⟩
theorem lset_at : ∀ {lv : LV} {i : Nat} {x : Value} {j : Nat} {v : Value}, (lset lv i x)[j]? = some (some v) → (j = i ∧ v = x) ∨ (j ≠ i ∧ lv[j]? = some (some v) ∧ ¬ (j + 1 = i ∧ v.category = 2))
  | [], i, x, j, v, h => by simp [lset] at h
  | o :: r, 0, x, j, v, h => by
    simp only [lset] at h
    cases j with
    | zero => left; simp at h; exact ⟨rfl, h.symm⟩
    | succ j => right; exact ⟨by omega, by simpa using h, by omega⟩
  | o :: r, 1, x, j, v, h => by
    simp only [lset, lsetA_eq] at h
    cases j with
    | zero =>
      simp at h
      obtain ⟨h1, h2⟩ := keepO_some h
      right
      exact ⟨by omega, by simp [h1], fun q => h2 q.2⟩
    | succ j =>
      rw [List.getElem?_cons_succ] at h
      rcases lset_at h with ⟨h1, h2⟩ | ⟨h1, h2, h3⟩
      · left; exact ⟨by omega, h2⟩
      · right; exact ⟨by omega, by simpa using h2, by omega⟩
  | o :: r, i + 2, x, j, v, h => by
    simp only [lset] at h
    cases j with
    | zero => right; exact ⟨by omega, by simpa using h, by omega⟩
    | succ j =>
      rw [List.getElem?_cons_succ] at h
      rcases lset_at h with ⟨h1, h2⟩ | ⟨h1, h2, h3⟩
      · left; exact ⟨by omega, h2⟩
      · right; exact ⟨by omega, by simpa using h2, fun q => h3 ⟨by omega, q.2⟩⟩
theorem lset2_at : ∀ {lv : LV} {i : Nat} {x : Value} {j : Nat} {v : Value}, (lset2 lv i x)[j]? = some (some v) → (j = i ∧ v = x) ∨ (j ≠ i ∧ j ≠ i + 1 ∧ lv[j]? = some (some v) ∧ ¬ (j + 1 = i ∧ v.category = 2))
  | [], i, x, j, v, h => by simp [lset2] at h
  | [o], 0, x, j, v, h => by
    simp only [lset2] at h
    cases j with
    | zero => left; simp at h; exact ⟨rfl, h.symm⟩
    | succ j => simp at h
  | o :: o2 :: r, 0, x, j, v, h => by
    simp only [lset2] at h
    cases j with
    | zero => left; simp at h; exact ⟨rfl, h.symm⟩
    | succ j =>
      cases j with
      | zero => simp at h
      | succ j => right; exact ⟨by omega, by omega, by simpa using h, by omega⟩
  | o :: r, 1, x, j, v, h => by
    cases r with
    | nil =>
      simp only [lset2, lsetA_eq] at h
      cases j with
      | zero =>
        simp at h
        obtain ⟨h1, h2⟩ := keepO_some h
        right
        exact ⟨by omega, by omega, by simp [h1], fun q => h2 q.2⟩
      | succ j => simp at h
    | cons o2 r =>
      have e : lset2 (o :: o2 :: r) 1 x = keepO o :: lset2 (o2 :: r) 0 x := by simp [lset2, lsetA_eq]
      rw [e] at h
      cases j with
      | zero =>
        simp at h
        obtain ⟨h1, h2⟩ := keepO_some h
        right
        exact ⟨by omega, by omega, by simp [h1], fun q => h2 q.2⟩
      | succ j =>
        rw [List.getElem?_cons_succ] at h
        rcases lset2_at h with ⟨h1, h2⟩ | ⟨h1, h2, h3, h4⟩
        · left; exact ⟨by omega, h2⟩
        · right; exact ⟨by omega, by omega, by simpa using h3, by omega⟩
  | o :: r, i + 2, x, j, v, h => by
    have e : lset2 (o :: r) (i + 2) x = o :: lset2 r (i + 1) x := by cases r <;> simp [lset2]
    rw [e] at h
    cases j with
    | zero => right; exact ⟨by omega, by omega, by simpa using h, by omega⟩
    | succ j =>
      rw [List.getElem?_cons_succ] at h
      rcases lset2_at h with ⟨h1, h2⟩ | ⟨h1, h2, h3, h4⟩
      · left; exact ⟨by omega, h2⟩
      · right; exact ⟨by omega, by omega, by simpa using h3, fun q => h4 ⟨by omega, q.2⟩⟩
theorem hasL_store {Ω : Om} {ls' : Array Slot} {nL i : Nat} {lv : LV} {x : Value} (h : lv_has ls' nL ((i, trv Ω x) :: (asc Ω 0 lv).filter (fun q => !(q.1 == i) && !(q.1 + 1 == i && q.2.category == 2)))) : hasL Ω ls' nL (lset lv i x) := by
  refine ⟨h.1, h.2.1, fun j v hj => ?_⟩
  rcases lset_at hj with ⟨rfl, rfl⟩ | ⟨h1, h2, h3⟩
  · exact h.2.2 (j, trv Ω v) List.mem_cons_self
  · refine h.2.2 (j, trv Ω v) (List.mem_cons_of_mem _ (List.mem_filter.mpr ⟨(asc_mem Ω lv 0 _).mpr ⟨j, v, h2, by rw [Nat.zero_add]⟩, ?_⟩))
    simp only [trv_cat]
    by_cases hc : j + 1 = i
    · have : ¬ v.category = 2 := fun q => h3 ⟨hc, q⟩
      simp [h1, this]
    · simp [h1, hc]
theorem hasL_store2 {Ω : Om} {ls' : Array Slot} {nL i : Nat} {lv : LV} {x : Value} (h : lv_has ls' nL ((i, trv Ω x) :: (asc Ω 0 lv).filter (fun q => !(q.1 == i) && (!(q.1 == i + 1) && !(q.1 + 1 == i && q.2.category == 2))))) : hasL Ω ls' nL (lset2 lv i x) := by
  refine ⟨h.1, h.2.1, fun j v hj => ?_⟩
  rcases lset2_at hj with ⟨rfl, rfl⟩ | ⟨h1, h2, h3, h4⟩
  · exact h.2.2 (j, trv Ω v) List.mem_cons_self
  · refine h.2.2 (j, trv Ω v) (List.mem_cons_of_mem _ (List.mem_filter.mpr ⟨(asc_mem Ω lv 0 _).mpr ⟨j, v, h3, by rw [Nat.zero_add]⟩, ?_⟩))
    simp only [trv_cat]
    by_cases hc : j + 1 = i
    · have : ¬ v.category = 2 := fun q => h4 ⟨hc, q⟩
      simp [h1, h2, this]
    · simp [h1, h2, hc]
/-- fewer locals -/
def lle : LV → LV → Prop
  | [], _ => True
  | none :: r, [] => lle r []
  | some _ :: _, [] => False
  | none :: r, _ :: r' => lle r r'
  | some v :: r, o :: r' => o = some v ∧ lle r r'
theorem lle_at : ∀ {a b : LV}, lle a b → ∀ {i : Nat} {v : Value}, a[i]? = some (some v) → b[i]? = some (some v)
  | [], _, _, i, v, h => by simp at h
  | none :: r, [], hl, i, v, h => by
    cases i with
    | zero => simp at h
    | succ i => have := lle_at (b := []) (by simpa [lle] using hl) (by simpa using h : r[i]? = some (some v)); simp at this
  | some w :: r, [], hl, i, v, h => by simp [lle] at hl
  | none :: r, o :: r', hl, i, v, h => by
    cases i with
    | zero => simp at h
    | succ i => have := lle_at (by simpa [lle] using hl : lle r r') (by simpa using h : r[i]? = some (some v)); simpa using this
  | some w :: r, o :: r', hl, i, v, h => by
    simp only [lle] at hl
    cases i with
    | zero => simp at h ⊢; rw [hl.1, h]
    | succ i => have := lle_at hl.2 (by simpa using h : r[i]? = some (some v)); simpa using this
theorem hasL_le {Ω : Om} {ls : Array Slot} {nL : Nat} {a b : LV} (hl : lle a b) (h : hasL Ω ls nL b) : hasL Ω ls nL a := ⟨h.1, h.2.1, fun i v hi => h.2.2 i v (lle_at hl hi)⟩
/-- what may be answered by ireturn -/
def bOkI (r : Option FieldType) (v : Int32) : Prop := r = some .int ∨ (r = some .boolean ∧ (v = 0 ∨ v = 1))
def bRet (M : MD) (Post : Option Value → HI → HL → Prop) (Ω : Om) (p : Program) (l : Launch) (e : Env) (R : Room) (s : State) (m : MethodId) (args : Array Value) (below : List Frame) (meth : Method) (c : Code) (cells slots : Nat) (Q : State → Prop) : Prop :=
  ∀ (pc : Nat) (ls : Array Slot) (hi : HI) (hl : HL) (H : Heap) (locs : List Loc), va_P Ω.2.1 classes (wcells Ω hi hl) H → va_S (inA Ω) s.heap H locs →
    (∀ v : Int32, decode M.2.1 pc = .ok (.ireturn, 1) → bOkI M.2.2.2 v → Post (some (.int v)) hi hl → W p l e R s m args below meth c H locs cells slots Q (F0 m pc ls [.int v])) ∧
    (∀ v : Int64, decode M.2.1 pc = .ok (.lreturn, 1) → M.2.2.2 = some .long → Post (some (.long v)) hi hl → W p l e R s m args below meth c H locs cells slots Q (F0 m pc ls [.long v])) ∧
    (decode M.2.1 pc = .ok (.return_, 1) → M.2.2.2 = none → Post none hi hl → W p l e R s m args below meth c H locs cells slots Q (F0 m pc ls []))
def bCx (M : MD) (d : Nat) (Post : Option Value → HI → HL → Prop) (Ω : Om) (p : Program) (l : Launch) (e : Env) (R : Room) (s : State) (m : MethodId) (args : Array Value) (below : List Frame) (meth : Method) (c : Code) (cells slots : Nat) (Q : State → Prop) : Prop :=
  p.tables.exec = Jvm.exec ∧ c.code = M.2.1 ∧ c.maxLocals = M.2.2.1 ∧ s.vm.findClass M.1.cls = some m.cls ∧ (∀ w ∈ gtbl, w.before args s = true) ∧
  (d ≤ R.frames ∧ 64 * d ≤ R.locals ∧ cells ≤ R.cells ∧ slots ≤ R.slots) ∧ bK Ω s ∧ bRet M Post Ω p l e R s m args below meth c cells slots Q
/-- THE JUDGEMENT: the method M, with room for d calls one in another, at pc with these locals, operands and contents, comes to its end with Post -/
def Wp (M : MD) (d : Nat) (Post : Option Value → HI → HL → Prop) (pc : Nat) (lv : LV) (st : List Value) (hi : HI) (hl : HL) : Prop :=
  ∀ (Ω : Om) (p : Program) (l : Launch) (e : Env) (R : Room) (s : State) (m : MethodId) (args : Array Value) (below : List Frame) (meth : Method) (c : Code) (cells slots : Nat) (Q : State → Prop),
    bCx M d Post Ω p l e R s m args below meth c cells slots Q → ∀ (H : Heap) (locs : List Loc) (ls : Array Slot), va_P Ω.2.1 classes (wcells Ω hi hl) H → va_S (inA Ω) s.heap H locs → hasL Ω ls M.2.2.1 lv →
      W p l e R s m args below meth c H locs cells slots Q (F0 m pc ls (trs Ω st))
section WP
variable {M : MD} {d : Nat} {Post : Option Value → HI → HL → Prop} {pc : Nat} {lv : LV} {st : List Value} {hi : HI} {hl : HL}
theorem wp_conseq {Post' : Option Value → HI → HL → Prop} (h : ∀ v hi hl, Post' v hi hl → Post v hi hl) (k : Wp M d Post' pc lv st hi hl) : Wp M d Post pc lv st hi hl := by
  intro Ω p l e R s m args below meth c cells slots Q C
  obtain ⟨c1, c2, c3, c4, c5, c6, c7, c8⟩ := C
  refine k Ω p l e R s m args below meth c cells slots Q ⟨c1, c2, c3, c4, c5, c6, c7, fun pc ls hi hl H locs hP hS => ?_⟩
  obtain ⟨r1, r2, r3⟩ := c8 pc ls hi hl H locs hP hS
  exact ⟨fun v hd ho hp => r1 v hd ho (h _ _ _ hp), fun v hd ho hp => r2 v hd ho (h _ _ _ hp), fun hd ho hp => r3 hd ho (h _ _ _ hp)⟩
theorem wp_drop {lv' : LV} (h : lle lv' lv) (k : Wp M d Post pc lv' st hi hl) : Wp M d Post pc lv st hi hl := fun Ω p l e R s m args below meth c cells slots Q C H locs ls hP hS hL => k Ω p l e R s m args below meth c cells slots Q C H locs ls hP hS (hasL_le h hL)
/-- a step that touches the operands alone -/
theorem wp_go {pc' : Nat} {st' : List Value} (h : ∀ (Ω : Om) (p : Program) (l : Launch) (e : Env) (R : Room) (s : State) (m : MethodId) (args : Array Value) (below : List Frame) (meth : Method) (c : Code) (cells slots : Nat) (Q : State → Prop) (H : Heap) (locs : List Loc) (ls : Array Slot), p.tables.exec = Jvm.exec → c.code = M.2.1 → s.vm.findClass M.1.cls = some m.cls → (∀ w ∈ gtbl, w.before args s = true) → hasL Ω ls M.2.2.1 lv → W p l e R s m args below meth c H locs cells slots Q (F0 m pc' ls (trs Ω st')) → W p l e R s m args below meth c H locs cells slots Q (F0 m pc ls (trs Ω st)))
    (k : Wp M d Post pc' lv st' hi hl) : Wp M d Post pc lv st hi hl := fun Ω p l e R s m args below meth c cells slots Q C H locs ls hP hS hL =>
  h Ω p l e R s m args below meth c cells slots Q H locs ls C.1 C.2.1 C.2.2.2.1 C.2.2.2.2.1 hL (k Ω p l e R s m args below meth c cells slots Q C H locs ls hP hS hL)
theorem wp_iconst {n : Int} {v : Int32} (hd : decode M.2.1 pc = .ok (.iconst n, 1)) (hv : Int32.ofInt n = v) (k : Wp M d Post (pc + 1) lv (.int v :: st) hi hl) : Wp M d Post pc lv st hi hl := wp_go (fun _ _ _ _ _ _ _ _ _ _ _ _ _ _ _ _ _ hx hb _ _ _ k => lv_iconst hx hb hd hv k) k
theorem wp_bipush {n : Int} {v : Int32} (hd : decode M.2.1 pc = .ok (.bipush n, 2)) (hv : (Int8.ofInt n).toInt32 = v) (k : Wp M d Post (pc + 2) lv (.int v :: st) hi hl) : Wp M d Post pc lv st hi hl := wp_go (fun _ _ _ _ _ _ _ _ _ _ _ _ _ _ _ _ _ hx hb _ _ _ k => lv_bipush hx hb hd hv k) k
theorem wp_sipush {n : Int} {v : Int32} (hd : decode M.2.1 pc = .ok (.sipush n, 3)) (hv : (Int16.ofInt n).toInt32 = v) (k : Wp M d Post (pc + 3) lv (.int v :: st) hi hl) : Wp M d Post pc lv st hi hl := wp_go (fun _ _ _ _ _ _ _ _ _ _ _ _ _ _ _ _ _ hx hb _ _ _ k => lv_sipush hx hb hd hv k) k
theorem wp_lconst {n : Fin 2} {v : Int64} (hd : decode M.2.1 pc = .ok (.lconst n, 1)) (hv : Int64.ofNat (n : Nat) = v) (k : Wp M d Post (pc + 1) lv (.long v :: st) hi hl) : Wp M d Post pc lv st hi hl := wp_go (fun _ _ _ _ _ _ _ _ _ _ _ _ _ _ _ _ _ hx hb _ _ _ k => lv_lconst hx hb hd hv k) k
theorem wp_ldc {index : Nat} {v : Int32} (hd : decode M.2.1 pc = .ok (.ldc index, 2)) (hw : Cond.constant M.1.cls index v ∈ gtbl) (k : Wp M d Post (pc + 2) lv (.int v :: st) hi hl) : Wp M d Post pc lv st hi hl := wp_go (fun _ _ _ _ _ _ _ _ _ _ _ _ _ _ _ _ _ hx hb ho ht _ k => lv_ldc hx hb ho (ht _ hw) hd k) k
theorem wp_ldcw {index : Nat} {v : Int32} (hd : decode M.2.1 pc = .ok (.ldc_w index, 3)) (hw : Cond.constant M.1.cls index v ∈ gtbl) (k : Wp M d Post (pc + 3) lv (.int v :: st) hi hl) : Wp M d Post pc lv st hi hl := wp_go (fun _ _ _ _ _ _ _ _ _ _ _ _ _ _ _ _ _ hx hb ho ht _ k => lv_ldcw hx hb ho (ht _ hw) hd k) k
theorem wp_ldc2 {index : Nat} {v : Int64} (hd : decode M.2.1 pc = .ok (.ldc2_w index, 3)) (hw : Cond.constantLong M.1.cls index v ∈ gtbl) (k : Wp M d Post (pc + 3) lv (.long v :: st) hi hl) : Wp M d Post pc lv st hi hl := wp_go (fun _ _ _ _ _ _ _ _ _ _ _ _ _ _ _ _ _ hx hb ho ht _ k => lv_ldc2 hx hb ho (ht _ hw) hd k) k
theorem wp_iload_n {n : Fin 4} {x : Int32} (hd : decode M.2.1 pc = .ok (.iload_n n, 1)) (hg : lvg lv n = some (.int x)) (k : Wp M d Post (pc + 1) lv (.int x :: st) hi hl) : Wp M d Post pc lv st hi hl := wp_go (fun _ _ _ _ _ _ _ _ _ _ _ _ _ _ _ _ _ hx hb _ _ hL k => lv_iload_n hx hb hd rfl (hL.2.2 _ _ (lvg_at hg)) k) k
theorem wp_iload {n : Nat} {x : Int32} (hd : decode M.2.1 pc = .ok (.iload n, 2)) (hg : lvg lv n = some (.int x)) (k : Wp M d Post (pc + 2) lv (.int x :: st) hi hl) : Wp M d Post pc lv st hi hl := wp_go (fun _ _ _ _ _ _ _ _ _ _ _ _ _ _ _ _ _ hx hb _ _ hL k => lv_iload hx hb hd (hL.2.2 _ _ (lvg_at hg)) k) k
theorem wp_lload_n {n : Fin 4} {x : Int64} (hd : decode M.2.1 pc = .ok (.lload_n n, 1)) (hg : lvg lv n = some (.long x)) (k : Wp M d Post (pc + 1) lv (.long x :: st) hi hl) : Wp M d Post pc lv st hi hl := wp_go (fun _ _ _ _ _ _ _ _ _ _ _ _ _ _ _ _ _ hx hb _ _ hL k => lv_lload_n hx hb hd rfl (hL.2.2 _ _ (lvg_at hg)) k) k
theorem wp_lload {n : Nat} {x : Int64} (hd : decode M.2.1 pc = .ok (.lload n, 2)) (hg : lvg lv n = some (.long x)) (k : Wp M d Post (pc + 2) lv (.long x :: st) hi hl) : Wp M d Post pc lv st hi hl := wp_go (fun _ _ _ _ _ _ _ _ _ _ _ _ _ _ _ _ _ hx hb _ _ hL k => lv_lload hx hb hd (hL.2.2 _ _ (lvg_at hg)) k) k
theorem wp_aload_n {n : Fin 4} {x : Nat} (hd : decode M.2.1 pc = .ok (.aload_n n, 1)) (hg : lvg lv n = some (.ref x)) (k : Wp M d Post (pc + 1) lv (.ref x :: st) hi hl) : Wp M d Post pc lv st hi hl := wp_go (fun _ _ _ _ _ _ _ _ _ _ _ _ _ _ _ _ _ hx hb _ _ hL k => lv_aload_n hx hb hd rfl (hL.2.2 _ _ (lvg_at hg)) k) k
theorem wp_iadd {x y : Int32} (hd : decode M.2.1 pc = .ok (.iadd, 1)) (k : Wp M d Post (pc + 1) lv (.int (x + y) :: st) hi hl) : Wp M d Post pc lv (.int y :: .int x :: st) hi hl := wp_go (fun _ _ _ _ _ _ _ _ _ _ _ _ _ _ _ _ _ hx hb _ _ _ k => lv_iadd hx hb hd k) k
theorem wp_isub {x y : Int32} (hd : decode M.2.1 pc = .ok (.isub, 1)) (k : Wp M d Post (pc + 1) lv (.int (x - y) :: st) hi hl) : Wp M d Post pc lv (.int y :: .int x :: st) hi hl := wp_go (fun _ _ _ _ _ _ _ _ _ _ _ _ _ _ _ _ _ hx hb _ _ _ k => lv_isub hx hb hd k) k
theorem wp_imul {x y : Int32} (hd : decode M.2.1 pc = .ok (.imul, 1)) (k : Wp M d Post (pc + 1) lv (.int (x * y) :: st) hi hl) : Wp M d Post pc lv (.int y :: .int x :: st) hi hl := wp_go (fun _ _ _ _ _ _ _ _ _ _ _ _ _ _ _ _ _ hx hb _ _ _ k => lv_imul hx hb hd k) k
theorem wp_iand {x y : Int32} (hd : decode M.2.1 pc = .ok (.iand, 1)) (k : Wp M d Post (pc + 1) lv (.int (x &&& y) :: st) hi hl) : Wp M d Post pc lv (.int y :: .int x :: st) hi hl := wp_go (fun _ _ _ _ _ _ _ _ _ _ _ _ _ _ _ _ _ hx hb _ _ _ k => lv_iand hx hb hd k) k
theorem wp_ior {x y : Int32} (hd : decode M.2.1 pc = .ok (.ior, 1)) (k : Wp M d Post (pc + 1) lv (.int (x ||| y) :: st) hi hl) : Wp M d Post pc lv (.int y :: .int x :: st) hi hl := wp_go (fun _ _ _ _ _ _ _ _ _ _ _ _ _ _ _ _ _ hx hb _ _ _ k => lv_ior hx hb hd k) k
theorem wp_ixor {x y : Int32} (hd : decode M.2.1 pc = .ok (.ixor, 1)) (k : Wp M d Post (pc + 1) lv (.int (x ^^^ y) :: st) hi hl) : Wp M d Post pc lv (.int y :: .int x :: st) hi hl := wp_go (fun _ _ _ _ _ _ _ _ _ _ _ _ _ _ _ _ _ hx hb _ _ _ k => lv_ixor hx hb hd k) k
theorem wp_idiv {x y : Int32} (hd : decode M.2.1 pc = .ok (.idiv, 1)) (hne : ¬ y = 0) (k : Wp M d Post (pc + 1) lv (.int (x / y) :: st) hi hl) : Wp M d Post pc lv (.int y :: .int x :: st) hi hl := wp_go (fun _ _ _ _ _ _ _ _ _ _ _ _ _ _ _ _ _ hx hb _ _ _ k => lv_idiv hx hb hd hne k) k
theorem wp_irem {x y : Int32} (hd : decode M.2.1 pc = .ok (.irem, 1)) (hne : ¬ y = 0) (k : Wp M d Post (pc + 1) lv (.int (x - x / y * y) :: st) hi hl) : Wp M d Post pc lv (.int y :: .int x :: st) hi hl := wp_go (fun _ _ _ _ _ _ _ _ _ _ _ _ _ _ _ _ _ hx hb _ _ _ k => lv_irem hx hb hd hne k) k
theorem wp_ineg {x : Int32} (hd : decode M.2.1 pc = .ok (.ineg, 1)) (k : Wp M d Post (pc + 1) lv (.int (-x) :: st) hi hl) : Wp M d Post pc lv (.int x :: st) hi hl := wp_go (fun _ _ _ _ _ _ _ _ _ _ _ _ _ _ _ _ _ hx hb _ _ _ k => lv_ineg hx hb hd k) k
theorem wp_ishl {x y : Int32} (hd : decode M.2.1 pc = .ok (.ishl, 1)) (k : Wp M d Post (pc + 1) lv (.int (x <<< (y &&& 31)) :: st) hi hl) : Wp M d Post pc lv (.int y :: .int x :: st) hi hl := wp_go (fun _ _ _ _ _ _ _ _ _ _ _ _ _ _ _ _ _ hx hb _ _ _ k => lv_ishl hx hb hd k) k
theorem wp_ishr {x y : Int32} (hd : decode M.2.1 pc = .ok (.ishr, 1)) (k : Wp M d Post (pc + 1) lv (.int (x >>> (y &&& 31)) :: st) hi hl) : Wp M d Post pc lv (.int y :: .int x :: st) hi hl := wp_go (fun _ _ _ _ _ _ _ _ _ _ _ _ _ _ _ _ _ hx hb _ _ _ k => lv_ishr hx hb hd k) k
theorem wp_iushr {x y : Int32} (hd : decode M.2.1 pc = .ok (.iushr, 1)) (k : Wp M d Post (pc + 1) lv (.int (x.toUInt32 >>> (y.toUInt32 &&& Int32.toUInt32 31)).toInt32 :: st) hi hl) : Wp M d Post pc lv (.int y :: .int x :: st) hi hl := wp_go (fun _ _ _ _ _ _ _ _ _ _ _ _ _ _ _ _ _ hx hb _ _ _ k => lv_iushr hx hb hd rfl k) k
theorem wp_ladd {x y : Int64} (hd : decode M.2.1 pc = .ok (.ladd, 1)) (k : Wp M d Post (pc + 1) lv (.long (x + y) :: st) hi hl) : Wp M d Post pc lv (.long y :: .long x :: st) hi hl := wp_go (fun _ _ _ _ _ _ _ _ _ _ _ _ _ _ _ _ _ hx hb _ _ _ k => lv_ladd hx hb hd k) k
theorem wp_lsub {x y : Int64} (hd : decode M.2.1 pc = .ok (.lsub, 1)) (k : Wp M d Post (pc + 1) lv (.long (x - y) :: st) hi hl) : Wp M d Post pc lv (.long y :: .long x :: st) hi hl := wp_go (fun _ _ _ _ _ _ _ _ _ _ _ _ _ _ _ _ _ hx hb _ _ _ k => lv_lsub hx hb hd k) k
theorem wp_lmul {x y : Int64} (hd : decode M.2.1 pc = .ok (.lmul, 1)) (k : Wp M d Post (pc + 1) lv (.long (x * y) :: st) hi hl) : Wp M d Post pc lv (.long y :: .long x :: st) hi hl := wp_go (fun _ _ _ _ _ _ _ _ _ _ _ _ _ _ _ _ _ hx hb _ _ _ k => lv_lmul hx hb hd k) k
theorem wp_land {x y : Int64} (hd : decode M.2.1 pc = .ok (.land, 1)) (k : Wp M d Post (pc + 1) lv (.long (x &&& y) :: st) hi hl) : Wp M d Post pc lv (.long y :: .long x :: st) hi hl := wp_go (fun _ _ _ _ _ _ _ _ _ _ _ _ _ _ _ _ _ hx hb _ _ _ k => lv_land hx hb hd k) k
theorem wp_lor {x y : Int64} (hd : decode M.2.1 pc = .ok (.lor, 1)) (k : Wp M d Post (pc + 1) lv (.long (x ||| y) :: st) hi hl) : Wp M d Post pc lv (.long y :: .long x :: st) hi hl := wp_go (fun _ _ _ _ _ _ _ _ _ _ _ _ _ _ _ _ _ hx hb _ _ _ k => lv_lor hx hb hd k) k
theorem wp_ldiv {x y : Int64} (hd : decode M.2.1 pc = .ok (.ldiv, 1)) (hne : ¬ y = 0) (k : Wp M d Post (pc + 1) lv (.long (x / y) :: st) hi hl) : Wp M d Post pc lv (.long y :: .long x :: st) hi hl := wp_go (fun _ _ _ _ _ _ _ _ _ _ _ _ _ _ _ _ _ hx hb _ _ _ k => lv_ldiv hx hb hd hne k) k
theorem wp_lrem {x y : Int64} (hd : decode M.2.1 pc = .ok (.lrem, 1)) (hne : ¬ y = 0) (k : Wp M d Post (pc + 1) lv (.long (x - x / y * y) :: st) hi hl) : Wp M d Post pc lv (.long y :: .long x :: st) hi hl := wp_go (fun _ _ _ _ _ _ _ _ _ _ _ _ _ _ _ _ _ hx hb _ _ _ k => lv_lrem hx hb hd hne k) k
theorem wp_lshl {x : Int64} {y : Int32} (hd : decode M.2.1 pc = .ok (.lshl, 1)) (k : Wp M d Post (pc + 1) lv (.long (x <<< (y.toInt64 &&& 63)) :: st) hi hl) : Wp M d Post pc lv (.int y :: .long x :: st) hi hl := wp_go (fun _ _ _ _ _ _ _ _ _ _ _ _ _ _ _ _ _ hx hb _ _ _ k => lv_lshl hx hb hd rfl k) k
theorem wp_lshr {x : Int64} {y : Int32} (hd : decode M.2.1 pc = .ok (.lshr, 1)) (k : Wp M d Post (pc + 1) lv (.long (x >>> (y.toInt64 &&& 63)) :: st) hi hl) : Wp M d Post pc lv (.int y :: .long x :: st) hi hl := wp_go (fun _ _ _ _ _ _ _ _ _ _ _ _ _ _ _ _ _ hx hb _ _ _ k => lv_lshr hx hb hd rfl k) k
theorem wp_i2l {x : Int32} (hd : decode M.2.1 pc = .ok (.i2l, 1)) (k : Wp M d Post (pc + 1) lv (.long x.toInt64 :: st) hi hl) : Wp M d Post pc lv (.int x :: st) hi hl := wp_go (fun _ _ _ _ _ _ _ _ _ _ _ _ _ _ _ _ _ hx hb _ _ _ k => lv_i2l hx hb hd rfl k) k
theorem wp_l2i {x : Int64} (hd : decode M.2.1 pc = .ok (.l2i, 1)) (k : Wp M d Post (pc + 1) lv (.int x.toInt32 :: st) hi hl) : Wp M d Post pc lv (.long x :: st) hi hl := wp_go (fun _ _ _ _ _ _ _ _ _ _ _ _ _ _ _ _ _ hx hb _ _ _ k => lv_l2i hx hb hd rfl k) k
theorem wp_i2b {x : Int32} (hd : decode M.2.1 pc = .ok (.i2b, 1)) (k : Wp M d Post (pc + 1) lv (.int x.toInt8.toInt32 :: st) hi hl) : Wp M d Post pc lv (.int x :: st) hi hl := wp_go (fun _ _ _ _ _ _ _ _ _ _ _ _ _ _ _ _ _ hx hb _ _ _ k => lv_i2b hx hb hd rfl k) k
theorem wp_lcmp {x y : Int64} (hd : decode M.2.1 pc = .ok (.lcmp, 1)) (k : Wp M d Post (pc + 1) lv (.int (lg_cmp x y) :: st) hi hl) : Wp M d Post pc lv (.long y :: .long x :: st) hi hl := wp_go (fun _ _ _ _ _ _ _ _ _ _ _ _ _ _ _ _ _ hx hb _ _ _ k => W.lcmp hx hb hd k) k
theorem wp_dup {va : Value} (hd : decode M.2.1 pc = .ok (.dup, 1)) (hc : va.category = 1) (k : Wp M d Post (pc + 1) lv (va :: va :: st) hi hl) : Wp M d Post pc lv (va :: st) hi hl := wp_go (fun Ω _ _ _ _ _ _ _ _ _ _ _ _ _ _ _ _ hx hb _ _ _ k => lv_dup hx hb hd (by rw [trv_cat]; exact hc) k) k
theorem wp_pop {va : Value} (hd : decode M.2.1 pc = .ok (.pop, 1)) (hc : va.category = 1) (k : Wp M d Post (pc + 1) lv st hi hl) : Wp M d Post pc lv (va :: st) hi hl := wp_go (fun Ω _ _ _ _ _ _ _ _ _ _ _ _ _ _ _ _ hx hb _ _ _ k => lv_pop hx hb hd (by rw [trv_cat]; exact hc) k) k
theorem wp_dup2 {va vb : Value} (hd : decode M.2.1 pc = .ok (.dup2, 1)) (hc : va.category = 1) (hc2 : vb.category = 1) (k : Wp M d Post (pc + 1) lv (va :: vb :: va :: vb :: st) hi hl) : Wp M d Post pc lv (va :: vb :: st) hi hl := wp_go (fun Ω _ _ _ _ _ _ _ _ _ _ _ _ _ _ _ _ hx hb _ _ _ k => lv_dup2_11 hx hb hd (by rw [trv_cat]; exact hc) (by rw [trv_cat]; exact hc2) k) k
theorem wp_goto {off : Int} {tgt : Nat} (hd : decode M.2.1 pc = .ok (.goto off, 3)) (ht : (pc : Int) + off = (tgt : Int)) (k : Wp M d Post tgt lv st hi hl) : Wp M d Post pc lv st hi hl := wp_go (fun _ _ _ _ _ _ _ _ _ _ _ _ _ _ _ _ _ hx hb _ _ _ k => lv_goto hx hb hd ht k) k
end WP
end
section
/-! branches, stores, fields, arrays, calls, returns over the judgement -/
section WP2
variable {M : MD} {d : Nat} {Post : Option Value → HI → HL → Prop} {pc : Nat} {lv : LV} {st : List Value} {hi : HI} {hl : HL}
theorem wp_if_eq {x : Int32} {off : Int} {tgt : Nat} (hd : decode M.2.1 pc = .ok (.ifCond .eq off, 3)) (ht : (pc : Int) + off = (tgt : Int)) (kt : x = 0 → Wp M d Post tgt lv st hi hl) (kf : ¬ x = 0 → Wp M d Post (pc + 3) lv st hi hl) : Wp M d Post pc lv (.int x :: st) hi hl := fun Ω p l e R s m args below meth c cells slots Q C H locs ls hP hS hL => lv_if_eq C.1 C.2.1 hd ht (fun h => kt h Ω p l e R s m args below meth c cells slots Q C H locs ls hP hS hL) (fun h => kf h Ω p l e R s m args below meth c cells slots Q C H locs ls hP hS hL)
theorem wp_icmp_eq {x y : Int32} {off : Int} {tgt : Nat} (hd : decode M.2.1 pc = .ok (.if_icmp .eq off, 3)) (ht : (pc : Int) + off = (tgt : Int)) (kt : x = y → Wp M d Post tgt lv st hi hl) (kf : ¬ x = y → Wp M d Post (pc + 3) lv st hi hl) : Wp M d Post pc lv (.int y :: .int x :: st) hi hl := fun Ω p l e R s m args below meth c cells slots Q C H locs ls hP hS hL => lv_icmp_eq C.1 C.2.1 hd ht (fun h => kt h Ω p l e R s m args below meth c cells slots Q C H locs ls hP hS hL) (fun h => kf h Ω p l e R s m args below meth c cells slots Q C H locs ls hP hS hL)
theorem wp_if_ne {x : Int32} {off : Int} {tgt : Nat} (hd : decode M.2.1 pc = .ok (.ifCond .ne off, 3)) (ht : (pc : Int) + off = (tgt : Int)) (kt : ¬ x = 0 → Wp M d Post tgt lv st hi hl) (kf : x = 0 → Wp M d Post (pc + 3) lv st hi hl) : Wp M d Post pc lv (.int x :: st) hi hl := fun Ω p l e R s m args below meth c cells slots Q C H locs ls hP hS hL => lv_if_ne C.1 C.2.1 hd ht (fun h => kt h Ω p l e R s m args below meth c cells slots Q C H locs ls hP hS hL) (fun h => kf h Ω p l e R s m args below meth c cells slots Q C H locs ls hP hS hL)
theorem wp_icmp_ne {x y : Int32} {off : Int} {tgt : Nat} (hd : decode M.2.1 pc = .ok (.if_icmp .ne off, 3)) (ht : (pc : Int) + off = (tgt : Int)) (kt : ¬ x = y → Wp M d Post tgt lv st hi hl) (kf : x = y → Wp M d Post (pc + 3) lv st hi hl) : Wp M d Post pc lv (.int y :: .int x :: st) hi hl := fun Ω p l e R s m args below meth c cells slots Q C H locs ls hP hS hL => lv_icmp_ne C.1 C.2.1 hd ht (fun h => kt h Ω p l e R s m args below meth c cells slots Q C H locs ls hP hS hL) (fun h => kf h Ω p l e R s m args below meth c cells slots Q C H locs ls hP hS hL)
theorem wp_if_lt {x : Int32} {off : Int} {tgt : Nat} (hd : decode M.2.1 pc = .ok (.ifCond .lt off, 3)) (ht : (pc : Int) + off = (tgt : Int)) (kt : x < 0 → Wp M d Post tgt lv st hi hl) (kf : ¬ x < 0 → Wp M d Post (pc + 3) lv st hi hl) : Wp M d Post pc lv (.int x :: st) hi hl := fun Ω p l e R s m args below meth c cells slots Q C H locs ls hP hS hL => lv_if_lt C.1 C.2.1 hd ht (fun h => kt h Ω p l e R s m args below meth c cells slots Q C H locs ls hP hS hL) (fun h => kf h Ω p l e R s m args below meth c cells slots Q C H locs ls hP hS hL)
theorem wp_icmp_lt {x y : Int32} {off : Int} {tgt : Nat} (hd : decode M.2.1 pc = .ok (.if_icmp .lt off, 3)) (ht : (pc : Int) + off = (tgt : Int)) (kt : x < y → Wp M d Post tgt lv st hi hl) (kf : ¬ x < y → Wp M d Post (pc + 3) lv st hi hl) : Wp M d Post pc lv (.int y :: .int x :: st) hi hl := fun Ω p l e R s m args below meth c cells slots Q C H locs ls hP hS hL => lv_icmp_lt C.1 C.2.1 hd ht (fun h => kt h Ω p l e R s m args below meth c cells slots Q C H locs ls hP hS hL) (fun h => kf h Ω p l e R s m args below meth c cells slots Q C H locs ls hP hS hL)
theorem wp_if_ge {x : Int32} {off : Int} {tgt : Nat} (hd : decode M.2.1 pc = .ok (.ifCond .ge off, 3)) (ht : (pc : Int) + off = (tgt : Int)) (kt : 0 ≤ x → Wp M d Post tgt lv st hi hl) (kf : ¬ 0 ≤ x → Wp M d Post (pc + 3) lv st hi hl) : Wp M d Post pc lv (.int x :: st) hi hl := fun Ω p l e R s m args below meth c cells slots Q C H locs ls hP hS hL => lv_if_ge C.1 C.2.1 hd ht (fun h => kt h Ω p l e R s m args below meth c cells slots Q C H locs ls hP hS hL) (fun h => kf h Ω p l e R s m args below meth c cells slots Q C H locs ls hP hS hL)
theorem wp_icmp_ge {x y : Int32} {off : Int} {tgt : Nat} (hd : decode M.2.1 pc = .ok (.if_icmp .ge off, 3)) (ht : (pc : Int) + off = (tgt : Int)) (kt : y ≤ x → Wp M d Post tgt lv st hi hl) (kf : ¬ y ≤ x → Wp M d Post (pc + 3) lv st hi hl) : Wp M d Post pc lv (.int y :: .int x :: st) hi hl := fun Ω p l e R s m args below meth c cells slots Q C H locs ls hP hS hL => lv_icmp_ge C.1 C.2.1 hd ht (fun h => kt h Ω p l e R s m args below meth c cells slots Q C H locs ls hP hS hL) (fun h => kf h Ω p l e R s m args below meth c cells slots Q C H locs ls hP hS hL)
theorem wp_if_gt {x : Int32} {off : Int} {tgt : Nat} (hd : decode M.2.1 pc = .ok (.ifCond .gt off, 3)) (ht : (pc : Int) + off = (tgt : Int)) (kt : 0 < x → Wp M d Post tgt lv st hi hl) (kf : ¬ 0 < x → Wp M d Post (pc + 3) lv st hi hl) : Wp M d Post pc lv (.int x :: st) hi hl := fun Ω p l e R s m args below meth c cells slots Q C H locs ls hP hS hL => lv_if_gt C.1 C.2.1 hd ht (fun h => kt h Ω p l e R s m args below meth c cells slots Q C H locs ls hP hS hL) (fun h => kf h Ω p l e R s m args below meth c cells slots Q C H locs ls hP hS hL)
theorem wp_icmp_gt {x y : Int32} {off : Int} {tgt : Nat} (hd : decode M.2.1 pc = .ok (.if_icmp .gt off, 3)) (ht : (pc : Int) + off = (tgt : Int)) (kt : y < x → Wp M d Post tgt lv st hi hl) (kf : ¬ y < x → Wp M d Post (pc + 3) lv st hi hl) : Wp M d Post pc lv (.int y :: .int x :: st) hi hl := fun Ω p l e R s m args below meth c cells slots Q C H locs ls hP hS hL => lv_icmp_gt C.1 C.2.1 hd ht (fun h => kt h Ω p l e R s m args below meth c cells slots Q C H locs ls hP hS hL) (fun h => kf h Ω p l e R s m args below meth c cells slots Q C H locs ls hP hS hL)
theorem wp_if_le {x : Int32} {off : Int} {tgt : Nat} (hd : decode M.2.1 pc = .ok (.ifCond .le off, 3)) (ht : (pc : Int) + off = (tgt : Int)) (kt : x ≤ 0 → Wp M d Post tgt lv st hi hl) (kf : ¬ x ≤ 0 → Wp M d Post (pc + 3) lv st hi hl) : Wp M d Post pc lv (.int x :: st) hi hl := fun Ω p l e R s m args below meth c cells slots Q C H locs ls hP hS hL => lv_if_le C.1 C.2.1 hd ht (fun h => kt h Ω p l e R s m args below meth c cells slots Q C H locs ls hP hS hL) (fun h => kf h Ω p l e R s m args below meth c cells slots Q C H locs ls hP hS hL)
theorem wp_icmp_le {x y : Int32} {off : Int} {tgt : Nat} (hd : decode M.2.1 pc = .ok (.if_icmp .le off, 3)) (ht : (pc : Int) + off = (tgt : Int)) (kt : x ≤ y → Wp M d Post tgt lv st hi hl) (kf : ¬ x ≤ y → Wp M d Post (pc + 3) lv st hi hl) : Wp M d Post pc lv (.int y :: .int x :: st) hi hl := fun Ω p l e R s m args below meth c cells slots Q C H locs ls hP hS hL => lv_icmp_le C.1 C.2.1 hd ht (fun h => kt h Ω p l e R s m args below meth c cells slots Q C H locs ls hP hS hL) (fun h => kf h Ω p l e R s m args below meth c cells slots Q C H locs ls hP hS hL)
theorem wp_switchOut {dflt lo hj : Int} {offs : Array Int} {len : Nat} {x : Int32} {tgt : Nat} (hd : decode M.2.1 pc = .ok (.tableswitch dflt lo hj offs, len)) (h : x.toInt < lo ∨ hj < x.toInt) (ht : (pc : Int) + dflt = (tgt : Int)) (k : Wp M d Post tgt lv st hi hl) : Wp M d Post pc lv (.int x :: st) hi hl := wp_go (fun _ _ _ _ _ _ _ _ _ _ _ _ _ _ _ _ _ hx hb _ _ _ k => lv_tableOut hx hb hd h ht k) k
theorem wp_switchIn {dflt lo hj : Int} {offs : Array Int} {len : Nat} {x : Int32} {off : Int} {tgt : Nat} (hd : decode M.2.1 pc = .ok (.tableswitch dflt lo hj offs, len)) (h1 : ¬ x.toInt < lo) (h2 : ¬ hj < x.toInt) (ho : offs[(x.toInt - lo).toNat]? = some off) (ht : (pc : Int) + off = (tgt : Int)) (k : Wp M d Post tgt lv st hi hl) : Wp M d Post pc lv (.int x :: st) hi hl := wp_go (fun _ _ _ _ _ _ _ _ _ _ _ _ _ _ _ _ _ hx hb _ _ _ k => lv_tableIn hx hb hd h1 h2 ho ht k) k
theorem wp_istore_n {n : Fin 4} {x : Int32} {lv' : LV} (hd : decode M.2.1 pc = .ok (.istore_n n, 1)) (hn : (n : Nat) < M.2.2.1) (hlv : lset lv n (.int x) = lv') (k : Wp M d Post (pc + 1) lv' st hi hl) : Wp M d Post pc lv (.int x :: st) hi hl := fun Ω p l e R s m args below meth c cells slots Q C H locs ls hP hS hL => lv_istore_n C.1 C.2.1 hd rfl (hasL_asc.mp hL) hn rfl (fun ls' hl' => k Ω p l e R s m args below meth c cells slots Q C H locs ls' hP hS (hlv ▸ hasL_store hl'))
theorem wp_istore {n : Nat} {x : Int32} {lv' : LV} (hd : decode M.2.1 pc = .ok (.istore n, 2)) (hn : n < M.2.2.1) (hlv : lset lv n (.int x) = lv') (k : Wp M d Post (pc + 2) lv' st hi hl) : Wp M d Post pc lv (.int x :: st) hi hl := fun Ω p l e R s m args below meth c cells slots Q C H locs ls hP hS hL => lv_istore C.1 C.2.1 hd (hasL_asc.mp hL) hn rfl (fun ls' hl' => k Ω p l e R s m args below meth c cells slots Q C H locs ls' hP hS (hlv ▸ hasL_store hl'))
theorem wp_lstore_n {n : Fin 4} {x : Int64} {lv' : LV} (hd : decode M.2.1 pc = .ok (.lstore_n n, 1)) (hn : (n : Nat) + 1 < M.2.2.1) (hlv : lset2 lv n (.long x) = lv') (k : Wp M d Post (pc + 1) lv' st hi hl) : Wp M d Post pc lv (.long x :: st) hi hl := fun Ω p l e R s m args below meth c cells slots Q C H locs ls hP hS hL => lv_lstore_n C.1 C.2.1 hd rfl (hasL_asc.mp hL) hn rfl (fun ls' hl' => k Ω p l e R s m args below meth c cells slots Q C H locs ls' hP hS (hlv ▸ hasL_store2 hl'))
theorem wp_lstore {n : Nat} {x : Int64} {lv' : LV} (hd : decode M.2.1 pc = .ok (.lstore n, 2)) (hn : n + 1 < M.2.2.1) (hlv : lset2 lv n (.long x) = lv') (k : Wp M d Post (pc + 2) lv' st hi hl) : Wp M d Post pc lv (.long x :: st) hi hl := fun Ω p l e R s m args below meth c cells slots Q C H locs ls hP hS hL => lv_lstore C.1 C.2.1 hd (hasL_asc.mp hL) hn rfl (fun ls' hl' => k Ω p l e R s m args below meth c cells slots Q C H locs ls' hP hS (hlv ▸ hasL_store2 hl'))
theorem wp_iinc {n : Nat} {b : Int} {x v : Int32} {lv' : LV} (hd : decode M.2.1 pc = .ok (.iinc n b, 3)) (hg : lvg lv n = some (.int x)) (hv : x + Int32.ofInt b = v) (hn : n < M.2.2.1) (hlv : lset lv n (.int v) = lv') (k : Wp M d Post (pc + 3) lv' st hi hl) : Wp M d Post pc lv st hi hl := by
  intro Ω p l e R s m args below meth c cells slots Q C H locs ls hP hS hL
  have hm : (n, Value.int x) ∈ asc Ω 0 lv := (asc_mem Ω lv 0 _).mpr ⟨n, .int x, lvg_at hg, by rw [Nat.zero_add]; rfl⟩
  obtain ⟨k0, hk0⟩ := List.getElem?_of_mem hm
  exact lv_iinc C.1 C.2.1 hd (hasL_asc.mp hL) hk0 hv hn rfl (fun ls' hl' => k Ω p l e R s m args below meth c cells slots Q C H locs ls' hP hS (hlv ▸ hasL_store hl'))
/-! the contents: one place anew -/
def setI (hi : HI) (k i : Nat) (v : Int32) : HI := fun k' => if k' = k then upd (hi k) i v else hi k'
def setL (hl : HL) (k i : Nat) (v : Int64) : HL := fun k' => if k' = k then vp_updL (hl k) i v else hl k'
theorem setI_same (hi : HI) (k i : Nat) (v : Int32) : setI hi k i v k = upd (hi k) i v := by simp [setI]
theorem setI_ne (hi : HI) {k k' : Nat} (i : Nat) (v : Int32) (h : k' ≠ k) : setI hi k i v k' = hi k' := by simp [setI, h]
theorem setL_same (hl : HL) (k i : Nat) (v : Int64) : setL hl k i v k = vp_updL (hl k) i v := by simp [setL]
theorem setL_ne (hl : HL) {k k' : Nat} (i : Nat) (v : Int64) (h : k' ≠ k) : setL hl k i v k' = hl k' := by simp [setL, h]
theorem setI_at (hi : HI) (k i : Nat) (v : Int32) : setI hi k i v k i = v := by simp [setI, upd]
theorem setI_at_ne (hi : HI) (k : Nat) {i j : Nat} (v : Int32) (h : j ≠ i) : setI hi k i v k j = hi k j := by simp [setI, upd, h]
theorem setL_at (hl : HL) (k i : Nat) (v : Int64) : setL hl k i v k i = v := by simp [setL, vp_updL]
theorem setL_at_ne (hl : HL) (k : Nat) {i j : Nat} (v : Int64) (h : j ≠ i) : setL hl k i v k j = hl k j := by simp [setL, vp_updL, h]
theorem fvals_get (α : Nat → Nat) (fi : Nat → Int32) (fl : Nat → Int64) : ∀ (fs : List (Option (Option Nat))) (b k : Nat) (t : Option (Option Nat)), fs[k]? = some t → (fvals α fi fl b fs)[k]? = some (fval α fi fl t (b + k))
  | [], b, k, t, h => by simp at h
  | f :: fs, b, 0, t, h => by simp at h; simp [fvals, h]
  | f :: fs, b, k + 1, t, h => by
    have := fvals_get α fi fl fs (b + 1) k t (by simpa using h)
    simpa [fvals, Nat.add_assoc, Nat.add_comm 1 k] using this
theorem fvals_length (α : Nat → Nat) (fi : Nat → Int32) (fl : Nat → Int64) : ∀ (fs : List (Option (Option Nat))) (b : Nat), (fvals α fi fl b fs).length = fs.length
  | [], b => rfl
  | f :: fs, b => by simp [fvals, fvals_length α fi fl fs (b + 1)]
theorem fvals_ext (α : Nat → Nat) {fi fi' : Nat → Int32} {fl fl' : Nat → Int64} (fs : List (Option (Option Nat))) (b k : Nat) (v : Value) (hk : k < fs.length) (h1 : ∀ t, fs[k]? = some t → fval α fi' fl' t (b + k) = v) (h2 : ∀ j, j ≠ b + k → fi' j = fi j ∧ fl' j = fl j) : (fvals α fi fl b fs).set k v = fvals α fi' fl' b fs := by
  apply List.ext_getElem?
  intro j
  by_cases hj : j < fs.length
  · obtain ⟨t, ht⟩ : ∃ t, fs[j]? = some t := ⟨fs[j], List.getElem?_eq_getElem hj⟩
    rw [fvals_get α fi' fl' fs b j t ht]
    by_cases e : j = k
    · subst e
      rw [List.getElem?_set_self (by rw [fvals_length]; exact hj), h1 t ht]
    · rw [List.getElem?_set_ne (fun q => e q.symm), fvals_get α fi fl fs b j t ht]
      have := h2 (b + j) (by omega)
      cases t with
      | none => simp [fval, this.1]
      | some t => cases t <;> simp [fval, this.2]
  · rw [List.getElem?_eq_none (by rw [List.length_set, fvals_length]; omega), List.getElem?_eq_none (by rw [fvals_length]; omega)]
/-- a field's link: by its own class or by the nest -/
def Fld (own : String) (idx ci f : Nat) : Prop := ∃ (C : String) (T : u_T) (N : Nat) (ty0 : Nat → FieldType), classes[ci]? = some (C, T, N) ∧ f < N ∧ (∀ w ∈ u_ws C T N, w ∈ gtbl) ∧ (∀ k, k < N → parseFieldDescriptor (T k).2.2.1 = some (ty0 k)) ∧ (∀ a, a < N → ∀ b, b < N → a ≠ b → (T a).2.1 ≠ (T b).2.1) ∧
  (Cond.fieldLink own idx C (T f).2.1 (T f).2.2.1 ∈ gtbl ∨ ∃ host, Cond.fieldLinkNest own idx C (T f).2.1 (T f).2.2.1 host ∈ nests) ∧ (T f).1 = C
theorem wp_getV {q ci f idx : Nat} {fs : List (Option (Option Nat))} {t : Option (Option Nat)} {v : Value} (hd : decode M.2.1 pc = .ok (.getfield idx, 3)) (hf : Fld M.1.cls idx ci f) (hq : q < 61) (hs : shp q = .inr (ci, fs)) (ht : fs[f]? = some t) (hv : ∀ Ω : Om, fval Ω.1 (hi q) (hl q) t f = trv Ω v) (k : Wp M d Post (pc + 3) lv (v :: st) hi hl) : Wp M d Post pc lv (.ref q :: st) hi hl := by
  intro Ω p l e R s m args below meth c cells slots Q C H locs ls hP hS hL
  obtain ⟨Cn, T, N, ty0, hc, hk, hin, hty, hnm, hlk, hsm⟩ := hf
  have he : (wcells Ω hi hl)[q]? = some (Ω.1 q, .inr (ci, fvals Ω.1 (hi q) (hl q) 0 fs)) := by rw [wcells_at Ω hi hl hq, hs]; rfl
  have hg : (fvals Ω.1 (hi q) (hl q) 0 fs)[f]? = some (trv Ω v) := by rw [fvals_get Ω.1 (hi q) (hl q) fs 0 f t ht, Nat.zero_add, hv Ω]
  have kk := k Ω p l e R s m args below meth c cells slots Q C H locs ls hP hS hL
  rcases hlk with h1 | ⟨host, h1⟩
  · exact va_get (D := Ω.2.1) C.1 C.2.1 C.2.2.2.2.1 hin C.2.2.2.1 C.2.2.2.2.2.2.1.1 hP q he hc f hk (C.2.2.2.2.1 _ h1) (fun x h => by rw [← hsm]; exact h) hg hd kk
  · exact va_getN (D := Ω.2.1) C.1 C.2.1 C.2.2.2.2.1 hin C.2.2.2.1 C.2.2.2.2.2.2.1.1 hP q he hc f hk ((C.2.2.2.2.2.2.1.2.2.2.2 _ h1).use rfl) (fun x h => by rw [← hsm]; exact h) hg hd kk
theorem wp_getI {q ci f idx : Nat} {fs : List (Option (Option Nat))} (hd : decode M.2.1 pc = .ok (.getfield idx, 3)) (hf : Fld M.1.cls idx ci f) (hq : q < 61) (hs : shp q = .inr (ci, fs)) (ht : fs[f]? = some none) (k : Wp M d Post (pc + 3) lv (.int (hi q f) :: st) hi hl) : Wp M d Post pc lv (.ref q :: st) hi hl := wp_getV hd hf hq hs ht (fun _ => rfl) k
theorem wp_getJ {q ci f idx : Nat} {fs : List (Option (Option Nat))} (hd : decode M.2.1 pc = .ok (.getfield idx, 3)) (hf : Fld M.1.cls idx ci f) (hq : q < 61) (hs : shp q = .inr (ci, fs)) (ht : fs[f]? = some (some none)) (k : Wp M d Post (pc + 3) lv (.long (hl q f) :: st) hi hl) : Wp M d Post pc lv (.ref q :: st) hi hl := wp_getV hd hf hq hs ht (fun _ => rfl) k
theorem wp_getR {q ci f idx r : Nat} {fs : List (Option (Option Nat))} (hd : decode M.2.1 pc = .ok (.getfield idx, 3)) (hf : Fld M.1.cls idx ci f) (hq : q < 61) (hs : shp q = .inr (ci, fs)) (ht : fs[f]? = some (some (some r))) (k : Wp M d Post (pc + 3) lv (.ref r :: st) hi hl) : Wp M d Post pc lv (.ref q :: st) hi hl := wp_getV hd hf hq hs ht (fun _ => rfl) k
theorem wp_putV {q ci f idx : Nat} {fs : List (Option (Option Nat))} {v : Value} {ty : FieldType} {hi' : HI} {hl' : HL} (hd : decode M.2.1 pc = .ok (.putfield idx, 3)) (hf : Fld M.1.cls idx ci f) (hq : q < 61) (hs : shp q = .inr (ci, fs)) (hlen : f < fs.length) (hty : ∀ C T N, classes[ci]? = some (C, T, N) → (T f).2.2.2 = false ∧ parseFieldDescriptor (T f).2.2.1 = some ty) (hn : narrow ty v = v) (hfit : fits ty v = true) (htr : ∀ Ω : Om, trv Ω v = v)
    (h1 : ∀ (α : Nat → Nat) t, fs[f]? = some t → fval α (hi' q) (hl' q) t f = v) (h2 : ∀ j, j ≠ f → hi' q j = hi q j ∧ hl' q j = hl q j) (h3 : ∀ j, j ≠ q → hi' j = hi j ∧ hl' j = hl j)
    (k : Wp M d Post (pc + 3) lv st hi' hl') : Wp M d Post pc lv (v :: .ref q :: st) hi hl := by
  intro Ω p l e R s m args below meth c cells slots Q C H locs ls hP hS hL
  obtain ⟨Cn, T, N, ty0, hc, hk, hin, hty0, hnm, hlk, hsm⟩ := hf
  obtain ⟨hfin, hdsc⟩ := hty Cn T N hc
  have he : (wcells Ω hi hl)[q]? = some (Ω.1 q, .inr (ci, fvals Ω.1 (hi q) (hl q) 0 fs)) := by rw [wcells_at Ω hi hl hq, hs]; rfl
  have hlen' : f < (fvals Ω.1 (hi q) (hl q) 0 fs).length := by rw [fvals_length]; exact hlen
  have heq : (wcells Ω hi hl).set q (Ω.1 q, .inr (ci, (fvals Ω.1 (hi q) (hl q) 0 fs).set f v)) = wcells Ω hi' hl' := by
    refine wcells_set Ω hq ?_ h3
    rw [hs, fvals_ext Ω.1 fs 0 f v hlen (fun t ht => by rw [Nat.zero_add]; exact h1 Ω.1 t ht) (fun j hj => h2 j (by omega))]
    rfl
  show W p l e R s m args below meth c H locs cells slots Q (F0 m pc ls (trv Ω v :: .ref (Ω.1 q) :: trs Ω st))
  rw [htr Ω]
  have hD := wD C.2.2.2.2.2.2.1.2.1 hi hl
  rcases hlk with g1 | ⟨host, g1⟩
  · exact va_put (D := Ω.2.1) C.1 C.2.1 C.2.2.2.2.1 hin ty0 hty0 hnm C.2.2.2.1 C.2.2.2.2.2.2.1.1 hP hD hS q he hc f hk (C.2.2.2.2.1 _ g1) (fun x h => by rw [← hsm]; exact h) hfin hdsc hn hfit hlen' hd (fun H1 locs1 hP1 _ hS1 => k Ω p l e R s m args below meth c cells slots Q C H1 locs1 ls (by rw [← heq]; exact hP1) hS1 hL)
  · exact va_putN (D := Ω.2.1) C.1 C.2.1 C.2.2.2.2.1 hin ty0 hty0 hnm C.2.2.2.1 C.2.2.2.2.2.2.1.1 hP hD hS q he hc f hk ((C.2.2.2.2.2.2.1.2.2.2.2 _ g1).use rfl) (fun x h => by rw [← hsm]; exact h) hfin hdsc hn hfit hlen' hd (fun H1 locs1 hP1 _ hS1 => k Ω p l e R s m args below meth c cells slots Q C H1 locs1 ls (by rw [← heq]; exact hP1) hS1 hL)
/-- the field f of the class ci is an int (a long) that may be written -/
def putOk (ci f : Nat) (ty : FieldType) : Prop := ∀ C T N, classes[ci]? = some (C, T, N) → (T f).2.2.2 = false ∧ parseFieldDescriptor (T f).2.2.1 = some ty
theorem putOk_of {ci f : Nat} {ty : FieldType} {C : String} {T : u_T} {N : Nat} (hc : classes[ci]? = some (C, T, N)) (h1 : (T f).2.2.2 = false) (h2 : parseFieldDescriptor (T f).2.2.1 = some ty) : putOk ci f ty := by
  intro C' T' N' h
  rw [hc] at h
  cases h
  exact ⟨h1, h2⟩
theorem wp_putI {q ci f idx : Nat} {fs : List (Option (Option Nat))} {v : Int32} (hd : decode M.2.1 pc = .ok (.putfield idx, 3)) (hf : Fld M.1.cls idx ci f) (hw : putOk ci f .int) (hq : q < 61) (hs : shp q = .inr (ci, fs)) (ht : fs[f]? = some none) (k : Wp M d Post (pc + 3) lv st (setI hi q f v) hl) : Wp M d Post pc lv (.int v :: .ref q :: st) hi hl :=
  wp_putV hd hf hq hs (List.getElem?_eq_some_iff.mp ht).1 hw rfl rfl (fun _ => rfl) (fun α t h => by rw [ht] at h; cases h; simp [fval, setI_at]) (fun j hj => ⟨setI_at_ne hi q v hj, rfl⟩) (fun j hj => ⟨setI_ne hi f v hj, rfl⟩) k
theorem wp_putJ {q ci f idx : Nat} {fs : List (Option (Option Nat))} {v : Int64} (hd : decode M.2.1 pc = .ok (.putfield idx, 3)) (hf : Fld M.1.cls idx ci f) (hw : putOk ci f .long) (hq : q < 61) (hs : shp q = .inr (ci, fs)) (ht : fs[f]? = some (some none)) (k : Wp M d Post (pc + 3) lv st hi (setL hl q f v)) : Wp M d Post pc lv (.long v :: .ref q :: st) hi hl :=
  wp_putV hd hf hq hs (List.getElem?_eq_some_iff.mp ht).1 hw rfl rfl (fun _ => rfl) (fun α t h => by rw [ht] at h; cases h; simp [fval, setL_at]) (fun j hj => ⟨rfl, setL_at_ne hl q v hj⟩) (fun j hj => ⟨rfl, setL_ne hl f v hj⟩) k
/-! arrays -/
theorem in_n {j n : Nat} {ix : Int32} (hix : ix = nI j) (hj : j < n) (hn : n ≤ 384) : vp_in ix n ∧ ix.toNatClampNeg = j := by
  subst hix
  exact ⟨vp_in_nI hj (by omega), nI_clamp (by omega)⟩
theorem wp_iald {q n j : Nat} {ix : Int32} (hd : decode M.2.1 pc = .ok (.iaload, 1)) (hq : q < 61) (hs : shp q = .inl (0, n)) (hn : n ≤ 384) (hix : ix = nI j) (hj : j < n) (k : Wp M d Post (pc + 1) lv (.int (hi q j) :: st) hi hl) : Wp M d Post pc lv (.int ix :: .ref q :: st) hi hl := by
  intro Ω p l e R s m args below meth c cells slots Q C H locs ls hP hS hL
  obtain ⟨h1, h2⟩ := in_n hix hj hn
  have he : (wcells Ω hi hl)[q]? = some (Ω.1 q, .inl (Ω.2.2 0, n, .inl (hi q))) := by rw [wcells_at Ω hi hl hq, hs]; rfl
  refine va_iald C.1 C.2.1 C.2.2.2.2.2.2.1.1 hP q 0 he rfl h1 hd ?_
  rw [h2]
  exact k Ω p l e R s m args below meth c cells slots Q C H locs ls hP hS hL
theorem wp_bald {q n j : Nat} {ix : Int32} (hd : decode M.2.1 pc = .ok (.baload, 1)) (hq : q < 61) (hs : shp q = .inl (1, n)) (hn : n ≤ 384) (hix : ix = nI j) (hj : j < n) (k : Wp M d Post (pc + 1) lv (.int (hi q j) :: st) hi hl) : Wp M d Post pc lv (.int ix :: .ref q :: st) hi hl := by
  intro Ω p l e R s m args below meth c cells slots Q C H locs ls hP hS hL
  obtain ⟨h1, h2⟩ := in_n hix hj hn
  have he : (wcells Ω hi hl)[q]? = some (Ω.1 q, .inl (Ω.2.2 1, n, .inl (hi q))) := by rw [wcells_at Ω hi hl hq, hs]; rfl
  refine va_bald C.1 C.2.1 C.2.2.2.2.2.2.1.1 hP q 1 he rfl h1 hd ?_
  rw [h2]
  exact k Ω p l e R s m args below meth c cells slots Q C H locs ls hP hS hL
theorem wp_zald {q n j : Nat} {ix : Int32} (hd : decode M.2.1 pc = .ok (.baload, 1)) (hq : q < 61) (hs : shp q = .inl (2, n)) (hn : n ≤ 384) (hix : ix = nI j) (hj : j < n) (k : Wp M d Post (pc + 1) lv (.int (hi q j) :: st) hi hl) : Wp M d Post pc lv (.int ix :: .ref q :: st) hi hl := by
  intro Ω p l e R s m args below meth c cells slots Q C H locs ls hP hS hL
  obtain ⟨h1, h2⟩ := in_n hix hj hn
  have he : (wcells Ω hi hl)[q]? = some (Ω.1 q, .inl (Ω.2.2 2, n, .inl (hi q))) := by rw [wcells_at Ω hi hl hq, hs]; rfl
  refine va_zald C.1 C.2.1 C.2.2.2.2.2.2.1.1 hP q 2 he rfl h1 hd ?_
  rw [h2]
  exact k Ω p l e R s m args below meth c cells slots Q C H locs ls hP hS hL
theorem wp_iast {q n j : Nat} {ix x : Int32} (hd : decode M.2.1 pc = .ok (.iastore, 1)) (hq : q < 61) (hs : shp q = .inl (0, n)) (hn : n ≤ 384) (hix : ix = nI j) (hj : j < n) (k : Wp M d Post (pc + 1) lv st (setI hi q j x) hl) : Wp M d Post pc lv (.int x :: .int ix :: .ref q :: st) hi hl := by
  intro Ω p l e R s m args below meth c cells slots Q C H locs ls hP hS hL
  obtain ⟨h1, h2⟩ := in_n hix hj hn
  have he : (wcells Ω hi hl)[q]? = some (Ω.1 q, .inl (Ω.2.2 0, n, .inl (hi q))) := by rw [wcells_at Ω hi hl hq, hs]; rfl
  refine va_iast C.1 C.2.1 C.2.2.2.2.2.2.1.1 hP (wD C.2.2.2.2.2.2.1.2.1 hi hl) hS q 0 he rfl h1 hd (fun H1 locs1 hP1 _ hS1 => ?_)
  rw [h2, wcells_set Ω (hi' := setI hi q j x) (hl' := hl) hq (by rw [hs, setI_same]; rfl) (fun i hij => ⟨setI_ne hi j _ hij, rfl⟩)] at hP1
  exact k Ω p l e R s m args below meth c cells slots Q C H1 locs1 ls hP1 hS1 hL
theorem wp_bast {q n j : Nat} {ix x : Int32} (hd : decode M.2.1 pc = .ok (.bastore, 1)) (hq : q < 61) (hs : shp q = .inl (1, n)) (hn : n ≤ 384) (hix : ix = nI j) (hj : j < n) (k : Wp M d Post (pc + 1) lv st (setI hi q j (vp_nar .byte x)) hl) : Wp M d Post pc lv (.int x :: .int ix :: .ref q :: st) hi hl := by
  intro Ω p l e R s m args below meth c cells slots Q C H locs ls hP hS hL
  obtain ⟨h1, h2⟩ := in_n hix hj hn
  have he : (wcells Ω hi hl)[q]? = some (Ω.1 q, .inl (Ω.2.2 1, n, .inl (hi q))) := by rw [wcells_at Ω hi hl hq, hs]; rfl
  refine va_bast C.1 C.2.1 C.2.2.2.2.2.2.1.1 hP (wD C.2.2.2.2.2.2.1.2.1 hi hl) hS q 1 he rfl h1 hd (fun H1 locs1 hP1 _ hS1 => ?_)
  rw [h2, wcells_set Ω (hi' := setI hi q j (vp_nar .byte x)) (hl' := hl) hq (by rw [hs, setI_same]; rfl) (fun i hij => ⟨setI_ne hi j _ hij, rfl⟩)] at hP1
  exact k Ω p l e R s m args below meth c cells slots Q C H1 locs1 ls hP1 hS1 hL
theorem wp_zast {q n j : Nat} {ix x : Int32} (hd : decode M.2.1 pc = .ok (.bastore, 1)) (hq : q < 61) (hs : shp q = .inl (2, n)) (hn : n ≤ 384) (hix : ix = nI j) (hj : j < n) (k : Wp M d Post (pc + 1) lv st (setI hi q j (vp_nar .boolean x)) hl) : Wp M d Post pc lv (.int x :: .int ix :: .ref q :: st) hi hl := by
  intro Ω p l e R s m args below meth c cells slots Q C H locs ls hP hS hL
  obtain ⟨h1, h2⟩ := in_n hix hj hn
  have he : (wcells Ω hi hl)[q]? = some (Ω.1 q, .inl (Ω.2.2 2, n, .inl (hi q))) := by rw [wcells_at Ω hi hl hq, hs]; rfl
  refine va_zast C.1 C.2.1 C.2.2.2.2.2.2.1.1 hP (wD C.2.2.2.2.2.2.1.2.1 hi hl) hS q 2 he rfl h1 hd (fun H1 locs1 hP1 _ hS1 => ?_)
  rw [h2, wcells_set Ω (hi' := setI hi q j (vp_nar .boolean x)) (hl' := hl) hq (by rw [hs, setI_same]; rfl) (fun i hij => ⟨setI_ne hi j _ hij, rfl⟩)] at hP1
  exact k Ω p l e R s m args below meth c cells slots Q C H1 locs1 ls hP1 hS1 hL
theorem wp_lald {q n j : Nat} {ix : Int32} (hd : decode M.2.1 pc = .ok (.laload, 1)) (hq : q < 61) (hs : shp q = .inl (3, n)) (hn : n ≤ 384) (hix : ix = nI j) (hj : j < n) (k : Wp M d Post (pc + 1) lv (.long (hl q j) :: st) hi hl) : Wp M d Post pc lv (.int ix :: .ref q :: st) hi hl := by
  intro Ω p l e R s m args below meth c cells slots Q C H locs ls hP hS hL
  obtain ⟨h1, h2⟩ := in_n hix hj hn
  have he : (wcells Ω hi hl)[q]? = some (Ω.1 q, .inl (Ω.2.2 3, n, .inr (.inl (hl q)))) := by rw [wcells_at Ω hi hl hq, hs]; rfl
  refine va_lald C.1 C.2.1 C.2.2.2.2.2.2.1.1 hP q 3 he rfl h1 hd ?_
  rw [h2]
  exact k Ω p l e R s m args below meth c cells slots Q C H locs ls hP hS hL
theorem wp_last {q n j : Nat} {ix : Int32} {x : Int64} (hd : decode M.2.1 pc = .ok (.lastore, 1)) (hq : q < 61) (hs : shp q = .inl (3, n)) (hn : n ≤ 384) (hix : ix = nI j) (hj : j < n) (k : Wp M d Post (pc + 1) lv st hi (setL hl q j x)) : Wp M d Post pc lv (.long x :: .int ix :: .ref q :: st) hi hl := by
  intro Ω p l e R s m args below meth c cells slots Q C H locs ls hP hS hL
  obtain ⟨h1, h2⟩ := in_n hix hj hn
  have he : (wcells Ω hi hl)[q]? = some (Ω.1 q, .inl (Ω.2.2 3, n, .inr (.inl (hl q)))) := by rw [wcells_at Ω hi hl hq, hs]; rfl
  refine va_last C.1 C.2.1 C.2.2.2.2.2.2.1.1 hP (wD C.2.2.2.2.2.2.1.2.1 hi hl) hS q 3 he rfl h1 hd (fun H1 locs1 hP1 _ hS1 => ?_)
  rw [h2, wcells_set Ω (hi' := hi) (hl' := setL hl q j x) hq (by rw [hs, setL_same]; rfl) (fun i hij => ⟨rfl, setL_ne hl j _ hij⟩)] at hP1
  exact k Ω p l e R s m args below meth c cells slots Q C H1 locs1 ls hP1 hS1 hL
theorem wp_aald {j r : Nat} {ix : Int32} (hd : decode M.2.1 pc = .ok (.aaload, 1)) (hix : ix = nI j) (hj : j < 2) (hr : slotRef j = some r) (k : Wp M d Post (pc + 1) lv (.ref r :: st) hi hl) : Wp M d Post pc lv (.int ix :: .ref 39 :: st) hi hl := by
  intro Ω p l e R s m args below meth c cells slots Q C H locs ls hP hS hL
  obtain ⟨h1, h2⟩ := in_n hix hj (by omega)
  have he : (wcells Ω hi hl)[39]? = some (Ω.1 39, .inl (Ω.2.2 4, 2, .inr (.inr (.inr (.inr (fun i => (slotRef i).map Ω.1)))))) := by rw [wcells_at Ω hi hl (by omega)]; rfl
  refine va_aldq C.1 C.2.1 C.2.2.2.2.2.2.1.1 hP 39 4 he rfl h1 hd ?_
  rw [h2, hr]
  exact k Ω p l e R s m args below meth c cells slots Q C H locs ls hP hS hL
/-- the static table of figures -/
theorem wp_gets {idx : Nat} (hd : decode M.2.1 pc = .ok (.getstatic idx, 3)) (hw : Cond.fieldLink M.1.cls idx "BlownByAll$SeatPlan" "FIGURE_OF" "[I" ∈ gtbl) (k : Wp M d Post (pc + 3) lv (.ref 100 :: st) hi hl) : Wp M d Post pc lv st hi hl := fun Ω p l e R s m args below meth c cells slots Q C H locs ls hP hS hL =>
  va_gets C.1 C.2.1 C.2.2.2.2.2.2.1.2.2.1 hS C.2.2.2.1 (C.2.2.2.2.1 _ hw) (fun _ h => h) hd (k Ω p l e R s m args below meth c cells slots Q C H locs ls hP hS hL)
theorem wp_tald {j : Nat} {ix v : Int32} (hd : decode M.2.1 pc = .ok (.iaload, 1)) (hix : ix = nI j) (hj : j < 6) (hv : figs j = .int v) (k : Wp M d Post (pc + 1) lv (.int v :: st) hi hl) : Wp M d Post pc lv (.int ix :: .ref 100 :: st) hi hl := fun Ω p l e R s m args below meth c cells slots Q C H locs ls hP hS hL => by
  obtain ⟨h1, h2⟩ := in_n (n := 6) hix hj (by omega)
  exact va_ti C.1 C.2.1 C.2.2.2.2.2.2.1.2.2.2.1 hS h1 (by rw [h2]; exact hv) hd (k Ω p l e R s m args below meth c cells slots Q C H locs ls hP hS hL)
/-! returns -/
theorem wp_iret {v : Int32} (hd : decode M.2.1 pc = .ok (.ireturn, 1)) (ho : bOkI M.2.2.2 v) (hp : Post (some (.int v)) hi hl) : Wp M d Post pc lv [.int v] hi hl := fun Ω p l e R s m args below meth c cells slots Q C H locs ls hP hS hL => (C.2.2.2.2.2.2.2 pc ls hi hl H locs hP hS).1 v hd ho hp
theorem wp_lret {v : Int64} (hd : decode M.2.1 pc = .ok (.lreturn, 1)) (ho : M.2.2.2 = some .long) (hp : Post (some (.long v)) hi hl) : Wp M d Post pc lv [.long v] hi hl := fun Ω p l e R s m args below meth c cells slots Q C H locs ls hP hS hL => (C.2.2.2.2.2.2.2 pc ls hi hl H locs hP hS).2.1 v hd ho hp
theorem wp_vret (hd : decode M.2.1 pc = .ok (.return_, 1)) (ho : M.2.2.2 = none) (hp : Post none hi hl) : Wp M d Post pc lv [] hi hl := fun Ω p l e R s m args below meth c cells slots Q C H locs ls hP hS hL => (C.2.2.2.2.2.2.2 pc ls hi hl H locs hP hS).2.2 hd ho hp
end WP2
end
section
/-! CONTRACTS over the judgement, and calls by them -/
def rmD (d : Nat) : Room := { frames := d, cells := 0, slots := 0, locals := 64 * d }
def wsM (M : MD) : List Cond := .code M.1 M.2.1 M.2.2.1 M.2.2.2 :: gtbl
def PcM (Ω : Om) (as : List Value) (hi : HI) (hl : HL) : Array Value → State → Prop := fun v U => v = (trs Ω as).toArray ∧ va_P Ω.2.1 classes (wcells Ω hi hl) U.heap ∧ bK Ω U
def QcM (Ω : Om) (Post : Option Value → HI → HL → Prop) : Array Value → State → Outcome → State → Prop := fun _ st o t => (∃ (v : Option Value) (hi' : HI) (hl' : HL), o = .returned (v.map (trv Ω)) ∧ Post v hi' hl' ∧ va_P Ω.2.1 classes (wcells Ω hi' hl') t.heap) ∧ va_F (inA Ω) st t
/-- M, called with these arguments and contents, and with room for d calls one in another, returns with Post -/
def Ct (M : MD) (d : Nat) (as : List Value) (hi : HI) (hl : HL) (Post : Option Value → HI → HL → Prop) : Prop := ∀ (l : Launch) (Ω : Om), Met l M.1 (wsM M) (rmD d) (PcM Ω as hi hl) (QcM Ω Post) 0 0 (inA Ω)
theorem met_ofWF {l : Launch} {y : MethodName} {ws ws' : List Cond} {rm : Room} {Pc : Array Value → State → Prop} {Qc : Array Value → State → Outcome → State → Prop} {mc ms : Nat} {free : Addr → Prop} {cc : ByteArray} {maxL : Nat} {ret : Option FieldType}
    (hy : plainFor y = true) (hw : ws = Cond.code y cc maxL ret :: ws')
    (body : ∀ p e s m args below meth c s₁, BodyLoose p l y (headSpec ws rm) cc maxL ret e s m args below meth c s₁ → c.maxLocals = maxL → Pc args s →
      W p l e (headSpec ws rm).room s m args below meth c s.heap [] 0 0 (MQ below Qc args s mc ms free) (entryFrame m args maxL)) : Met l y ws rm Pc Qc mc ms free := by
  refine MetFree.of_bodySF (code := cc) (maxLocals := maxL) (ret := ret) hy ?_ ?_
  · intro args s m h hn
    obtain ⟨meth, c, h1, h2, h3, h4, h5, h6, -, -⟩ := Cond.code_spec hn (atoms_spec (ws := ws) h _ (by rw [hw]; exact List.mem_cons_self))
    exact ⟨meth, c, h1, h2, h3, h4, h5, h6⟩
  · intro p e s m args below meth c s₁ B hml hP _
    have hh0 : s₁.heap = s.heap := by rw [B.state]; rfl
    obtain ⟨t, a1, o, b1, b2, b3⟩ := body p e s m args below meth c s₁ B hml hP s₁ hh0 (Stand.of_body B)
    exact ⟨t, o, a1, b1, b2, ⟨b3.1, b3.2⟩⟩
def lv0a : List Value → LV
  | [] => []
  | .long x :: vs => some (.long x) :: none :: lv0a vs
  | .double x :: vs => some (.double x) :: none :: lv0a vs
  | v :: vs => some v :: lv0a vs
def lv0 (n : Nat) (as : List Value) : LV := lv0a as ++ List.replicate (n - (lv0a as).length) none
theorem lv0a_cat (v : Value) (vs : List Value) : lv0a (v :: vs) = if v.category = 2 then some v :: none :: lv0a vs else some v :: lv0a vs := by cases v <;> rfl
theorem lv0a_mem (Ω : Om) : ∀ (as : List Value) (b i : Nat) (v : Value), (lv0a as)[i]? = some (some v) → (b + i, trv Ω v) ∈ lv_args b (trs Ω as)
  | [], b, i, v, h => by simp [lv0a] at h
  | w :: as, b, i, v, h => by
    rw [lv0a_cat] at h
    show (b + i, trv Ω v) ∈ (b, trv Ω w) :: lv_args (if (trv Ω w).category = 2 then b + 2 else b + 1) (trs Ω as)
    rw [trv_cat]
    by_cases hc : w.category = 2
    · rw [if_pos hc] at h ⊢
      match i, h with
      | 0, h => simp at h; subst h; exact List.mem_cons_self
      | 1, h => simp at h
      | i + 2, h =>
        have := lv0a_mem Ω as (b + 2) i v (by simpa using h)
        rw [show b + (i + 2) = b + 2 + i by omega]
        exact List.mem_cons_of_mem _ this
    · rw [if_neg hc] at h ⊢
      match i, h with
      | 0, h => simp at h; subst h; exact List.mem_cons_self
      | i + 1, h =>
        have := lv0a_mem Ω as (b + 1) i v (by simpa using h)
        rw [show b + (i + 1) = b + 1 + i by omega]
        exact List.mem_cons_of_mem _ this
theorem lv0_mem (Ω : Om) {n : Nat} {as : List Value} {i : Nat} {v : Value} (h : (lv0 n as)[i]? = some (some v)) : (i, trv Ω v) ∈ lv_args 0 (trs Ω as) := by
  have h1 : (lv0a as)[i]? = some (some v) := by
    unfold lv0 at h
    by_cases hi : i < (lv0a as).length
    · rwa [List.getElem?_append_left hi] at h
    · rw [List.getElem?_append_right (by omega)] at h
      have := List.eq_of_mem_replicate (List.mem_of_getElem? h)
      cases this
  have := lv0a_mem Ω as 0 i v h1
  rwa [Nat.zero_add] at this
theorem nar_b {v : Int32} (h : v = 0 ∨ v = 1) : narrow .boolean (.int v) = .int v := by rcases h with rfl | rfl <;> rfl
theorem slot_len (Ω : Om) (as : List Value) : (lg_sl (trs Ω as)).length = (lg_sl as).length := by
  induction as with
  | nil => rfl
  | cons v vs ih =>
    simp only [lg_sl, trs, List.map_cons, List.flatMap_cons, List.length_append, trv_cat] at ih ⊢
    rw [ih]
    congr 1
    by_cases hc : v.category = 2 <;> simp [hc]
/-- a contract out of the walk of the body -/
theorem ct_intro {M : MD} {d : Nat} {as : List Value} {hi : HI} {hl : HL} {Post : Option Value → HI → HL → Prop} {lv : LV} (hy : plainFor M.1 = true) (hlen : (lg_sl as).length ≤ M.2.2.1) (hlv : lv0 M.2.2.1 as = lv) (h : Wp M d Post 0 lv [] hi hl) : Ct M d as hi hl Post := by
  intro l Ω
  subst hlv
  refine met_ofWF (cc := M.2.1) (maxL := M.2.2.1) (ret := M.2.2.2) hy rfl ?_
  intro p e s m args below meth c s₁ B hml hv
  obtain ⟨rfl, hP, hK⟩ := hv
  have hts : ∀ w ∈ wsM M, w.before (trs Ω as).toArray s = true := atoms_spec (ws := wsM M) B.pre
  have hlocks := B.notSynchronized
  have hx := B.exec
  have hb := B.bytes
  have hr := B.returns
  rw [lg_entry_eq]
  have hl0 := lv_entry (trs Ω as) (n := M.2.2.1) (by rw [slot_len]; exact hlen)
  refine h Ω p l e _ s m _ below meth c 0 0 _ ⟨hx, hb, hml, findClass_of_methodNamed B.named, fun w hw => hts w (List.mem_cons_of_mem _ hw), ⟨Nat.le_refl _, Nat.le_refl _, Nat.zero_le _, Nat.zero_le _⟩, hK, ?_⟩ s.heap [] _ hP va_S.rf ⟨hl0.1, hl0.2.1, fun i v hi => hl0.2.2 (i, trv Ω v) (lv0_mem Ω hi)⟩
  intro pc ls hi' hl' H locs hP' hS'
  refine ⟨fun v hd ho hp => ?_, fun v hd ho hp => ?_, fun hd ho hp => ?_⟩
  · rcases ho with ho | ⟨ho, hv⟩
    · exact W.iret (v := v) hx hb (by rw [hr]; exact ho) (fun t ht hW => ⟨⟨some (.int v), hi', hl', rfl, hp, by rw [ht]; exact hP'⟩, hS'.F ht⟩) hS'.2.2 hd
    · exact W.zret (v := v) hx hb (by rw [hr]; exact ho) (nar_b hv) (fun t ht hW => ⟨⟨some (.int v), hi', hl', rfl, hp, by rw [ht]; exact hP'⟩, hS'.F ht⟩) hS'.2.2 hd
  · exact W.lret (v := v) hx hb (by rw [hr]; exact ho) (fun t ht hW => ⟨⟨some (.long v), hi', hl', rfl, hp, by rw [ht]; exact hP'⟩, hS'.F ht⟩) hS'.2.2 hd
  · exact W.vret hx hb (by rw [hr]; exact ho) (fun t ht hW => ⟨⟨none, hi', hl', rfl, hp, by rw [ht]; exact hP'⟩, hS'.F ht⟩) hS'.2.2 hd
theorem ct_conseq {M : MD} {d : Nat} {as : List Value} {hi : HI} {hl : HL} {Post Post' : Option Value → HI → HL → Prop} (h : Ct M d as hi hl Post) (hp : ∀ v hi hl, Post v hi hl → Post' v hi hl) : Ct M d as hi hl Post' := fun l Ω =>
  MetFree.mono (h l Ω) (fun _ _ h => h) (fun _ _ _ _ _ h => h) (fun _ _ _ _ _ hq => ⟨⟨hq.1.1.imp fun v ⟨hi', hl', h1, h2, h3⟩ => ⟨hi', hl', h1, hp _ _ _ h2, h3⟩, hq.1.2⟩, hq.2⟩)
theorem tbl_in {ws : List Cond} (h : ∀ w ∈ ws, w ∈ gtbl) : GoodIn gtbl ws := fun w hw => ⟨h w hw, good_of_word (List.mem_filter.mp (h w hw)).2⟩
def CallV (own : String) (idx : Nat) (My : MD) (n : Nat) : Prop := Cond.methodLink own idx My.1 ∈ gtbl ∧ Cond.instanceMethod My.1 ∈ gtbl ∧ Cond.selects My.1.cls My.1 My.1 ∈ gtbl ∧ Cond.initialized My.1.cls ∈ gtbl ∧ Cond.code My.1 My.2.1 My.2.2.1 My.2.2.2 ∈ gtbl ∧
  (My.1.cls ≠ "java/lang/invoke/MethodHandle" ∧ My.1.cls ≠ "java/lang/invoke/VarHandle" ∧ (parseMethodDescriptor My.1.desc).map (fun d => d.parameters.length) = some n) ∧ My.2.2.1 ≤ 45
def CallS (own : String) (idx : Nat) (My : MD) (n : Nat) : Prop := Cond.methodLink own idx My.1 ∈ gtbl ∧ Cond.static My.1 ∈ gtbl ∧ Cond.initialized My.1.cls ∈ gtbl ∧ Cond.code My.1 My.2.1 My.2.2.1 My.2.2.2 ∈ gtbl ∧
  (My.1.cls ≠ "java/lang/invoke/MethodHandle" ∧ My.1.cls ≠ "java/lang/invoke/VarHandle" ∧ (parseMethodDescriptor My.1.desc).map (fun d => d.parameters.length) = some n) ∧ My.2.2.1 ≤ 45
theorem nest_warm {s U : State} (hW : s.WarmedH U.vm) (h : ∀ w ∈ nests, va_Nw w s) : ∀ w ∈ nests, va_Nw w U := by
  intro w hw
  have h1 := h w hw
  have h2 := (List.mem_filter.mp hw).2
  cases w <;> first | exact va_Nw.warmF hW h1 | (simp [isNestW] at h2; done)
theorem nest_same {s U : State} (hv : s.vm = U.vm) (h : ∀ w ∈ nests, va_Nw w s) : ∀ w ∈ nests, va_Nw w U := by
  intro w hw
  have h1 := h w hw
  have h2 := (List.mem_filter.mp hw).2
  cases w <;> first | exact va_Nw.same rfl hv h1 | (simp [isNestW] at h2; done)
theorem bK_at {Ω : Om} {s U : State} {H : Heap} {locs : List Loc} (h : bK Ω s) (hS : va_S (inA Ω) s.heap H locs) (hU : U.heap = H) (hW : s.WarmedH U.vm) : bK Ω U := by
  obtain ⟨h1, h2, h3, h4, h5⟩ := h
  refine ⟨va_K.moved hW.alike h1, h2, ?_, ?_, nest_warm hW h5⟩
  · rw [hU]; exact (h3.kept hS.2.1).moved hW.alike
  · rw [hU]; exact (h4.kept hS.2.1).moved hW.alike
theorem blindM (Ω : Om) (as : List Value) (hi : HI) (hl : HL) : FrameBlind (PcM Ω as hi hl) := by
  intro a U g mk q
  obtain ⟨q0, qP, q1, q2, q3, q4, q5⟩ := q
  exact ⟨q0, qP, va_K.moved (u := U) (U := U.calling g mk a) (Vm.Alike.refl U.vm) q1, q2, va_Z.moved (u := U) (U := U.calling g mk a) (Vm.Alike.refl U.vm) q3, va_T.moved (u := U) (U := U.calling g mk a) (Vm.Alike.refl U.vm) q4, nest_same (s := U) (U := U.calling g mk a) rfl q5⟩
theorem va_callM {Ω : Om} {p : Program} {l : Launch} {e : Env} {R : Room} {s : State} {m : MethodId} {args : Array Value} {below : List Frame} {meth : Method} {c : Code} {H : Heap} {locs : List Loc} {cells slots pc : Nat} {ls : Array Slot} {rest st0 : List Value} {a : Array Value} {Q : State → Prop} {Post : Option Value → HI → HL → Prop}
    (hr : va_Run p l e R s m args below meth c H locs cells slots 0 0 (F0 m pc ls st0) rest (QcM Ω Post a) (inA Ω)) (hS : va_S (inA Ω) s.heap H locs)
    (kk : ∀ (v : Option Value) (hi' : HI) (hl' : HL) (H1 : Heap) (locs1 : List Loc), Post v hi' hl' → va_P Ω.2.1 classes (wcells Ω hi' hl') H1 → va_S (inA Ω) s.heap H1 locs1 → W p l e R s m args below meth c H1 locs1 cells slots Q (F0 m (pc + 3) ls ((v.map (trv Ω)).toList ++ rest))) : W p l e R s m args below meth c H locs cells slots Q (F0 m pc ls st0) := by
  intro T hT X
  obtain ⟨v, st₀, t, T', L, h0, X', hL, e1, e2, ⟨⟨v', hi', hl', hv, hp, hP⟩, hz, hk⟩, st⟩ := hr T hT X
  cases hv
  rw [h0] at hz hk
  obtain ⟨t2, a1, b1⟩ := kk v' hi' hl' T'.heap (locs ++ L) hp (by rw [e1]; exact hP)
    ⟨Nat.le_trans hS.1 (by rw [e1]; exact hz), fun q h1 h2 => by rw [e1, hk q (Nat.lt_of_lt_of_le h1 hS.1) h2]; exact hS.2.1 q h1 h2, fun q hq => by
      rcases List.mem_append.mp hq with h | h
      · exact hS.2.2 q h
      · exact hL q h⟩ T' rfl X'
  exact ⟨t2, st t2 a1, b1⟩
theorem cat_sum (Ω : Om) (st : List Value) : ((trs Ω st).map fun v => v.category).sum = (st.map fun v => v.category).sum := by
  rw [show (trs Ω st).map (fun v => v.category) = st.map (fun v => v.category) from by simp [trs, trv_cat]]
theorem ret_trs (Ω : Om) (v : Option Value) (st : List Value) : (v.map (trv Ω)).toList ++ trs Ω st = trs Ω (v.toList ++ st) := by cases v <;> simp [trs]
theorem wp_callV {M My : MD} {d d' : Nat} {Post Post' : Option Value → HI → HL → Prop} {pc idx n q ci : Nat} {lv : LV} {as st stk : List Value} {hi : HI} {hl : HL} {fs : List (Option (Option Nat))} {T : u_T} {N : Nat}
    (hct : Ct My d' (.ref q :: as) hi hl Post') (hd : decode M.2.1 pc = .ok (.invokevirtual idx, 3)) (hc : CallV M.1.cls idx My n) (hq : q < 61) (hs : shp q = .inr (ci, fs)) (hcl : classes[ci]? = some (My.1.cls, T, N)) (hst : stk = as.reverse ++ (.ref q :: st)) (hn : as.length = n) (hcat : (st.map fun v => v.category).sum ≤ 8) (hdd : d' < d)
    (k : ∀ v hi' hl', Post' v hi' hl' → Wp M d Post (pc + 3) lv (v.toList ++ st) hi' hl') : Wp M d Post pc lv stk hi hl := by
  intro Ω p l e R s m args below meth c cells slots Q C H locs ls hP hS hL
  have C0 := C
  obtain ⟨hx, hb, hml, hown, hts, ⟨r1, r2, r3, r4⟩, hK, -⟩ := C
  obtain ⟨k1, k2, k3, k4, k5, k6, k7⟩ := hc
  have he : (wcells Ω hi hl)[q]? = some (Ω.1 q, .inr (ci, fvals Ω.1 (hi q) (hl q) 0 fs)) := by rw [wcells_at Ω hi hl hq, hs]; rfl
  have hG : GoodIn gtbl (wsV M.1.cls idx My.1.cls My.1 (wsM My)) := tbl_in (by
    intro w hw
    simp only [wsV, wsM, List.mem_append, List.mem_cons, List.not_mem_nil, or_false] at hw
    rcases hw with (rfl | rfl | rfl | rfl) | rfl | hw
    · exact k1
    · exact k2
    · exact k3
    · exact k4
    · exact k5
    · exact hw)
  have hrun := va_runV (e := e) (below := below) (meth := meth) (g := F0 m pc ls (trs Ω stk)) (As := trs Ω as) (rest := trs Ω st) (cc := M.2.1) (b := Ω.1 q) ⟨hx, hb, hml, hown, hts⟩ (hct l Ω) (cwV n hts hG rfl rfl rfl ⟨rfl, k6⟩ ⟨by show d' + 1 ≤ R.frames; omega, by show 8 + (My.2.2.1 + 11) + 64 * d' ≤ R.locals; omega⟩)
    (locs := locs) (cells := cells) (slots := slots) (H := H) ⟨blindM Ω _ hi hl, va_recv hK.1 hP hcl he, fun U hU hW => ⟨rfl, by rw [hU]; exact hP, bK_at hK hS hU hW⟩⟩ rfl (by rw [List.length_map]; exact hn) hL.1 (by rw [hst]; show List.map (trv Ω) (as.reverse ++ (.ref q :: st)) = _; simp [trs]; rfl) (lv_room (by rw [cat_sum]; exact hcat)) hd ⟨r3, r4⟩
  refine va_callM hrun hS (fun v hi' hl' H1 locs1 hp hP1 hS1 => ?_)
  rw [ret_trs]
  exact k v hi' hl' hp Ω p l e R s m args below meth c cells slots Q C0 H1 locs1 ls hP1 hS1 hL
theorem wp_callS {M My : MD} {d d' : Nat} {Post Post' : Option Value → HI → HL → Prop} {pc idx n : Nat} {lv : LV} {as st stk : List Value} {hi : HI} {hl : HL}
    (hct : Ct My d' as hi hl Post') (hd : decode M.2.1 pc = .ok (.invokestatic idx, 3)) (hc : CallS M.1.cls idx My n) (hst : stk = as.reverse ++ st) (hn : as.length = n) (hcat : (st.map fun v => v.category).sum ≤ 8) (hdd : d' < d)
    (k : ∀ v hi' hl', Post' v hi' hl' → Wp M d Post (pc + 3) lv (v.toList ++ st) hi' hl') : Wp M d Post pc lv stk hi hl := by
  intro Ω p l e R s m args below meth c cells slots Q C H locs ls hP hS hL
  have C0 := C
  obtain ⟨hx, hb, hml, hown, hts, ⟨r1, r2, r3, r4⟩, hK, -⟩ := C
  obtain ⟨k1, k2, k4, k5, k6, k7⟩ := hc
  have hG : GoodIn gtbl (va_wsS M.1.cls idx My.1 (wsM My)) := tbl_in (by
    intro w hw
    simp only [va_wsS, wsM, List.mem_append, List.mem_cons, List.not_mem_nil, or_false] at hw
    rcases hw with (rfl | rfl | rfl) | rfl | hw
    · exact k1
    · exact k2
    · exact k4
    · exact k5
    · exact hw)
  have hrun := va_runS (e := e) (below := below) (meth := meth) (g := F0 m pc ls (trs Ω stk)) (As := trs Ω as) (rest := trs Ω st) (cc := M.2.1) ⟨hx, hb, hml, hown, hts⟩ (hct l Ω) (va_cwS n hts hG rfl rfl rfl k6 ⟨by show d' + 1 ≤ R.frames; omega, by show 8 + (My.2.2.1 + 11) + 64 * d' ≤ R.locals; omega⟩)
    (locs := locs) (cells := cells) (slots := slots) (H := H) ⟨blindM Ω _ hi hl, fun U hU hW => ⟨rfl, by rw [hU]; exact hP, bK_at hK hS hU hW⟩⟩ rfl (by rw [List.length_map]; exact hn) hL.1 (by rw [hst]; simp [trs]) (lv_room (by rw [cat_sum]; exact hcat)) hd ⟨r3, r4⟩
  refine va_callM hrun hS (fun v hi' hl' H1 locs1 hp hP1 hS1 => ?_)
  rw [ret_trs]
  exact k v hi' hl' hp Ω p l e R s m args below meth c cells slots Q C0 H1 locs1 ls hP1 hS1 hL
end
section
/-! NUMBERS: the machine's ints and longs as whole numbers -/
def zI (z : Int) : Int32 := Int32.ofInt z
def lZ (z : Int) : Int64 := Int64.ofInt z
abbrev inR (z : Int) : Prop := -2147483648 ≤ z ∧ z ≤ 2147483647
abbrev inL (z : Int) : Prop := -9223372036854775808 ≤ z ∧ z ≤ 9223372036854775807
theorem zI_add (a b : Int) : zI a + zI b = zI (a + b) := (Int32.ofInt_add a b).symm
theorem zI_sub (a b : Int) : zI a - zI b = zI (a - b) := (Int32.ofInt_sub a b).symm
theorem zI_mul (a b : Int) : zI a * zI b = zI (a * b) := (Int32.ofInt_mul a b).symm
theorem zI_neg (a : Int) : - zI a = zI (-a) := (Int32.ofInt_neg a).symm
theorem lZ_add (a b : Int) : lZ a + lZ b = lZ (a + b) := (Int64.ofInt_add a b).symm
theorem lZ_sub (a b : Int) : lZ a - lZ b = lZ (a - b) := (Int64.ofInt_sub a b).symm
theorem lZ_mul (a b : Int) : lZ a * lZ b = lZ (a * b) := (Int64.ofInt_mul a b).symm
theorem zI_toInt {z : Int} (h : inR z) : (zI z).toInt = z := Int32.toInt_ofInt_of_le (by omega) (by omega)
theorem lZ_toInt {z : Int} (h : inL z) : (lZ z).toInt = z := Int64.toInt_ofInt_of_le (by omega) (by omega)
theorem zI_of (x : Int32) : zI x.toInt = x := Int32.ofInt_toInt x
theorem lZ_of (x : Int64) : lZ x.toInt = x := Int64.ofInt_toInt x
theorem inR_of (x : Int32) : inR x.toInt := by
  have h1 := x.toInt_lt
  have h2 := x.le_toInt
  omega
theorem inL_of (x : Int64) : inL x.toInt := by
  have h1 := x.toInt_lt
  have h2 := x.le_toInt
  omega
theorem zI_nat (n : Nat) : zI (n : Int) = nI n := Int32.ofInt_eq_ofNat
theorem zI_lt {a b : Int} (ha : inR a) (hb : inR b) : zI a < zI b ↔ a < b := by rw [Int32.lt_iff_toInt_lt, zI_toInt ha, zI_toInt hb]
theorem zI_le {a b : Int} (ha : inR a) (hb : inR b) : zI a ≤ zI b ↔ a ≤ b := by rw [Int32.le_iff_toInt_le, zI_toInt ha, zI_toInt hb]
theorem zI_eq {a b : Int} (ha : inR a) (hb : inR b) : zI a = zI b ↔ a = b := by rw [← Int32.toInt_inj, zI_toInt ha, zI_toInt hb]
theorem lZ_lt {a b : Int} (ha : inL a) (hb : inL b) : lZ a < lZ b ↔ a < b := by rw [Int64.lt_iff_toInt_lt, lZ_toInt ha, lZ_toInt hb]
theorem lZ_le {a b : Int} (ha : inL a) (hb : inL b) : lZ a ≤ lZ b ↔ a ≤ b := by rw [Int64.le_iff_toInt_le, lZ_toInt ha, lZ_toInt hb]
theorem lZ_eq {a b : Int} (ha : inL a) (hb : inL b) : lZ a = lZ b ↔ a = b := by rw [← Int64.toInt_inj, lZ_toInt ha, lZ_toInt hb]
theorem zI_0 : (0 : Int32) = zI 0 := rfl
theorem zI_1 : (1 : Int32) = zI 1 := rfl
theorem zI_tdiv {a b : Int} (ha : inR a) (hm : -2147483648 < a) (hb : inR b) (h : 0 < b) : zI a / zI b = zI (a.tdiv b) := by
  apply Int32.toInt_inj.mp
  have hne : zI b ≠ -1 := fun q => by
    have := congrArg Int32.toInt q
    rw [zI_toInt hb] at this
    have h2 : (-1 : Int32).toInt = -1 := by decide
    omega
  have h3 : inR (a.tdiv b) := by
    have h1 := Int.natAbs_tdiv_le_natAbs a b
    omega
  rw [Int32.toInt_div_of_ne_right _ _ hne, zI_toInt ha, zI_toInt hb, zI_toInt h3]
theorem zI_tmod {a b : Int} (ha : inR a) (hm : -2147483648 < a) (hb : inR b) (h : 0 < b) : zI a - zI a / zI b * zI b = zI (a.tmod b) := by
  rw [zI_tdiv ha hm hb h, zI_mul, zI_sub]
  congr 1
  have := Int.tmod_add_mul_tdiv a b
  rw [Int.mul_comm] at this
  omega
theorem zI_mod {a b : Int} (h0 : 0 ≤ a) (ha : inR a) (hb : inR b) (h : 0 < b) : zI a - zI a / zI b * zI b = zI (a % b) := by
  rw [zI_tmod ha (by omega) hb h, Int.tmod_eq_emod_of_nonneg h0]
theorem zI_div {a b : Int} (h0 : 0 ≤ a) (ha : inR a) (hb : inR b) (h : 0 < b) : zI a / zI b = zI (a / b) := by
  rw [zI_tdiv ha (by omega) hb h, Int.tdiv_eq_ediv_of_nonneg h0]
theorem zI_ne0 {b : Int} (hb : inR b) (h : b ≠ 0) : ¬ zI b = 0 := fun q => h ((zI_eq hb (by omega)).mp q)
def bI (c : Prop) [Decidable c] : Int32 := if c then 1 else 0
theorem bI_t {c : Prop} [Decidable c] (h : c) : bI c = 1 := by simp [bI, h]
theorem bI_f {c : Prop} [Decidable c] (h : ¬ c) : bI c = 0 := by simp [bI, h]
theorem bI_01 (c : Prop) [Decidable c] : bI c = 0 ∨ bI c = 1 := by by_cases h : c <;> simp [bI, h]
theorem bI_cong {c c' : Prop} [Decidable c] [Decidable c'] (h : c ↔ c') : bI c = bI c' := by by_cases q : c <;> simp [bI, q, ← h]
theorem sh_amt {i : Nat} (h : i < 32) : ((nI i &&& 31).toBitVec.smod 32).toNat = i := by
  have : ∀ j : Fin 32, ((nI j.val &&& 31).toBitVec.smod 32).toNat = j.val := by decide
  exact this ⟨i, h⟩
theorem zI_shr {n i : Nat} (hn : n < 2147483648) (hi : i < 32) : zI (n : Int) >>> (zI (i : Int) &&& 31) = zI ((n / 2 ^ i : Nat) : Int) := by
  rw [zI_nat, zI_nat, zI_nat, pk_shrN hn _ i (sh_amt hi)]
theorem zI_shl {n i : Nat} (hi : i < 32) (h : n * 2 ^ i < 2147483648) : zI (n : Int) <<< (zI (i : Int) &&& 31) = zI ((n * 2 ^ i : Nat) : Int) := by
  rw [zI_nat, zI_nat, zI_nat, pk_shlN _ i (sh_amt hi) (by omega)]
theorem nI_and (a b : Nat) : nI a &&& nI b = nI (a &&& b) := by
  apply Int32.toBitVec_inj.mp
  show BitVec.ofNat 32 a &&& BitVec.ofNat 32 b = BitVec.ofNat 32 (a &&& b)
  apply BitVec.eq_of_getLsbD_eq
  intro i hi
  simp [hi]
theorem nI_or (a b : Nat) : nI a ||| nI b = nI (a ||| b) := by
  apply Int32.toBitVec_inj.mp
  show BitVec.ofNat 32 a ||| BitVec.ofNat 32 b = BitVec.ofNat 32 (a ||| b)
  apply BitVec.eq_of_getLsbD_eq
  intro i hi
  simp [hi]
theorem zI_and (a b : Nat) : zI (a : Int) &&& zI (b : Int) = zI ((a &&& b : Nat) : Int) := by rw [zI_nat, zI_nat, zI_nat, nI_and]
theorem zI_or (a b : Nat) : zI (a : Int) ||| zI (b : Int) = zI ((a ||| b : Nat) : Int) := by rw [zI_nat, zI_nat, zI_nat, nI_or]
/-- the bit i of n, as the machine asks for it: n >> i & 1 -/
theorem zI_bit {n i : Nat} (hn : n < 2147483648) (hi : i < 32) : (zI (n : Int) >>> (zI (i : Int) &&& 31)) &&& zI 1 = bI (n.testBit i = true) := by
  rw [zI_shr hn hi, show (1 : Int) = ((1 : Nat) : Int) from rfl, zI_and, Nat.and_one_is_mod]
  have h := Nat.testBit_eq_decide_div_mod_eq (x := n) (i := i)
  by_cases hb : n.testBit i = true
  · rw [bI_t hb]
    rw [hb] at h
    have : n / 2 ^ i % 2 = 1 := by simpa using h.symm
    rw [this]; rfl
  · rw [bI_f hb]
    have h2 : n.testBit i = false := by simpa using hb
    rw [h2] at h
    have : ¬ n / 2 ^ i % 2 = 1 := by simpa using h.symm
    rw [show n / 2 ^ i % 2 = 0 by omega]; rfl
section WZ
variable {M : MD} {d : Nat} {Post : Option Value → HI → HL → Prop} {pc : Nat} {lv : LV} {st : List Value} {hi : HI} {hl : HL}
/-- another text of the top -/
theorem wz_top {x y : Int32} (h : x = y) (k : Wp M d Post pc lv (.int y :: st) hi hl) : Wp M d Post pc lv (.int x :: st) hi hl := h ▸ k
theorem wz_topl {x y : Int64} (h : x = y) (k : Wp M d Post pc lv (.long y :: st) hi hl) : Wp M d Post pc lv (.long x :: st) hi hl := h ▸ k
theorem wz_st {st' : List Value} (h : st = st') (k : Wp M d Post pc lv st' hi hl) : Wp M d Post pc lv st hi hl := h ▸ k
theorem wz_lv {lv' : LV} (h : lv = lv') (k : Wp M d Post pc lv' st hi hl) : Wp M d Post pc lv st hi hl := h ▸ k
theorem wz_hi {hi' : HI} (h : hi = hi') (k : Wp M d Post pc lv st hi' hl) : Wp M d Post pc lv st hi hl := h ▸ k
theorem wz_hl {hl' : HL} (h : hl = hl') (k : Wp M d Post pc lv st hi hl') : Wp M d Post pc lv st hi hl := h ▸ k
theorem wz_iadd {a b : Int} (hd : decode M.2.1 pc = .ok (.iadd, 1)) (k : Wp M d Post (pc + 1) lv (.int (zI (a + b)) :: st) hi hl) : Wp M d Post pc lv (.int (zI b) :: .int (zI a) :: st) hi hl := wp_iadd hd (by rw [zI_add]; exact k)
theorem wz_isub {a b : Int} (hd : decode M.2.1 pc = .ok (.isub, 1)) (k : Wp M d Post (pc + 1) lv (.int (zI (a - b)) :: st) hi hl) : Wp M d Post pc lv (.int (zI b) :: .int (zI a) :: st) hi hl := wp_isub hd (by rw [zI_sub]; exact k)
theorem wz_imul {a b : Int} (hd : decode M.2.1 pc = .ok (.imul, 1)) (k : Wp M d Post (pc + 1) lv (.int (zI (a * b)) :: st) hi hl) : Wp M d Post pc lv (.int (zI b) :: .int (zI a) :: st) hi hl := wp_imul hd (by rw [zI_mul]; exact k)
theorem wz_ladd {a b : Int} (hd : decode M.2.1 pc = .ok (.ladd, 1)) (k : Wp M d Post (pc + 1) lv (.long (lZ (a + b)) :: st) hi hl) : Wp M d Post pc lv (.long (lZ b) :: .long (lZ a) :: st) hi hl := wp_ladd hd (by rw [lZ_add]; exact k)
theorem wz_lsub {a b : Int} (hd : decode M.2.1 pc = .ok (.lsub, 1)) (k : Wp M d Post (pc + 1) lv (.long (lZ (a - b)) :: st) hi hl) : Wp M d Post pc lv (.long (lZ b) :: .long (lZ a) :: st) hi hl := wp_lsub hd (by rw [lZ_sub]; exact k)
theorem wz_lmul {a b : Int} (hd : decode M.2.1 pc = .ok (.lmul, 1)) (k : Wp M d Post (pc + 1) lv (.long (lZ (a * b)) :: st) hi hl) : Wp M d Post pc lv (.long (lZ b) :: .long (lZ a) :: st) hi hl := wp_lmul hd (by rw [lZ_mul]; exact k)
theorem wz_ineg {a : Int} (hd : decode M.2.1 pc = .ok (.ineg, 1)) (k : Wp M d Post (pc + 1) lv (.int (zI (-a)) :: st) hi hl) : Wp M d Post pc lv (.int (zI a) :: st) hi hl := wp_ineg hd (by rw [zI_neg]; exact k)
theorem wz_irem {a b : Int} (hd : decode M.2.1 pc = .ok (.irem, 1)) (h0 : 0 ≤ a) (ha : inR a) (hb : inR b) (h : 0 < b) (k : Wp M d Post (pc + 1) lv (.int (zI (a % b)) :: st) hi hl) : Wp M d Post pc lv (.int (zI b) :: .int (zI a) :: st) hi hl := wp_irem hd (zI_ne0 hb (by omega)) (by rw [zI_mod h0 ha hb h]; exact k)
theorem wz_iremT {a b : Int} (hd : decode M.2.1 pc = .ok (.irem, 1)) (ha : inR a) (hm : -2147483648 < a) (hb : inR b) (h : 0 < b) (k : Wp M d Post (pc + 1) lv (.int (zI (a.tmod b)) :: st) hi hl) : Wp M d Post pc lv (.int (zI b) :: .int (zI a) :: st) hi hl := wp_irem hd (zI_ne0 hb (by omega)) (by rw [zI_tmod ha hm hb h]; exact k)
theorem wz_idiv {a b : Int} (hd : decode M.2.1 pc = .ok (.idiv, 1)) (h0 : 0 ≤ a) (ha : inR a) (hb : inR b) (h : 0 < b) (k : Wp M d Post (pc + 1) lv (.int (zI (a / b)) :: st) hi hl) : Wp M d Post pc lv (.int (zI b) :: .int (zI a) :: st) hi hl := wp_idiv hd (zI_ne0 hb (by omega)) (by rw [zI_div h0 ha hb h]; exact k)
theorem wz_iinc {n : Nat} {b a : Int} {lv' : LV} (hd : decode M.2.1 pc = .ok (.iinc n b, 3)) (hg : lvg lv n = some (.int (zI a))) (hn : n < M.2.2.1) (hlv : lset lv n (.int (zI (a + b))) = lv') (k : Wp M d Post (pc + 3) lv' st hi hl) : Wp M d Post pc lv st hi hl := wp_iinc hd hg (zI_add a b) hn hlv k
theorem wz_i2l {a : Int} (hd : decode M.2.1 pc = .ok (.i2l, 1)) (ha : inR a) (k : Wp M d Post (pc + 1) lv (.long (lZ a) :: st) hi hl) : Wp M d Post pc lv (.int (zI a) :: st) hi hl := wp_i2l hd (by
  have : (zI a).toInt64 = lZ a := by
    apply Int64.toInt_inj.mp
    rw [Int32.toInt_toInt64, zI_toInt ha, lZ_toInt (by omega)]
  rw [this]; exact k)
theorem lcmp_z {a b : Int} (ha : inL a) (hb : inL b) : lg_cmp (lZ a) (lZ b) = zI (if b < a then 1 else if a = b then 0 else -1) := by
  unfold lg_cmp
  simp only [gt_iff_lt, lZ_lt hb ha, lZ_eq ha hb]
  split
  · rfl
  · split <;> rfl
theorem wz_lcmp {a b : Int} (hd : decode M.2.1 pc = .ok (.lcmp, 1)) (ha : inL a) (hb : inL b) (k : Wp M d Post (pc + 1) lv (.int (zI (if b < a then 1 else if a = b then 0 else -1)) :: st) hi hl) : Wp M d Post pc lv (.long (lZ b) :: .long (lZ a) :: st) hi hl := wp_lcmp hd (by rw [lcmp_z ha hb]; exact k)
theorem wz_icmp_eq {a b off : Int} {tgt : Nat} (hd : decode M.2.1 pc = .ok (.if_icmp .eq off, 3)) (ht : (pc : Int) + off = (tgt : Int)) (ha : inR a) (hb : inR b) (kt : a = b → Wp M d Post tgt lv st hi hl) (kf : ¬ a = b → Wp M d Post (pc + 3) lv st hi hl) : Wp M d Post pc lv (.int (zI b) :: .int (zI a) :: st) hi hl := wp_icmp_eq hd ht (fun h => kt ((zI_eq ha hb).mp h)) (fun h => kf (fun q => h ((zI_eq ha hb).mpr q)))
theorem wz_if_eq {a off : Int} {tgt : Nat} (hd : decode M.2.1 pc = .ok (.ifCond .eq off, 3)) (ht : (pc : Int) + off = (tgt : Int)) (ha : inR a) (kt : a = 0 → Wp M d Post tgt lv st hi hl) (kf : ¬ a = 0 → Wp M d Post (pc + 3) lv st hi hl) : Wp M d Post pc lv (.int (zI a) :: st) hi hl := by
  have hb : inR 0 := by omega
  exact wp_if_eq hd ht (fun h => kt ((zI_eq ha hb).mp h)) (fun h => kf (fun q => h ((zI_eq ha hb).mpr q)))
theorem wz_icmp_ne {a b off : Int} {tgt : Nat} (hd : decode M.2.1 pc = .ok (.if_icmp .ne off, 3)) (ht : (pc : Int) + off = (tgt : Int)) (ha : inR a) (hb : inR b) (kt : ¬ a = b → Wp M d Post tgt lv st hi hl) (kf : a = b → Wp M d Post (pc + 3) lv st hi hl) : Wp M d Post pc lv (.int (zI b) :: .int (zI a) :: st) hi hl := wp_icmp_ne hd ht (fun h => kt (fun q => h ((zI_eq ha hb).mpr q))) (fun h => kf ((zI_eq ha hb).mp h))
theorem wz_if_ne {a off : Int} {tgt : Nat} (hd : decode M.2.1 pc = .ok (.ifCond .ne off, 3)) (ht : (pc : Int) + off = (tgt : Int)) (ha : inR a) (kt : ¬ a = 0 → Wp M d Post tgt lv st hi hl) (kf : a = 0 → Wp M d Post (pc + 3) lv st hi hl) : Wp M d Post pc lv (.int (zI a) :: st) hi hl := by
  have hb : inR 0 := by omega
  exact wp_if_ne hd ht (fun h => kt (fun q => h ((zI_eq ha hb).mpr q))) (fun h => kf ((zI_eq ha hb).mp h))
theorem wz_icmp_lt {a b off : Int} {tgt : Nat} (hd : decode M.2.1 pc = .ok (.if_icmp .lt off, 3)) (ht : (pc : Int) + off = (tgt : Int)) (ha : inR a) (hb : inR b) (kt : a < b → Wp M d Post tgt lv st hi hl) (kf : b ≤ a → Wp M d Post (pc + 3) lv st hi hl) : Wp M d Post pc lv (.int (zI b) :: .int (zI a) :: st) hi hl := wp_icmp_lt hd ht (fun h => kt ((zI_lt ha hb).mp h)) (fun h => kf (Int.not_lt.mp (fun q => h ((zI_lt ha hb).mpr q))))
theorem wz_if_lt {a off : Int} {tgt : Nat} (hd : decode M.2.1 pc = .ok (.ifCond .lt off, 3)) (ht : (pc : Int) + off = (tgt : Int)) (ha : inR a) (kt : a < 0 → Wp M d Post tgt lv st hi hl) (kf : 0 ≤ a → Wp M d Post (pc + 3) lv st hi hl) : Wp M d Post pc lv (.int (zI a) :: st) hi hl := by
  have hb : inR 0 := by omega
  exact wp_if_lt hd ht (fun h => kt ((zI_lt ha hb).mp h)) (fun h => kf (Int.not_lt.mp (fun q => h ((zI_lt ha hb).mpr q))))
theorem wz_icmp_ge {a b off : Int} {tgt : Nat} (hd : decode M.2.1 pc = .ok (.if_icmp .ge off, 3)) (ht : (pc : Int) + off = (tgt : Int)) (ha : inR a) (hb : inR b) (kt : b ≤ a → Wp M d Post tgt lv st hi hl) (kf : a < b → Wp M d Post (pc + 3) lv st hi hl) : Wp M d Post pc lv (.int (zI b) :: .int (zI a) :: st) hi hl := wp_icmp_ge hd ht (fun h => kt ((zI_le hb ha).mp h)) (fun h => kf (Int.not_le.mp (fun q => h ((zI_le hb ha).mpr q))))
theorem wz_if_ge {a off : Int} {tgt : Nat} (hd : decode M.2.1 pc = .ok (.ifCond .ge off, 3)) (ht : (pc : Int) + off = (tgt : Int)) (ha : inR a) (kt : 0 ≤ a → Wp M d Post tgt lv st hi hl) (kf : a < 0 → Wp M d Post (pc + 3) lv st hi hl) : Wp M d Post pc lv (.int (zI a) :: st) hi hl := by
  have hb : inR 0 := by omega
  exact wp_if_ge hd ht (fun h => kt ((zI_le hb ha).mp h)) (fun h => kf (Int.not_le.mp (fun q => h ((zI_le hb ha).mpr q))))
theorem wz_icmp_gt {a b off : Int} {tgt : Nat} (hd : decode M.2.1 pc = .ok (.if_icmp .gt off, 3)) (ht : (pc : Int) + off = (tgt : Int)) (ha : inR a) (hb : inR b) (kt : b < a → Wp M d Post tgt lv st hi hl) (kf : a ≤ b → Wp M d Post (pc + 3) lv st hi hl) : Wp M d Post pc lv (.int (zI b) :: .int (zI a) :: st) hi hl := wp_icmp_gt hd ht (fun h => kt ((zI_lt hb ha).mp h)) (fun h => kf (Int.not_lt.mp (fun q => h ((zI_lt hb ha).mpr q))))
theorem wz_if_gt {a off : Int} {tgt : Nat} (hd : decode M.2.1 pc = .ok (.ifCond .gt off, 3)) (ht : (pc : Int) + off = (tgt : Int)) (ha : inR a) (kt : 0 < a → Wp M d Post tgt lv st hi hl) (kf : a ≤ 0 → Wp M d Post (pc + 3) lv st hi hl) : Wp M d Post pc lv (.int (zI a) :: st) hi hl := by
  have hb : inR 0 := by omega
  exact wp_if_gt hd ht (fun h => kt ((zI_lt hb ha).mp h)) (fun h => kf (Int.not_lt.mp (fun q => h ((zI_lt hb ha).mpr q))))
theorem wz_icmp_le {a b off : Int} {tgt : Nat} (hd : decode M.2.1 pc = .ok (.if_icmp .le off, 3)) (ht : (pc : Int) + off = (tgt : Int)) (ha : inR a) (hb : inR b) (kt : a ≤ b → Wp M d Post tgt lv st hi hl) (kf : b < a → Wp M d Post (pc + 3) lv st hi hl) : Wp M d Post pc lv (.int (zI b) :: .int (zI a) :: st) hi hl := wp_icmp_le hd ht (fun h => kt ((zI_le ha hb).mp h)) (fun h => kf (Int.not_le.mp (fun q => h ((zI_le ha hb).mpr q))))
theorem wz_if_le {a off : Int} {tgt : Nat} (hd : decode M.2.1 pc = .ok (.ifCond .le off, 3)) (ht : (pc : Int) + off = (tgt : Int)) (ha : inR a) (kt : a ≤ 0 → Wp M d Post tgt lv st hi hl) (kf : 0 < a → Wp M d Post (pc + 3) lv st hi hl) : Wp M d Post pc lv (.int (zI a) :: st) hi hl := by
  have hb : inR 0 := by omega
  exact wp_if_le hd ht (fun h => kt ((zI_le ha hb).mp h)) (fun h => kf (Int.not_le.mp (fun q => h ((zI_le ha hb).mpr q))))
theorem wz_if_eqB {c : Prop} [Decidable c] {off : Int} {tgt : Nat} (hd : decode M.2.1 pc = .ok (.ifCond .eq off, 3)) (ht : (pc : Int) + off = (tgt : Int)) (kt : ¬ c → Wp M d Post tgt lv st hi hl) (kf : c → Wp M d Post (pc + 3) lv st hi hl) : Wp M d Post pc lv (.int (bI c) :: st) hi hl := wp_if_eq hd ht (fun h => kt (fun q => by rw [bI_t q] at h; exact absurd h (by decide))) (fun h => kf (Decidable.byContradiction fun q => h (bI_f q)))
theorem wz_if_neB {c : Prop} [Decidable c] {off : Int} {tgt : Nat} (hd : decode M.2.1 pc = .ok (.ifCond .ne off, 3)) (ht : (pc : Int) + off = (tgt : Int)) (kt : c → Wp M d Post tgt lv st hi hl) (kf : ¬ c → Wp M d Post (pc + 3) lv st hi hl) : Wp M d Post pc lv (.int (bI c) :: st) hi hl := wp_if_ne hd ht (fun h => kt (Decidable.byContradiction fun q => h (bI_f q))) (fun h => kf (fun q => by rw [bI_t q] at h; exact absurd h (by decide)))
theorem wz_getI {q ci f idx : Nat} {fs : List (Option (Option Nat))} {z : Int} (hv : hi q f = zI z) (hd : decode M.2.1 pc = .ok (.getfield idx, 3)) (hf : Fld M.1.cls idx ci f) (hq : q < 61) (hs : shp q = .inr (ci, fs)) (ht : fs[f]? = some none) (k : Wp M d Post (pc + 3) lv (.int (zI z) :: st) hi hl) : Wp M d Post pc lv (.ref q :: st) hi hl := wp_getI hd hf hq hs ht (hv ▸ k)
theorem wz_getJ {q ci f idx : Nat} {fs : List (Option (Option Nat))} {z : Int} (hv : hl q f = lZ z) (hd : decode M.2.1 pc = .ok (.getfield idx, 3)) (hf : Fld M.1.cls idx ci f) (hq : q < 61) (hs : shp q = .inr (ci, fs)) (ht : fs[f]? = some (some none)) (k : Wp M d Post (pc + 3) lv (.long (lZ z) :: st) hi hl) : Wp M d Post pc lv (.ref q :: st) hi hl := wp_getJ hd hf hq hs ht (hv ▸ k)
theorem wz_iald {q n j : Nat} {a z : Int} (hv : hi q j = zI z) (hj : a = (j : Int)) (hjn : j < n) (hd : decode M.2.1 pc = .ok (.iaload, 1)) (hq : q < 61) (hs : shp q = .inl (0, n)) (hn : n ≤ 384) (k : Wp M d Post (pc + 1) lv (.int (zI z) :: st) hi hl) : Wp M d Post pc lv (.int (zI a) :: .ref q :: st) hi hl := wp_iald hd hq hs hn (by rw [hj, zI_nat]) hjn (hv ▸ k)
theorem wz_bald {q n j : Nat} {a z : Int} (hv : hi q j = zI z) (hj : a = (j : Int)) (hjn : j < n) (hd : decode M.2.1 pc = .ok (.baload, 1)) (hq : q < 61) (hs : shp q = .inl (1, n)) (hn : n ≤ 384) (k : Wp M d Post (pc + 1) lv (.int (zI z) :: st) hi hl) : Wp M d Post pc lv (.int (zI a) :: .ref q :: st) hi hl := wp_bald hd hq hs hn (by rw [hj, zI_nat]) hjn (hv ▸ k)
theorem wz_zald {q n j : Nat} {a z : Int} (hv : hi q j = zI z) (hj : a = (j : Int)) (hjn : j < n) (hd : decode M.2.1 pc = .ok (.baload, 1)) (hq : q < 61) (hs : shp q = .inl (2, n)) (hn : n ≤ 384) (k : Wp M d Post (pc + 1) lv (.int (zI z) :: st) hi hl) : Wp M d Post pc lv (.int (zI a) :: .ref q :: st) hi hl := wp_zald hd hq hs hn (by rw [hj, zI_nat]) hjn (hv ▸ k)
theorem wz_lald {q n j : Nat} {a z : Int} (hv : hl q j = lZ z) (hj : a = (j : Int)) (hjn : j < n) (hd : decode M.2.1 pc = .ok (.laload, 1)) (hq : q < 61) (hs : shp q = .inl (3, n)) (hn : n ≤ 384) (k : Wp M d Post (pc + 1) lv (.long (lZ z) :: st) hi hl) : Wp M d Post pc lv (.int (zI a) :: .ref q :: st) hi hl := wp_lald hd hq hs hn (by rw [hj, zI_nat]) hjn (hv ▸ k)
theorem wz_iast {q n j : Nat} {a : Int} {x : Int32} (hj : a = (j : Int)) (hjn : j < n) (hd : decode M.2.1 pc = .ok (.iastore, 1)) (hq : q < 61) (hs : shp q = .inl (0, n)) (hn : n ≤ 384) (k : Wp M d Post (pc + 1) lv st (setI hi q j x) hl) : Wp M d Post pc lv (.int x :: .int (zI a) :: .ref q :: st) hi hl := wp_iast hd hq hs hn (by rw [hj, zI_nat]) hjn k
theorem wz_bast {q n j : Nat} {a : Int} {x : Int32} (hj : a = (j : Int)) (hjn : j < n) (hd : decode M.2.1 pc = .ok (.bastore, 1)) (hq : q < 61) (hs : shp q = .inl (1, n)) (hn : n ≤ 384) (k : Wp M d Post (pc + 1) lv st (setI hi q j (vp_nar .byte x)) hl) : Wp M d Post pc lv (.int x :: .int (zI a) :: .ref q :: st) hi hl := wp_bast hd hq hs hn (by rw [hj, zI_nat]) hjn k
theorem nar_z {x : Int32} (h : x = 0 ∨ x = 1) : vp_nar .boolean x = x := by rcases h with rfl | rfl <;> rfl
theorem wz_zast {q n j : Nat} {a : Int} {x : Int32} (hj : a = (j : Int)) (hjn : j < n) (hx : x = 0 ∨ x = 1) (hd : decode M.2.1 pc = .ok (.bastore, 1)) (hq : q < 61) (hs : shp q = .inl (2, n)) (hn : n ≤ 384) (k : Wp M d Post (pc + 1) lv st (setI hi q j x) hl) : Wp M d Post pc lv (.int x :: .int (zI a) :: .ref q :: st) hi hl := wp_zast hd hq hs hn (by rw [hj, zI_nat]) hjn (by rw [nar_z hx]; exact k)
theorem wz_last {q n j : Nat} {a : Int} {x : Int64} (hj : a = (j : Int)) (hjn : j < n) (hd : decode M.2.1 pc = .ok (.lastore, 1)) (hq : q < 61) (hs : shp q = .inl (3, n)) (hn : n ≤ 384) (k : Wp M d Post (pc + 1) lv st hi (setL hl q j x)) : Wp M d Post pc lv (.long x :: .int (zI a) :: .ref q :: st) hi hl := wp_last hd hq hs hn (by rw [hj, zI_nat]) hjn k
end WZ
end
section
/-! links: fields, calls, constants -/
theorem g_BP : ∀ w ∈ u_ws R_BP F_BP 6, w ∈ gtbl := gt_sub i_BP (by decide +kernel)
theorem g_MA : ∀ w ∈ u_ws R_MA F_MA 5, w ∈ gtbl := gt_sub i_MA (by decide +kernel)
theorem g_PE : ∀ w ∈ u_ws R_PE F_PE 8, w ∈ gtbl := gt_sub i_PE (by decide +kernel)
theorem g_PH : ∀ w ∈ u_ws R_PH F_PH 9, w ∈ gtbl := gt_sub i_PH (by decide +kernel)
theorem g_PI : ∀ w ∈ u_ws R_PI F_PI 4, w ∈ gtbl := gt_sub i_PI (by decide +kernel)
theorem g_SC : ∀ w ∈ u_ws R_SC F_SC 6, w ∈ gtbl := gt_sub i_SC (by decide +kernel)
theorem g_SE : ∀ w ∈ u_ws R_SE F_SE 5, w ∈ gtbl := gt_sub i_SE (by decide +kernel)
theorem g_SN : ∀ w ∈ u_ws R_SN F_SN 6, w ∈ gtbl := gt_sub i_SN (by decide +kernel)
theorem g_BB : ∀ w ∈ u_ws R_BB F_BB 10, w ∈ gtbl := gt_sub i_BB (by decide +kernel)
theorem g_MO : ∀ w ∈ u_ws R_MO F_MO 31, w ∈ gtbl := gt_sub i_MO (by decide +kernel)
theorem f_SC_9 : Fld "BlownByAll$Script" 9 5 0 := ⟨R_SC, F_SC, 6, t_SC, rfl, by decide, g_SC, t_SC_ok, n_SC, Or.inl (gt_in 67 (by decide +kernel) rfl), rfl⟩
theorem f_SC_15 : Fld "BlownByAll$Script" 15 5 1 := ⟨R_SC, F_SC, 6, t_SC, rfl, by decide, g_SC, t_SC_ok, n_SC, Or.inl (gt_in 68 (by decide +kernel) rfl), rfl⟩
theorem f_BB_226 : Fld "BlownByAll" 226 5 1 := ⟨R_SC, F_SC, 6, t_SC, rfl, by decide, g_SC, t_SC_ok, n_SC, Or.inr ⟨"BlownByAll", ne_in 69 (by decide +kernel) rfl⟩, rfl⟩
theorem f_SC_19 : Fld "BlownByAll$Script" 19 5 2 := ⟨R_SC, F_SC, 6, t_SC, rfl, by decide, g_SC, t_SC_ok, n_SC, Or.inl (gt_in 70 (by decide +kernel) rfl), rfl⟩
theorem f_PI_22 : Fld "BlownByAll$Pipes" 22 5 3 := ⟨R_SC, F_SC, 6, t_SC, rfl, by decide, g_SC, t_SC_ok, n_SC, Or.inr ⟨"BlownByAll", ne_in 71 (by decide +kernel) rfl⟩, rfl⟩
theorem f_SC_22 : Fld "BlownByAll$Script" 22 5 3 := ⟨R_SC, F_SC, 6, t_SC, rfl, by decide, g_SC, t_SC_ok, n_SC, Or.inl (gt_in 72 (by decide +kernel) rfl), rfl⟩
theorem f_PE_28 : Fld "BlownByAll$People" 28 5 4 := ⟨R_SC, F_SC, 6, t_SC, rfl, by decide, g_SC, t_SC_ok, n_SC, Or.inr ⟨"BlownByAll", ne_in 73 (by decide +kernel) rfl⟩, rfl⟩
theorem f_SC_25 : Fld "BlownByAll$Script" 25 5 4 := ⟨R_SC, F_SC, 6, t_SC, rfl, by decide, g_SC, t_SC_ok, n_SC, Or.inl (gt_in 74 (by decide +kernel) rfl), rfl⟩
theorem f_PI_27 : Fld "BlownByAll$Pipes" 27 5 5 := ⟨R_SC, F_SC, 6, t_SC, rfl, by decide, g_SC, t_SC_ok, n_SC, Or.inr ⟨"BlownByAll", ne_in 75 (by decide +kernel) rfl⟩, rfl⟩
theorem f_SC_28 : Fld "BlownByAll$Script" 28 5 5 := ⟨R_SC, F_SC, 6, t_SC, rfl, by decide, g_SC, t_SC_ok, n_SC, Or.inl (gt_in 76 (by decide +kernel) rfl), rfl⟩
theorem f_PI_18 : Fld "BlownByAll$Pipes" 18 4 0 := ⟨R_PI, F_PI, 4, t_PI, rfl, by decide, g_PI, t_PI_ok, n_PI, Or.inl (gt_in 97 (by decide +kernel) rfl), rfl⟩
theorem f_SE_40 : Fld "BlownByAll$SeatPlan" 40 4 0 := ⟨R_PI, F_PI, 4, t_PI, rfl, by decide, g_PI, t_PI_ok, n_PI, Or.inr ⟨"BlownByAll", ne_in 98 (by decide +kernel) rfl⟩, rfl⟩
theorem f_BB_99 : Fld "BlownByAll" 99 4 0 := ⟨R_PI, F_PI, 4, t_PI, rfl, by decide, g_PI, t_PI_ok, n_PI, Or.inr ⟨"BlownByAll", ne_in 99 (by decide +kernel) rfl⟩, rfl⟩
theorem f_MA_86 : Fld "BlownByAll$Mass" 86 4 0 := ⟨R_PI, F_PI, 4, t_PI, rfl, by decide, g_PI, t_PI_ok, n_PI, Or.inr ⟨"BlownByAll", ne_in 100 (by decide +kernel) rfl⟩, rfl⟩
theorem f_PI_30 : Fld "BlownByAll$Pipes" 30 4 1 := ⟨R_PI, F_PI, 4, t_PI, rfl, by decide, g_PI, t_PI_ok, n_PI, Or.inl (gt_in 101 (by decide +kernel) rfl), rfl⟩
theorem f_MA_39 : Fld "BlownByAll$Mass" 39 4 1 := ⟨R_PI, F_PI, 4, t_PI, rfl, by decide, g_PI, t_PI_ok, n_PI, Or.inr ⟨"BlownByAll", ne_in 102 (by decide +kernel) rfl⟩, rfl⟩
theorem f_BB_195 : Fld "BlownByAll" 195 4 1 := ⟨R_PI, F_PI, 4, t_PI, rfl, by decide, g_PI, t_PI_ok, n_PI, Or.inr ⟨"BlownByAll", ne_in 103 (by decide +kernel) rfl⟩, rfl⟩
theorem f_PI_9 : Fld "BlownByAll$Pipes" 9 4 2 := ⟨R_PI, F_PI, 4, t_PI, rfl, by decide, g_PI, t_PI_ok, n_PI, Or.inl (gt_in 104 (by decide +kernel) rfl), rfl⟩
theorem f_SN_37 : Fld "BlownByAll$Sneezes" 37 4 2 := ⟨R_PI, F_PI, 4, t_PI, rfl, by decide, g_PI, t_PI_ok, n_PI, Or.inr ⟨"BlownByAll", ne_in 105 (by decide +kernel) rfl⟩, rfl⟩
theorem f_MA_63 : Fld "BlownByAll$Mass" 63 4 2 := ⟨R_PI, F_PI, 4, t_PI, rfl, by decide, g_PI, t_PI_ok, n_PI, Or.inr ⟨"BlownByAll", ne_in 106 (by decide +kernel) rfl⟩, rfl⟩
theorem f_BB_107 : Fld "BlownByAll" 107 4 2 := ⟨R_PI, F_PI, 4, t_PI, rfl, by decide, g_PI, t_PI_ok, n_PI, Or.inr ⟨"BlownByAll", ne_in 107 (by decide +kernel) rfl⟩, rfl⟩
theorem f_PI_15 : Fld "BlownByAll$Pipes" 15 4 3 := ⟨R_PI, F_PI, 4, t_PI, rfl, by decide, g_PI, t_PI_ok, n_PI, Or.inl (gt_in 108 (by decide +kernel) rfl), rfl⟩
theorem f_SE_30 : Fld "BlownByAll$SeatPlan" 30 2 0 := ⟨R_PE, F_PE, 8, t_PE, rfl, by decide, g_PE, t_PE_ok, n_PE, Or.inr ⟨"BlownByAll", ne_in 125 (by decide +kernel) rfl⟩, rfl⟩
theorem f_PE_34 : Fld "BlownByAll$People" 34 2 0 := ⟨R_PE, F_PE, 8, t_PE, rfl, by decide, g_PE, t_PE_ok, n_PE, Or.inl (gt_in 126 (by decide +kernel) rfl), rfl⟩
theorem f_MA_33 : Fld "BlownByAll$Mass" 33 2 0 := ⟨R_PE, F_PE, 8, t_PE, rfl, by decide, g_PE, t_PE_ok, n_PE, Or.inr ⟨"BlownByAll", ne_in 127 (by decide +kernel) rfl⟩, rfl⟩
theorem f_BP_54 : Fld "BlownByAll$BribePlan" 54 2 0 := ⟨R_PE, F_PE, 8, t_PE, rfl, by decide, g_PE, t_PE_ok, n_PE, Or.inr ⟨"BlownByAll", ne_in 128 (by decide +kernel) rfl⟩, rfl⟩
theorem f_PH_73 : Fld "BlownByAll$PhasePlan" 73 2 0 := ⟨R_PE, F_PE, 8, t_PE, rfl, by decide, g_PE, t_PE_ok, n_PE, Or.inr ⟨"BlownByAll", ne_in 129 (by decide +kernel) rfl⟩, rfl⟩
theorem f_SN_62 : Fld "BlownByAll$Sneezes" 62 2 0 := ⟨R_PE, F_PE, 8, t_PE, rfl, by decide, g_PE, t_PE_ok, n_PE, Or.inr ⟨"BlownByAll", ne_in 130 (by decide +kernel) rfl⟩, rfl⟩
theorem f_BB_103 : Fld "BlownByAll" 103 2 0 := ⟨R_PE, F_PE, 8, t_PE, rfl, by decide, g_PE, t_PE_ok, n_PE, Or.inr ⟨"BlownByAll", ne_in 131 (by decide +kernel) rfl⟩, rfl⟩
theorem f_PE_37 : Fld "BlownByAll$People" 37 2 1 := ⟨R_PE, F_PE, 8, t_PE, rfl, by decide, g_PE, t_PE_ok, n_PE, Or.inl (gt_in 132 (by decide +kernel) rfl), rfl⟩
theorem f_SE_47 : Fld "BlownByAll$SeatPlan" 47 2 1 := ⟨R_PE, F_PE, 8, t_PE, rfl, by decide, g_PE, t_PE_ok, n_PE, Or.inr ⟨"BlownByAll", ne_in 133 (by decide +kernel) rfl⟩, rfl⟩
theorem f_SN_54 : Fld "BlownByAll$Sneezes" 54 2 1 := ⟨R_PE, F_PE, 8, t_PE, rfl, by decide, g_PE, t_PE_ok, n_PE, Or.inr ⟨"BlownByAll", ne_in 134 (by decide +kernel) rfl⟩, rfl⟩
theorem f_MA_51 : Fld "BlownByAll$Mass" 51 2 1 := ⟨R_PE, F_PE, 8, t_PE, rfl, by decide, g_PE, t_PE_ok, n_PE, Or.inr ⟨"BlownByAll", ne_in 135 (by decide +kernel) rfl⟩, rfl⟩
theorem f_BB_137 : Fld "BlownByAll" 137 2 1 := ⟨R_PE, F_PE, 8, t_PE, rfl, by decide, g_PE, t_PE_ok, n_PE, Or.inr ⟨"BlownByAll", ne_in 136 (by decide +kernel) rfl⟩, rfl⟩
theorem f_PE_40 : Fld "BlownByAll$People" 40 2 2 := ⟨R_PE, F_PE, 8, t_PE, rfl, by decide, g_PE, t_PE_ok, n_PE, Or.inl (gt_in 137 (by decide +kernel) rfl), rfl⟩
theorem f_MA_66 : Fld "BlownByAll$Mass" 66 2 2 := ⟨R_PE, F_PE, 8, t_PE, rfl, by decide, g_PE, t_PE_ok, n_PE, Or.inr ⟨"BlownByAll", ne_in 138 (by decide +kernel) rfl⟩, rfl⟩
theorem f_BB_134 : Fld "BlownByAll" 134 2 2 := ⟨R_PE, F_PE, 8, t_PE, rfl, by decide, g_PE, t_PE_ok, n_PE, Or.inr ⟨"BlownByAll", ne_in 139 (by decide +kernel) rfl⟩, rfl⟩
theorem f_PE_9 : Fld "BlownByAll$People" 9 2 3 := ⟨R_PE, F_PE, 8, t_PE, rfl, by decide, g_PE, t_PE_ok, n_PE, Or.inl (gt_in 140 (by decide +kernel) rfl), rfl⟩
theorem f_MA_48 : Fld "BlownByAll$Mass" 48 2 3 := ⟨R_PE, F_PE, 8, t_PE, rfl, by decide, g_PE, t_PE_ok, n_PE, Or.inr ⟨"BlownByAll", ne_in 141 (by decide +kernel) rfl⟩, rfl⟩
theorem f_PH_102 : Fld "BlownByAll$PhasePlan" 102 2 3 := ⟨R_PE, F_PE, 8, t_PE, rfl, by decide, g_PE, t_PE_ok, n_PE, Or.inr ⟨"BlownByAll", ne_in 142 (by decide +kernel) rfl⟩, rfl⟩
theorem f_BB_119 : Fld "BlownByAll" 119 2 3 := ⟨R_PE, F_PE, 8, t_PE, rfl, by decide, g_PE, t_PE_ok, n_PE, Or.inr ⟨"BlownByAll", ne_in 143 (by decide +kernel) rfl⟩, rfl⟩
theorem f_PE_15 : Fld "BlownByAll$People" 15 2 4 := ⟨R_PE, F_PE, 8, t_PE, rfl, by decide, g_PE, t_PE_ok, n_PE, Or.inl (gt_in 144 (by decide +kernel) rfl), rfl⟩
theorem f_BP_72 : Fld "BlownByAll$BribePlan" 72 2 4 := ⟨R_PE, F_PE, 8, t_PE, rfl, by decide, g_PE, t_PE_ok, n_PE, Or.inr ⟨"BlownByAll", ne_in 145 (by decide +kernel) rfl⟩, rfl⟩
theorem f_PH_105 : Fld "BlownByAll$PhasePlan" 105 2 4 := ⟨R_PE, F_PE, 8, t_PE, rfl, by decide, g_PE, t_PE_ok, n_PE, Or.inr ⟨"BlownByAll", ne_in 146 (by decide +kernel) rfl⟩, rfl⟩
theorem f_BB_122 : Fld "BlownByAll" 122 2 4 := ⟨R_PE, F_PE, 8, t_PE, rfl, by decide, g_PE, t_PE_ok, n_PE, Or.inr ⟨"BlownByAll", ne_in 147 (by decide +kernel) rfl⟩, rfl⟩
theorem f_PE_18 : Fld "BlownByAll$People" 18 2 5 := ⟨R_PE, F_PE, 8, t_PE, rfl, by decide, g_PE, t_PE_ok, n_PE, Or.inl (gt_in 148 (by decide +kernel) rfl), rfl⟩
theorem f_SN_51 : Fld "BlownByAll$Sneezes" 51 2 5 := ⟨R_PE, F_PE, 8, t_PE, rfl, by decide, g_PE, t_PE_ok, n_PE, Or.inr ⟨"BlownByAll", ne_in 149 (by decide +kernel) rfl⟩, rfl⟩
theorem f_BP_89 : Fld "BlownByAll$BribePlan" 89 2 5 := ⟨R_PE, F_PE, 8, t_PE, rfl, by decide, g_PE, t_PE_ok, n_PE, Or.inr ⟨"BlownByAll", ne_in 150 (by decide +kernel) rfl⟩, rfl⟩
theorem f_BB_125 : Fld "BlownByAll" 125 2 5 := ⟨R_PE, F_PE, 8, t_PE, rfl, by decide, g_PE, t_PE_ok, n_PE, Or.inr ⟨"BlownByAll", ne_in 151 (by decide +kernel) rfl⟩, rfl⟩
theorem f_PE_21 : Fld "BlownByAll$People" 21 2 6 := ⟨R_PE, F_PE, 8, t_PE, rfl, by decide, g_PE, t_PE_ok, n_PE, Or.inl (gt_in 152 (by decide +kernel) rfl), rfl⟩
theorem f_BP_76 : Fld "BlownByAll$BribePlan" 76 2 6 := ⟨R_PE, F_PE, 8, t_PE, rfl, by decide, g_PE, t_PE_ok, n_PE, Or.inr ⟨"BlownByAll", ne_in 153 (by decide +kernel) rfl⟩, rfl⟩
theorem f_BB_128 : Fld "BlownByAll" 128 2 6 := ⟨R_PE, F_PE, 8, t_PE, rfl, by decide, g_PE, t_PE_ok, n_PE, Or.inr ⟨"BlownByAll", ne_in 154 (by decide +kernel) rfl⟩, rfl⟩
theorem f_PE_24 : Fld "BlownByAll$People" 24 2 7 := ⟨R_PE, F_PE, 8, t_PE, rfl, by decide, g_PE, t_PE_ok, n_PE, Or.inl (gt_in 155 (by decide +kernel) rfl), rfl⟩
theorem f_BP_92 : Fld "BlownByAll$BribePlan" 92 2 7 := ⟨R_PE, F_PE, 8, t_PE, rfl, by decide, g_PE, t_PE_ok, n_PE, Or.inr ⟨"BlownByAll", ne_in 156 (by decide +kernel) rfl⟩, rfl⟩
theorem f_PH_98 : Fld "BlownByAll$PhasePlan" 98 2 7 := ⟨R_PE, F_PE, 8, t_PE, rfl, by decide, g_PE, t_PE_ok, n_PE, Or.inr ⟨"BlownByAll", ne_in 157 (by decide +kernel) rfl⟩, rfl⟩
theorem f_BB_131 : Fld "BlownByAll" 131 2 7 := ⟨R_PE, F_PE, 8, t_PE, rfl, by decide, g_PE, t_PE_ok, n_PE, Or.inr ⟨"BlownByAll", ne_in 158 (by decide +kernel) rfl⟩, rfl⟩
theorem f_MA_9 : Fld "BlownByAll$Mass" 9 1 0 := ⟨R_MA, F_MA, 5, t_MA, rfl, by decide, g_MA, t_MA_ok, n_MA, Or.inl (gt_in 183 (by decide +kernel) rfl), rfl⟩
theorem f_MA_15 : Fld "BlownByAll$Mass" 15 1 1 := ⟨R_MA, F_MA, 5, t_MA, rfl, by decide, g_MA, t_MA_ok, n_MA, Or.inl (gt_in 184 (by decide +kernel) rfl), rfl⟩
theorem f_MA_19 : Fld "BlownByAll$Mass" 19 1 2 := ⟨R_MA, F_MA, 5, t_MA, rfl, by decide, g_MA, t_MA_ok, n_MA, Or.inl (gt_in 185 (by decide +kernel) rfl), rfl⟩
theorem f_BB_155 : Fld "BlownByAll" 155 1 2 := ⟨R_MA, F_MA, 5, t_MA, rfl, by decide, g_MA, t_MA_ok, n_MA, Or.inr ⟨"BlownByAll", ne_in 186 (by decide +kernel) rfl⟩, rfl⟩
theorem f_MA_23 : Fld "BlownByAll$Mass" 23 1 3 := ⟨R_MA, F_MA, 5, t_MA, rfl, by decide, g_MA, t_MA_ok, n_MA, Or.inl (gt_in 187 (by decide +kernel) rfl), rfl⟩
theorem f_BB_161 : Fld "BlownByAll" 161 1 3 := ⟨R_MA, F_MA, 5, t_MA, rfl, by decide, g_MA, t_MA_ok, n_MA, Or.inr ⟨"BlownByAll", ne_in 188 (by decide +kernel) rfl⟩, rfl⟩
theorem f_MA_26 : Fld "BlownByAll$Mass" 26 1 4 := ⟨R_MA, F_MA, 5, t_MA, rfl, by decide, g_MA, t_MA_ok, n_MA, Or.inl (gt_in 189 (by decide +kernel) rfl), rfl⟩
theorem f_BB_164 : Fld "BlownByAll" 164 1 4 := ⟨R_MA, F_MA, 5, t_MA, rfl, by decide, g_MA, t_MA_ok, n_MA, Or.inr ⟨"BlownByAll", ne_in 190 (by decide +kernel) rfl⟩, rfl⟩
theorem f_PH_9 : Fld "BlownByAll$PhasePlan" 9 3 0 := ⟨R_PH, F_PH, 9, t_PH, rfl, by decide, g_PH, t_PH_ok, n_PH, Or.inl (gt_in 208 (by decide +kernel) rfl), rfl⟩
theorem f_PH_15 : Fld "BlownByAll$PhasePlan" 15 3 1 := ⟨R_PH, F_PH, 9, t_PH, rfl, by decide, g_PH, t_PH_ok, n_PH, Or.inl (gt_in 209 (by decide +kernel) rfl), rfl⟩
theorem f_PH_19 : Fld "BlownByAll$PhasePlan" 19 3 2 := ⟨R_PH, F_PH, 9, t_PH, rfl, by decide, g_PH, t_PH_ok, n_PH, Or.inl (gt_in 210 (by decide +kernel) rfl), rfl⟩
theorem f_PH_23 : Fld "BlownByAll$PhasePlan" 23 3 3 := ⟨R_PH, F_PH, 9, t_PH, rfl, by decide, g_PH, t_PH_ok, n_PH, Or.inl (gt_in 211 (by decide +kernel) rfl), rfl⟩
theorem f_PH_26 : Fld "BlownByAll$PhasePlan" 26 3 4 := ⟨R_PH, F_PH, 9, t_PH, rfl, by decide, g_PH, t_PH_ok, n_PH, Or.inl (gt_in 212 (by decide +kernel) rfl), rfl⟩
theorem f_PH_29 : Fld "BlownByAll$PhasePlan" 29 3 5 := ⟨R_PH, F_PH, 9, t_PH, rfl, by decide, g_PH, t_PH_ok, n_PH, Or.inl (gt_in 213 (by decide +kernel) rfl), rfl⟩
theorem f_PH_43 : Fld "BlownByAll$PhasePlan" 43 3 6 := ⟨R_PH, F_PH, 9, t_PH, rfl, by decide, g_PH, t_PH_ok, n_PH, Or.inl (gt_in 214 (by decide +kernel) rfl), rfl⟩
theorem f_PH_70 : Fld "BlownByAll$PhasePlan" 70 3 7 := ⟨R_PH, F_PH, 9, t_PH, rfl, by decide, g_PH, t_PH_ok, n_PH, Or.inl (gt_in 215 (by decide +kernel) rfl), rfl⟩
theorem f_PH_63 : Fld "BlownByAll$PhasePlan" 63 3 8 := ⟨R_PH, F_PH, 9, t_PH, rfl, by decide, g_PH, t_PH_ok, n_PH, Or.inl (gt_in 216 (by decide +kernel) rfl), rfl⟩
theorem f_BB_176 : Fld "BlownByAll" 176 3 8 := ⟨R_PH, F_PH, 9, t_PH, rfl, by decide, g_PH, t_PH_ok, n_PH, Or.inr ⟨"BlownByAll", ne_in 217 (by decide +kernel) rfl⟩, rfl⟩
theorem f_SE_9 : Fld "BlownByAll$SeatPlan" 9 6 0 := ⟨R_SE, F_SE, 5, t_SE, rfl, by decide, g_SE, t_SE_ok, n_SE, Or.inl (gt_in 243 (by decide +kernel) rfl), rfl⟩
theorem f_SE_15 : Fld "BlownByAll$SeatPlan" 15 6 1 := ⟨R_SE, F_SE, 5, t_SE, rfl, by decide, g_SE, t_SE_ok, n_SE, Or.inl (gt_in 244 (by decide +kernel) rfl), rfl⟩
theorem f_SE_19 : Fld "BlownByAll$SeatPlan" 19 6 2 := ⟨R_SE, F_SE, 5, t_SE, rfl, by decide, g_SE, t_SE_ok, n_SE, Or.inl (gt_in 245 (by decide +kernel) rfl), rfl⟩
theorem f_SE_23 : Fld "BlownByAll$SeatPlan" 23 6 3 := ⟨R_SE, F_SE, 5, t_SE, rfl, by decide, g_SE, t_SE_ok, n_SE, Or.inl (gt_in 246 (by decide +kernel) rfl), rfl⟩
theorem f_SE_27 : Fld "BlownByAll$SeatPlan" 27 6 4 := ⟨R_SE, F_SE, 5, t_SE, rfl, by decide, g_SE, t_SE_ok, n_SE, Or.inl (gt_in 247 (by decide +kernel) rfl), rfl⟩
theorem f_BP_9 : Fld "BlownByAll$BribePlan" 9 0 0 := ⟨R_BP, F_BP, 6, t_BP, rfl, by decide, g_BP, t_BP_ok, n_BP, Or.inl (gt_in 265 (by decide +kernel) rfl), rfl⟩
theorem f_BP_15 : Fld "BlownByAll$BribePlan" 15 0 1 := ⟨R_BP, F_BP, 6, t_BP, rfl, by decide, g_BP, t_BP_ok, n_BP, Or.inl (gt_in 266 (by decide +kernel) rfl), rfl⟩
theorem f_BP_19 : Fld "BlownByAll$BribePlan" 19 0 2 := ⟨R_BP, F_BP, 6, t_BP, rfl, by decide, g_BP, t_BP_ok, n_BP, Or.inl (gt_in 267 (by decide +kernel) rfl), rfl⟩
theorem f_BP_29 : Fld "BlownByAll$BribePlan" 29 0 3 := ⟨R_BP, F_BP, 6, t_BP, rfl, by decide, g_BP, t_BP_ok, n_BP, Or.inl (gt_in 268 (by decide +kernel) rfl), rfl⟩
theorem f_BP_33 : Fld "BlownByAll$BribePlan" 33 0 4 := ⟨R_BP, F_BP, 6, t_BP, rfl, by decide, g_BP, t_BP_ok, n_BP, Or.inl (gt_in 269 (by decide +kernel) rfl), rfl⟩
theorem f_BP_36 : Fld "BlownByAll$BribePlan" 36 0 5 := ⟨R_BP, F_BP, 6, t_BP, rfl, by decide, g_BP, t_BP_ok, n_BP, Or.inl (gt_in 270 (by decide +kernel) rfl), rfl⟩
theorem f_SN_9 : Fld "BlownByAll$Sneezes" 9 7 0 := ⟨R_SN, F_SN, 6, t_SN, rfl, by decide, g_SN, t_SN_ok, n_SN, Or.inl (gt_in 290 (by decide +kernel) rfl), rfl⟩
theorem f_SN_15 : Fld "BlownByAll$Sneezes" 15 7 1 := ⟨R_SN, F_SN, 6, t_SN, rfl, by decide, g_SN, t_SN_ok, n_SN, Or.inl (gt_in 291 (by decide +kernel) rfl), rfl⟩
theorem f_SN_19 : Fld "BlownByAll$Sneezes" 19 7 2 := ⟨R_SN, F_SN, 6, t_SN, rfl, by decide, g_SN, t_SN_ok, n_SN, Or.inl (gt_in 292 (by decide +kernel) rfl), rfl⟩
theorem f_SN_33 : Fld "BlownByAll$Sneezes" 33 7 3 := ⟨R_SN, F_SN, 6, t_SN, rfl, by decide, g_SN, t_SN_ok, n_SN, Or.inl (gt_in 293 (by decide +kernel) rfl), rfl⟩
theorem f_SN_71 : Fld "BlownByAll$Sneezes" 71 7 4 := ⟨R_SN, F_SN, 6, t_SN, rfl, by decide, g_SN, t_SN_ok, n_SN, Or.inl (gt_in 294 (by decide +kernel) rfl), rfl⟩
theorem f_BB_209 : Fld "BlownByAll" 209 7 4 := ⟨R_SN, F_SN, 6, t_SN, rfl, by decide, g_SN, t_SN_ok, n_SN, Or.inr ⟨"BlownByAll", ne_in 295 (by decide +kernel) rfl⟩, rfl⟩
theorem f_SN_74 : Fld "BlownByAll$Sneezes" 74 7 5 := ⟨R_SN, F_SN, 6, t_SN, rfl, by decide, g_SN, t_SN_ok, n_SN, Or.inl (gt_in 296 (by decide +kernel) rfl), rfl⟩
theorem f_BB_213 : Fld "BlownByAll" 213 7 5 := ⟨R_SN, F_SN, 6, t_SN, rfl, by decide, g_SN, t_SN_ok, n_SN, Or.inr ⟨"BlownByAll", ne_in 297 (by decide +kernel) rfl⟩, rfl⟩
theorem f_BB_10 : Fld "BlownByAll" 10 8 0 := ⟨R_BB, F_BB, 10, t_BB, rfl, by decide, g_BB, t_BB_ok, n_BB, Or.inl (gt_in 313 (by decide +kernel) rfl), rfl⟩
theorem f_BB_19 : Fld "BlownByAll" 19 8 1 := ⟨R_BB, F_BB, 10, t_BB, rfl, by decide, g_BB, t_BB_ok, n_BB, Or.inl (gt_in 314 (by decide +kernel) rfl), rfl⟩
theorem f_BB_26 : Fld "BlownByAll" 26 8 2 := ⟨R_BB, F_BB, 10, t_BB, rfl, by decide, g_BB, t_BB_ok, n_BB, Or.inl (gt_in 315 (by decide +kernel) rfl), rfl⟩
theorem f_BB_35 : Fld "BlownByAll" 35 8 3 := ⟨R_BB, F_BB, 10, t_BB, rfl, by decide, g_BB, t_BB_ok, n_BB, Or.inl (gt_in 316 (by decide +kernel) rfl), rfl⟩
theorem f_BB_44 : Fld "BlownByAll" 44 8 4 := ⟨R_BB, F_BB, 10, t_BB, rfl, by decide, g_BB, t_BB_ok, n_BB, Or.inl (gt_in 317 (by decide +kernel) rfl), rfl⟩
theorem f_BB_53 : Fld "BlownByAll" 53 8 5 := ⟨R_BB, F_BB, 10, t_BB, rfl, by decide, g_BB, t_BB_ok, n_BB, Or.inl (gt_in 318 (by decide +kernel) rfl), rfl⟩
theorem f_BB_60 : Fld "BlownByAll" 60 8 6 := ⟨R_BB, F_BB, 10, t_BB, rfl, by decide, g_BB, t_BB_ok, n_BB, Or.inl (gt_in 319 (by decide +kernel) rfl), rfl⟩
theorem f_BB_67 : Fld "BlownByAll" 67 8 7 := ⟨R_BB, F_BB, 10, t_BB, rfl, by decide, g_BB, t_BB_ok, n_BB, Or.inl (gt_in 320 (by decide +kernel) rfl), rfl⟩
theorem f_BB_71 : Fld "BlownByAll" 71 8 8 := ⟨R_BB, F_BB, 10, t_BB, rfl, by decide, g_BB, t_BB_ok, n_BB, Or.inl (gt_in 321 (by decide +kernel) rfl), rfl⟩
theorem f_BB_75 : Fld "BlownByAll" 75 8 9 := ⟨R_BB, F_BB, 10, t_BB, rfl, by decide, g_BB, t_BB_ok, n_BB, Or.inl (gt_in 322 (by decide +kernel) rfl), rfl⟩
theorem fs_SE_64 : Cond.fieldLink "BlownByAll$SeatPlan" 64 "BlownByAll$SeatPlan" "FIGURE_OF" "[I" ∈ gtbl := gt_in 640 (by decide +kernel) rfl
theorem f_MO_7 : Fld "BlownByAllModel" 7 9 0 := ⟨R_MO, F_MO, 31, t_MO, rfl, by decide, g_MO, t_MO_ok, n_MO, Or.inl (gt_in 763 (by decide +kernel) rfl), rfl⟩
theorem f_MO_13 : Fld "BlownByAllModel" 13 9 1 := ⟨R_MO, F_MO, 31, t_MO, rfl, by decide, g_MO, t_MO_ok, n_MO, Or.inl (gt_in 764 (by decide +kernel) rfl), rfl⟩
theorem f_MO_16 : Fld "BlownByAllModel" 16 9 2 := ⟨R_MO, F_MO, 31, t_MO, rfl, by decide, g_MO, t_MO_ok, n_MO, Or.inl (gt_in 765 (by decide +kernel) rfl), rfl⟩
theorem f_MO_99 : Fld "BlownByAllModel" 99 9 3 := ⟨R_MO, F_MO, 31, t_MO, rfl, by decide, g_MO, t_MO_ok, n_MO, Or.inl (gt_in 766 (by decide +kernel) rfl), rfl⟩
theorem f_MO_102 : Fld "BlownByAllModel" 102 9 4 := ⟨R_MO, F_MO, 31, t_MO, rfl, by decide, g_MO, t_MO_ok, n_MO, Or.inl (gt_in 767 (by decide +kernel) rfl), rfl⟩
theorem f_MO_105 : Fld "BlownByAllModel" 105 9 5 := ⟨R_MO, F_MO, 31, t_MO, rfl, by decide, g_MO, t_MO_ok, n_MO, Or.inl (gt_in 768 (by decide +kernel) rfl), rfl⟩
theorem f_MO_19 : Fld "BlownByAllModel" 19 9 6 := ⟨R_MO, F_MO, 31, t_MO, rfl, by decide, g_MO, t_MO_ok, n_MO, Or.inl (gt_in 769 (by decide +kernel) rfl), rfl⟩
theorem f_MO_22 : Fld "BlownByAllModel" 22 9 7 := ⟨R_MO, F_MO, 31, t_MO, rfl, by decide, g_MO, t_MO_ok, n_MO, Or.inl (gt_in 770 (by decide +kernel) rfl), rfl⟩
theorem f_MO_25 : Fld "BlownByAllModel" 25 9 8 := ⟨R_MO, F_MO, 31, t_MO, rfl, by decide, g_MO, t_MO_ok, n_MO, Or.inl (gt_in 771 (by decide +kernel) rfl), rfl⟩
theorem f_MO_69 : Fld "BlownByAllModel" 69 9 9 := ⟨R_MO, F_MO, 31, t_MO, rfl, by decide, g_MO, t_MO_ok, n_MO, Or.inl (gt_in 772 (by decide +kernel) rfl), rfl⟩
theorem f_MO_123 : Fld "BlownByAllModel" 123 9 10 := ⟨R_MO, F_MO, 31, t_MO, rfl, by decide, g_MO, t_MO_ok, n_MO, Or.inl (gt_in 773 (by decide +kernel) rfl), rfl⟩
theorem f_MO_126 : Fld "BlownByAllModel" 126 9 11 := ⟨R_MO, F_MO, 31, t_MO, rfl, by decide, g_MO, t_MO_ok, n_MO, Or.inl (gt_in 774 (by decide +kernel) rfl), rfl⟩
theorem f_MO_129 : Fld "BlownByAllModel" 129 9 12 := ⟨R_MO, F_MO, 31, t_MO, rfl, by decide, g_MO, t_MO_ok, n_MO, Or.inl (gt_in 775 (by decide +kernel) rfl), rfl⟩
theorem f_MO_132 : Fld "BlownByAllModel" 132 9 13 := ⟨R_MO, F_MO, 31, t_MO, rfl, by decide, g_MO, t_MO_ok, n_MO, Or.inl (gt_in 776 (by decide +kernel) rfl), rfl⟩
theorem f_MO_28 : Fld "BlownByAllModel" 28 9 14 := ⟨R_MO, F_MO, 31, t_MO, rfl, by decide, g_MO, t_MO_ok, n_MO, Or.inl (gt_in 777 (by decide +kernel) rfl), rfl⟩
theorem f_MO_79 : Fld "BlownByAllModel" 79 9 15 := ⟨R_MO, F_MO, 31, t_MO, rfl, by decide, g_MO, t_MO_ok, n_MO, Or.inl (gt_in 778 (by decide +kernel) rfl), rfl⟩
theorem f_MO_87 : Fld "BlownByAllModel" 87 9 16 := ⟨R_MO, F_MO, 31, t_MO, rfl, by decide, g_MO, t_MO_ok, n_MO, Or.inl (gt_in 779 (by decide +kernel) rfl), rfl⟩
theorem f_MO_84 : Fld "BlownByAllModel" 84 9 17 := ⟨R_MO, F_MO, 31, t_MO, rfl, by decide, g_MO, t_MO_ok, n_MO, Or.inl (gt_in 780 (by decide +kernel) rfl), rfl⟩
theorem f_MO_31 : Fld "BlownByAllModel" 31 9 18 := ⟨R_MO, F_MO, 31, t_MO, rfl, by decide, g_MO, t_MO_ok, n_MO, Or.inl (gt_in 781 (by decide +kernel) rfl), rfl⟩
theorem f_MO_34 : Fld "BlownByAllModel" 34 9 19 := ⟨R_MO, F_MO, 31, t_MO, rfl, by decide, g_MO, t_MO_ok, n_MO, Or.inl (gt_in 782 (by decide +kernel) rfl), rfl⟩
theorem f_MO_37 : Fld "BlownByAllModel" 37 9 20 := ⟨R_MO, F_MO, 31, t_MO, rfl, by decide, g_MO, t_MO_ok, n_MO, Or.inl (gt_in 783 (by decide +kernel) rfl), rfl⟩
theorem f_MO_40 : Fld "BlownByAllModel" 40 9 21 := ⟨R_MO, F_MO, 31, t_MO, rfl, by decide, g_MO, t_MO_ok, n_MO, Or.inl (gt_in 784 (by decide +kernel) rfl), rfl⟩
theorem f_MO_43 : Fld "BlownByAllModel" 43 9 22 := ⟨R_MO, F_MO, 31, t_MO, rfl, by decide, g_MO, t_MO_ok, n_MO, Or.inl (gt_in 785 (by decide +kernel) rfl), rfl⟩
theorem f_MO_46 : Fld "BlownByAllModel" 46 9 23 := ⟨R_MO, F_MO, 31, t_MO, rfl, by decide, g_MO, t_MO_ok, n_MO, Or.inl (gt_in 786 (by decide +kernel) rfl), rfl⟩
theorem f_MO_49 : Fld "BlownByAllModel" 49 9 24 := ⟨R_MO, F_MO, 31, t_MO, rfl, by decide, g_MO, t_MO_ok, n_MO, Or.inl (gt_in 787 (by decide +kernel) rfl), rfl⟩
theorem f_MO_52 : Fld "BlownByAllModel" 52 9 25 := ⟨R_MO, F_MO, 31, t_MO, rfl, by decide, g_MO, t_MO_ok, n_MO, Or.inl (gt_in 788 (by decide +kernel) rfl), rfl⟩
theorem f_MO_55 : Fld "BlownByAllModel" 55 9 26 := ⟨R_MO, F_MO, 31, t_MO, rfl, by decide, g_MO, t_MO_ok, n_MO, Or.inl (gt_in 789 (by decide +kernel) rfl), rfl⟩
theorem f_MO_184 : Fld "BlownByAllModel" 184 9 27 := ⟨R_MO, F_MO, 31, t_MO, rfl, by decide, g_MO, t_MO_ok, n_MO, Or.inl (gt_in 790 (by decide +kernel) rfl), rfl⟩
theorem f_MO_59 : Fld "BlownByAllModel" 59 9 28 := ⟨R_MO, F_MO, 31, t_MO, rfl, by decide, g_MO, t_MO_ok, n_MO, Or.inl (gt_in 791 (by decide +kernel) rfl), rfl⟩
theorem f_MO_63 : Fld "BlownByAllModel" 63 9 29 := ⟨R_MO, F_MO, 31, t_MO, rfl, by decide, g_MO, t_MO_ok, n_MO, Or.inl (gt_in 792 (by decide +kernel) rfl), rfl⟩
theorem f_MO_66 : Fld "BlownByAllModel" 66 9 30 := ⟨R_MO, F_MO, 31, t_MO, rfl, by decide, g_MO, t_MO_ok, n_MO, Or.inl (gt_in 793 (by decide +kernel) rfl), rfl⟩
theorem pk_BP_3 : putOk 0 3 .int := putOk_of (C := R_BP) (T := F_BP) (N := 6) rfl rfl (by decide +kernel)
theorem pk_BP_4 : putOk 0 4 .int := putOk_of (C := R_BP) (T := F_BP) (N := 6) rfl rfl (by decide +kernel)
theorem pk_BP_5 : putOk 0 5 .int := putOk_of (C := R_BP) (T := F_BP) (N := 6) rfl rfl (by decide +kernel)
theorem pk_PE_0 : putOk 2 0 .int := putOk_of (C := R_PE) (T := F_PE) (N := 8) rfl rfl (by decide +kernel)
theorem pk_PE_1 : putOk 2 1 .int := putOk_of (C := R_PE) (T := F_PE) (N := 8) rfl rfl (by decide +kernel)
theorem pk_PE_2 : putOk 2 2 .int := putOk_of (C := R_PE) (T := F_PE) (N := 8) rfl rfl (by decide +kernel)
theorem pk_PH_6 : putOk 3 6 .int := putOk_of (C := R_PH) (T := F_PH) (N := 9) rfl rfl (by decide +kernel)
theorem pk_PH_7 : putOk 3 7 .int := putOk_of (C := R_PH) (T := F_PH) (N := 9) rfl rfl (by decide +kernel)
theorem pk_PH_8 : putOk 3 8 .int := putOk_of (C := R_PH) (T := F_PH) (N := 9) rfl rfl (by decide +kernel)
theorem pk_PI_0 : putOk 4 0 .int := putOk_of (C := R_PI) (T := F_PI) (N := 4) rfl rfl (by decide +kernel)
theorem pk_PI_1 : putOk 4 1 .int := putOk_of (C := R_PI) (T := F_PI) (N := 4) rfl rfl (by decide +kernel)
theorem pk_SC_1 : putOk 5 1 .int := putOk_of (C := R_SC) (T := F_SC) (N := 6) rfl rfl (by decide +kernel)
theorem pk_SC_2 : putOk 5 2 .int := putOk_of (C := R_SC) (T := F_SC) (N := 6) rfl rfl (by decide +kernel)
theorem pk_SC_3 : putOk 5 3 .int := putOk_of (C := R_SC) (T := F_SC) (N := 6) rfl rfl (by decide +kernel)
theorem pk_SC_4 : putOk 5 4 .int := putOk_of (C := R_SC) (T := F_SC) (N := 6) rfl rfl (by decide +kernel)
theorem pk_SC_5 : putOk 5 5 .int := putOk_of (C := R_SC) (T := F_SC) (N := 6) rfl rfl (by decide +kernel)
theorem pk_SN_3 : putOk 7 3 .long := putOk_of (C := R_SN) (T := F_SN) (N := 6) rfl rfl (by decide +kernel)
theorem pk_SN_4 : putOk 7 4 .long := putOk_of (C := R_SN) (T := F_SN) (N := 6) rfl rfl (by decide +kernel)
theorem pk_SN_5 : putOk 7 5 .long := putOk_of (C := R_SN) (T := F_SN) (N := 6) rfl rfl (by decide +kernel)
theorem pk_MO_3 : putOk 9 3 .int := putOk_of (C := R_MO) (T := F_MO) (N := 31) rfl rfl (by decide +kernel)
theorem pk_MO_4 : putOk 9 4 .int := putOk_of (C := R_MO) (T := F_MO) (N := 31) rfl rfl (by decide +kernel)
theorem pk_MO_5 : putOk 9 5 .int := putOk_of (C := R_MO) (T := F_MO) (N := 31) rfl rfl (by decide +kernel)
theorem pk_MO_9 : putOk 9 9 .int := putOk_of (C := R_MO) (T := F_MO) (N := 31) rfl rfl (by decide +kernel)
theorem pk_MO_10 : putOk 9 10 .int := putOk_of (C := R_MO) (T := F_MO) (N := 31) rfl rfl (by decide +kernel)
theorem pk_MO_11 : putOk 9 11 .int := putOk_of (C := R_MO) (T := F_MO) (N := 31) rfl rfl (by decide +kernel)
theorem pk_MO_12 : putOk 9 12 .int := putOk_of (C := R_MO) (T := F_MO) (N := 31) rfl rfl (by decide +kernel)
theorem pk_MO_13 : putOk 9 13 .int := putOk_of (C := R_MO) (T := F_MO) (N := 31) rfl rfl (by decide +kernel)
theorem pk_MO_15 : putOk 9 15 .int := putOk_of (C := R_MO) (T := F_MO) (N := 31) rfl rfl (by decide +kernel)
theorem pk_MO_16 : putOk 9 16 .int := putOk_of (C := R_MO) (T := F_MO) (N := 31) rfl rfl (by decide +kernel)
theorem pk_MO_17 : putOk 9 17 .int := putOk_of (C := R_MO) (T := F_MO) (N := 31) rfl rfl (by decide +kernel)
theorem pk_MO_27 : putOk 9 27 .long := putOk_of (C := R_MO) (T := F_MO) (N := 31) rfl rfl (by decide +kernel)
theorem kc_BB_write : Cond.instanceMethod M_BB_write.1 ∈ gtbl ∧ Cond.selects M_BB_write.1.cls M_BB_write.1 M_BB_write.1 ∈ gtbl ∧ Cond.initialized M_BB_write.1.cls ∈ gtbl ∧ Cond.code M_BB_write.1 M_BB_write.2.1 M_BB_write.2.2.1 M_BB_write.2.2.2 ∈ gtbl ∧ (M_BB_write.1.cls ≠ "java/lang/invoke/MethodHandle" ∧ M_BB_write.1.cls ≠ "java/lang/invoke/VarHandle" ∧ (parseMethodDescriptor M_BB_write.1.desc).map (fun d => d.parameters.length) = some 2) ∧ M_BB_write.2.2.1 ≤ 45 := ⟨gt_in 345 (by decide +kernel) rfl, gt_in 346 (by decide +kernel) rfl, gt_in 41 (by decide +kernel) rfl, gt_in 347 (by decide +kernel) rfl, ⟨by decide, by decide, by decide +kernel⟩, by decide⟩
theorem k_LW_15 : CallV "BlownByAllLaw" 15 M_BB_write 2 := ⟨gt_in 344 (by decide +kernel) rfl, kc_BB_write⟩
theorem kc_SC_hasRoom : Cond.instanceMethod M_SC_hasRoom.1 ∈ gtbl ∧ Cond.selects M_SC_hasRoom.1.cls M_SC_hasRoom.1 M_SC_hasRoom.1 ∈ gtbl ∧ Cond.initialized M_SC_hasRoom.1.cls ∈ gtbl ∧ Cond.code M_SC_hasRoom.1 M_SC_hasRoom.2.1 M_SC_hasRoom.2.2.1 M_SC_hasRoom.2.2.2 ∈ gtbl ∧ (M_SC_hasRoom.1.cls ≠ "java/lang/invoke/MethodHandle" ∧ M_SC_hasRoom.1.cls ≠ "java/lang/invoke/VarHandle" ∧ (parseMethodDescriptor M_SC_hasRoom.1.desc).map (fun d => d.parameters.length) = some 1) ∧ M_SC_hasRoom.2.2.1 ≤ 45 := ⟨gt_in 349 (by decide +kernel) rfl, gt_in 350 (by decide +kernel) rfl, gt_in 42 (by decide +kernel) rfl, gt_in 351 (by decide +kernel) rfl, ⟨by decide, by decide, by decide +kernel⟩, by decide⟩
theorem k_BB_79 : CallV "BlownByAll" 79 M_SC_hasRoom 1 := ⟨gt_in 348 (by decide +kernel) rfl, kc_SC_hasRoom⟩
theorem kc_SC_append : Cond.instanceMethod M_SC_append.1 ∈ gtbl ∧ Cond.selects M_SC_append.1.cls M_SC_append.1 M_SC_append.1 ∈ gtbl ∧ Cond.initialized M_SC_append.1.cls ∈ gtbl ∧ Cond.code M_SC_append.1 M_SC_append.2.1 M_SC_append.2.2.1 M_SC_append.2.2.2 ∈ gtbl ∧ (M_SC_append.1.cls ≠ "java/lang/invoke/MethodHandle" ∧ M_SC_append.1.cls ≠ "java/lang/invoke/VarHandle" ∧ (parseMethodDescriptor M_SC_append.1.desc).map (fun d => d.parameters.length) = some 2) ∧ M_SC_append.2.2.1 ≤ 45 := ⟨gt_in 353 (by decide +kernel) rfl, gt_in 354 (by decide +kernel) rfl, gt_in 42 (by decide +kernel) rfl, gt_in 355 (by decide +kernel) rfl, ⟨by decide, by decide, by decide +kernel⟩, by decide⟩
theorem k_BB_83 : CallV "BlownByAll" 83 M_SC_append 2 := ⟨gt_in 352 (by decide +kernel) rfl, kc_SC_append⟩
theorem kc_BB_wipe : Cond.instanceMethod M_BB_wipe.1 ∈ gtbl ∧ Cond.selects M_BB_wipe.1.cls M_BB_wipe.1 M_BB_wipe.1 ∈ gtbl ∧ Cond.initialized M_BB_wipe.1.cls ∈ gtbl ∧ Cond.code M_BB_wipe.1 M_BB_wipe.2.1 M_BB_wipe.2.2.1 M_BB_wipe.2.2.2 ∈ gtbl ∧ (M_BB_wipe.1.cls ≠ "java/lang/invoke/MethodHandle" ∧ M_BB_wipe.1.cls ≠ "java/lang/invoke/VarHandle" ∧ (parseMethodDescriptor M_BB_wipe.1.desc).map (fun d => d.parameters.length) = some 0) ∧ M_BB_wipe.2.2.1 ≤ 45 := ⟨gt_in 357 (by decide +kernel) rfl, gt_in 358 (by decide +kernel) rfl, gt_in 41 (by decide +kernel) rfl, gt_in 359 (by decide +kernel) rfl, ⟨by decide, by decide, by decide +kernel⟩, by decide⟩
theorem k_LW_20 : CallV "BlownByAllLaw" 20 M_BB_wipe 0 := ⟨gt_in 356 (by decide +kernel) rfl, kc_BB_wipe⟩
theorem kc_SC_clear : Cond.instanceMethod M_SC_clear.1 ∈ gtbl ∧ Cond.selects M_SC_clear.1.cls M_SC_clear.1 M_SC_clear.1 ∈ gtbl ∧ Cond.initialized M_SC_clear.1.cls ∈ gtbl ∧ Cond.code M_SC_clear.1 M_SC_clear.2.1 M_SC_clear.2.2.1 M_SC_clear.2.2.2 ∈ gtbl ∧ (M_SC_clear.1.cls ≠ "java/lang/invoke/MethodHandle" ∧ M_SC_clear.1.cls ≠ "java/lang/invoke/VarHandle" ∧ (parseMethodDescriptor M_SC_clear.1.desc).map (fun d => d.parameters.length) = some 0) ∧ M_SC_clear.2.2.1 ≤ 45 := ⟨gt_in 361 (by decide +kernel) rfl, gt_in 362 (by decide +kernel) rfl, gt_in 42 (by decide +kernel) rfl, gt_in 363 (by decide +kernel) rfl, ⟨by decide, by decide, by decide +kernel⟩, by decide⟩
theorem k_BB_87 : CallV "BlownByAll" 87 M_SC_clear 0 := ⟨gt_in 360 (by decide +kernel) rfl, kc_SC_clear⟩
theorem kc_BB_fault : Cond.instanceMethod M_BB_fault.1 ∈ gtbl ∧ Cond.selects M_BB_fault.1.cls M_BB_fault.1 M_BB_fault.1 ∈ gtbl ∧ Cond.initialized M_BB_fault.1.cls ∈ gtbl ∧ Cond.code M_BB_fault.1 M_BB_fault.2.1 M_BB_fault.2.2.1 M_BB_fault.2.2.2 ∈ gtbl ∧ (M_BB_fault.1.cls ≠ "java/lang/invoke/MethodHandle" ∧ M_BB_fault.1.cls ≠ "java/lang/invoke/VarHandle" ∧ (parseMethodDescriptor M_BB_fault.1.desc).map (fun d => d.parameters.length) = some 0) ∧ M_BB_fault.2.2.1 ≤ 45 := ⟨gt_in 365 (by decide +kernel) rfl, gt_in 366 (by decide +kernel) rfl, gt_in 41 (by decide +kernel) rfl, gt_in 367 (by decide +kernel) rfl, ⟨by decide, by decide, by decide +kernel⟩, by decide⟩
theorem k_LW_25 : CallV "BlownByAllLaw" 25 M_BB_fault 0 := ⟨gt_in 364 (by decide +kernel) rfl, kc_BB_fault⟩
theorem kc_SC_read : Cond.instanceMethod M_SC_read.1 ∈ gtbl ∧ Cond.selects M_SC_read.1.cls M_SC_read.1 M_SC_read.1 ∈ gtbl ∧ Cond.initialized M_SC_read.1.cls ∈ gtbl ∧ Cond.code M_SC_read.1 M_SC_read.2.1 M_SC_read.2.2.1 M_SC_read.2.2.2 ∈ gtbl ∧ (M_SC_read.1.cls ≠ "java/lang/invoke/MethodHandle" ∧ M_SC_read.1.cls ≠ "java/lang/invoke/VarHandle" ∧ (parseMethodDescriptor M_SC_read.1.desc).map (fun d => d.parameters.length) = some 0) ∧ M_SC_read.2.2.1 ≤ 45 := ⟨gt_in 369 (by decide +kernel) rfl, gt_in 370 (by decide +kernel) rfl, gt_in 42 (by decide +kernel) rfl, gt_in 371 (by decide +kernel) rfl, ⟨by decide, by decide, by decide +kernel⟩, by decide⟩
theorem k_BB_91 : CallV "BlownByAll" 91 M_SC_read 0 := ⟨gt_in 368 (by decide +kernel) rfl, kc_SC_read⟩
theorem kc_SC_takeSign : Cond.instanceMethod M_SC_takeSign.1 ∈ gtbl ∧ Cond.selects M_SC_takeSign.1.cls M_SC_takeSign.1 M_SC_takeSign.1 ∈ gtbl ∧ Cond.initialized M_SC_takeSign.1.cls ∈ gtbl ∧ Cond.code M_SC_takeSign.1 M_SC_takeSign.2.1 M_SC_takeSign.2.2.1 M_SC_takeSign.2.2.2 ∈ gtbl ∧ (M_SC_takeSign.1.cls ≠ "java/lang/invoke/MethodHandle" ∧ M_SC_takeSign.1.cls ≠ "java/lang/invoke/VarHandle" ∧ (parseMethodDescriptor M_SC_takeSign.1.desc).map (fun d => d.parameters.length) = some 1) ∧ M_SC_takeSign.2.2.1 ≤ 45 := ⟨gt_in 374 (by decide +kernel) rfl, gt_in 0 (by decide +kernel) rfl, gt_in 42 (by decide +kernel) rfl, gt_in 375 (by decide +kernel) rfl, ⟨by decide, by decide, by decide +kernel⟩, by decide⟩
theorem k_SC_31 : CallV "BlownByAll$Script" 31 M_SC_takeSign 1 := ⟨gt_in 372 (by decide +kernel) rfl, kc_SC_takeSign⟩
theorem kc_SC_signAt : Cond.instanceMethod M_SC_signAt.1 ∈ gtbl ∧ Cond.selects M_SC_signAt.1.cls M_SC_signAt.1 M_SC_signAt.1 ∈ gtbl ∧ Cond.initialized M_SC_signAt.1.cls ∈ gtbl ∧ Cond.code M_SC_signAt.1 M_SC_signAt.2.1 M_SC_signAt.2.2.1 M_SC_signAt.2.2.2 ∈ gtbl ∧ (M_SC_signAt.1.cls ≠ "java/lang/invoke/MethodHandle" ∧ M_SC_signAt.1.cls ≠ "java/lang/invoke/VarHandle" ∧ (parseMethodDescriptor M_SC_signAt.1.desc).map (fun d => d.parameters.length) = some 1) ∧ M_SC_signAt.2.2.1 ≤ 45 := ⟨gt_in 378 (by decide +kernel) rfl, gt_in 1 (by decide +kernel) rfl, gt_in 42 (by decide +kernel) rfl, gt_in 379 (by decide +kernel) rfl, ⟨by decide, by decide, by decide +kernel⟩, by decide⟩
theorem k_SC_45 : CallV "BlownByAll$Script" 45 M_SC_signAt 1 := ⟨gt_in 376 (by decide +kernel) rfl, kc_SC_signAt⟩
theorem kc_SC_takePipes : Cond.instanceMethod M_SC_takePipes.1 ∈ gtbl ∧ Cond.selects M_SC_takePipes.1.cls M_SC_takePipes.1 M_SC_takePipes.1 ∈ gtbl ∧ Cond.initialized M_SC_takePipes.1.cls ∈ gtbl ∧ Cond.code M_SC_takePipes.1 M_SC_takePipes.2.1 M_SC_takePipes.2.2.1 M_SC_takePipes.2.2.2 ∈ gtbl ∧ (M_SC_takePipes.1.cls ≠ "java/lang/invoke/MethodHandle" ∧ M_SC_takePipes.1.cls ≠ "java/lang/invoke/VarHandle" ∧ (parseMethodDescriptor M_SC_takePipes.1.desc).map (fun d => d.parameters.length) = some 0) ∧ M_SC_takePipes.2.2.1 ≤ 45 := ⟨gt_in 382 (by decide +kernel) rfl, gt_in 2 (by decide +kernel) rfl, gt_in 42 (by decide +kernel) rfl, gt_in 383 (by decide +kernel) rfl, ⟨by decide, by decide, by decide +kernel⟩, by decide⟩
theorem k_SC_35 : CallV "BlownByAll$Script" 35 M_SC_takePipes 0 := ⟨gt_in 380 (by decide +kernel) rfl, kc_SC_takePipes⟩
theorem kc_SC_takeFigure : Cond.instanceMethod M_SC_takeFigure.1 ∈ gtbl ∧ Cond.selects M_SC_takeFigure.1.cls M_SC_takeFigure.1 M_SC_takeFigure.1 ∈ gtbl ∧ Cond.initialized M_SC_takeFigure.1.cls ∈ gtbl ∧ Cond.code M_SC_takeFigure.1 M_SC_takeFigure.2.1 M_SC_takeFigure.2.2.1 M_SC_takeFigure.2.2.2 ∈ gtbl ∧ (M_SC_takeFigure.1.cls ≠ "java/lang/invoke/MethodHandle" ∧ M_SC_takeFigure.1.cls ≠ "java/lang/invoke/VarHandle" ∧ (parseMethodDescriptor M_SC_takeFigure.1.desc).map (fun d => d.parameters.length) = some 2) ∧ M_SC_takeFigure.2.2.1 ≤ 45 := ⟨gt_in 386 (by decide +kernel) rfl, gt_in 3 (by decide +kernel) rfl, gt_in 42 (by decide +kernel) rfl, gt_in 387 (by decide +kernel) rfl, ⟨by decide, by decide, by decide +kernel⟩, by decide⟩
theorem k_SC_52 : CallV "BlownByAll$Script" 52 M_SC_takeFigure 2 := ⟨gt_in 384 (by decide +kernel) rfl, kc_SC_takeFigure⟩
theorem kc_SC_figureAt : Cond.instanceMethod M_SC_figureAt.1 ∈ gtbl ∧ Cond.selects M_SC_figureAt.1.cls M_SC_figureAt.1 M_SC_figureAt.1 ∈ gtbl ∧ Cond.initialized M_SC_figureAt.1.cls ∈ gtbl ∧ Cond.code M_SC_figureAt.1 M_SC_figureAt.2.1 M_SC_figureAt.2.2.1 M_SC_figureAt.2.2.2 ∈ gtbl ∧ (M_SC_figureAt.1.cls ≠ "java/lang/invoke/MethodHandle" ∧ M_SC_figureAt.1.cls ≠ "java/lang/invoke/VarHandle" ∧ (parseMethodDescriptor M_SC_figureAt.1.desc).map (fun d => d.parameters.length) = some 1) ∧ M_SC_figureAt.2.2.1 ≤ 45 := ⟨gt_in 390 (by decide +kernel) rfl, gt_in 4 (by decide +kernel) rfl, gt_in 42 (by decide +kernel) rfl, gt_in 391 (by decide +kernel) rfl, ⟨by decide, by decide, by decide +kernel⟩, by decide⟩
theorem k_SC_49 : CallV "BlownByAll$Script" 49 M_SC_figureAt 1 := ⟨gt_in 388 (by decide +kernel) rfl, kc_SC_figureAt⟩
theorem kc_SC_takePeople : Cond.instanceMethod M_SC_takePeople.1 ∈ gtbl ∧ Cond.selects M_SC_takePeople.1.cls M_SC_takePeople.1 M_SC_takePeople.1 ∈ gtbl ∧ Cond.initialized M_SC_takePeople.1.cls ∈ gtbl ∧ Cond.code M_SC_takePeople.1 M_SC_takePeople.2.1 M_SC_takePeople.2.2.1 M_SC_takePeople.2.2.2 ∈ gtbl ∧ (M_SC_takePeople.1.cls ≠ "java/lang/invoke/MethodHandle" ∧ M_SC_takePeople.1.cls ≠ "java/lang/invoke/VarHandle" ∧ (parseMethodDescriptor M_SC_takePeople.1.desc).map (fun d => d.parameters.length) = some 0) ∧ M_SC_takePeople.2.2.1 ≤ 45 := ⟨gt_in 394 (by decide +kernel) rfl, gt_in 5 (by decide +kernel) rfl, gt_in 42 (by decide +kernel) rfl, gt_in 395 (by decide +kernel) rfl, ⟨by decide, by decide, by decide +kernel⟩, by decide⟩
theorem k_SC_39 : CallV "BlownByAll$Script" 39 M_SC_takePeople 0 := ⟨gt_in 392 (by decide +kernel) rfl, kc_SC_takePeople⟩
theorem kc_SC_takeHymn : Cond.instanceMethod M_SC_takeHymn.1 ∈ gtbl ∧ Cond.selects M_SC_takeHymn.1.cls M_SC_takeHymn.1 M_SC_takeHymn.1 ∈ gtbl ∧ Cond.initialized M_SC_takeHymn.1.cls ∈ gtbl ∧ Cond.code M_SC_takeHymn.1 M_SC_takeHymn.2.1 M_SC_takeHymn.2.2.1 M_SC_takeHymn.2.2.2 ∈ gtbl ∧ (M_SC_takeHymn.1.cls ≠ "java/lang/invoke/MethodHandle" ∧ M_SC_takeHymn.1.cls ≠ "java/lang/invoke/VarHandle" ∧ (parseMethodDescriptor M_SC_takeHymn.1.desc).map (fun d => d.parameters.length) = some 0) ∧ M_SC_takeHymn.2.2.1 ≤ 45 := ⟨gt_in 398 (by decide +kernel) rfl, gt_in 6 (by decide +kernel) rfl, gt_in 42 (by decide +kernel) rfl, gt_in 399 (by decide +kernel) rfl, ⟨by decide, by decide, by decide +kernel⟩, by decide⟩
theorem k_SC_42 : CallV "BlownByAll$Script" 42 M_SC_takeHymn 0 := ⟨gt_in 396 (by decide +kernel) rfl, kc_SC_takeHymn⟩
theorem kc_MT_min : Cond.static M_MT_min.1 ∈ gtbl ∧ Cond.initialized M_MT_min.1.cls ∈ gtbl ∧ Cond.code M_MT_min.1 M_MT_min.2.1 M_MT_min.2.2.1 M_MT_min.2.2.2 ∈ gtbl ∧ (M_MT_min.1.cls ≠ "java/lang/invoke/MethodHandle" ∧ M_MT_min.1.cls ≠ "java/lang/invoke/VarHandle" ∧ (parseMethodDescriptor M_MT_min.1.desc).map (fun d => d.parameters.length) = some 2) ∧ M_MT_min.2.2.1 ≤ 45 := ⟨gt_in 401 (by decide +kernel) rfl, gt_in 51 (by decide +kernel) rfl, gt_in 402 (by decide +kernel) rfl, ⟨by decide, by decide, by decide +kernel⟩, by decide⟩
theorem k_SC_56 : CallS "BlownByAll$Script" 56 M_MT_min 2 := ⟨gt_in 400 (by decide +kernel) rfl, kc_MT_min⟩
theorem kc_MT_max : Cond.static M_MT_max.1 ∈ gtbl ∧ Cond.initialized M_MT_max.1.cls ∈ gtbl ∧ Cond.code M_MT_max.1 M_MT_max.2.1 M_MT_max.2.2.1 M_MT_max.2.2.2 ∈ gtbl ∧ (M_MT_max.1.cls ≠ "java/lang/invoke/MethodHandle" ∧ M_MT_max.1.cls ≠ "java/lang/invoke/VarHandle" ∧ (parseMethodDescriptor M_MT_max.1.desc).map (fun d => d.parameters.length) = some 2) ∧ M_MT_max.2.2.1 ≤ 45 := ⟨gt_in 404 (by decide +kernel) rfl, gt_in 51 (by decide +kernel) rfl, gt_in 405 (by decide +kernel) rfl, ⟨by decide, by decide, by decide +kernel⟩, by decide⟩
theorem k_SC_62 : CallS "BlownByAll$Script" 62 M_MT_max 2 := ⟨gt_in 403 (by decide +kernel) rfl, kc_MT_max⟩
theorem kc_BB_organ : Cond.instanceMethod M_BB_organ.1 ∈ gtbl ∧ Cond.selects M_BB_organ.1.cls M_BB_organ.1 M_BB_organ.1 ∈ gtbl ∧ Cond.initialized M_BB_organ.1.cls ∈ gtbl ∧ Cond.code M_BB_organ.1 M_BB_organ.2.1 M_BB_organ.2.2.1 M_BB_organ.2.2.2 ∈ gtbl ∧ (M_BB_organ.1.cls ≠ "java/lang/invoke/MethodHandle" ∧ M_BB_organ.1.cls ≠ "java/lang/invoke/VarHandle" ∧ (parseMethodDescriptor M_BB_organ.1.desc).map (fun d => d.parameters.length) = some 0) ∧ M_BB_organ.2.2.1 ≤ 45 := ⟨gt_in 407 (by decide +kernel) rfl, gt_in 408 (by decide +kernel) rfl, gt_in 41 (by decide +kernel) rfl, gt_in 409 (by decide +kernel) rfl, ⟨by decide, by decide, by decide +kernel⟩, by decide⟩
theorem k_LW_29 : CallV "BlownByAllLaw" 29 M_BB_organ 0 := ⟨gt_in 406 (by decide +kernel) rfl, kc_BB_organ⟩
theorem kc_PI_takeFrom : Cond.instanceMethod M_PI_takeFrom.1 ∈ gtbl ∧ Cond.selects M_PI_takeFrom.1.cls M_PI_takeFrom.1 M_PI_takeFrom.1 ∈ gtbl ∧ Cond.initialized M_PI_takeFrom.1.cls ∈ gtbl ∧ Cond.code M_PI_takeFrom.1 M_PI_takeFrom.2.1 M_PI_takeFrom.2.2.1 M_PI_takeFrom.2.2.2 ∈ gtbl ∧ (M_PI_takeFrom.1.cls ≠ "java/lang/invoke/MethodHandle" ∧ M_PI_takeFrom.1.cls ≠ "java/lang/invoke/VarHandle" ∧ (parseMethodDescriptor M_PI_takeFrom.1.desc).map (fun d => d.parameters.length) = some 1) ∧ M_PI_takeFrom.2.2.1 ≤ 45 := ⟨gt_in 411 (by decide +kernel) rfl, gt_in 412 (by decide +kernel) rfl, gt_in 43 (by decide +kernel) rfl, gt_in 413 (by decide +kernel) rfl, ⟨by decide, by decide, by decide +kernel⟩, by decide⟩
theorem k_BB_94 : CallV "BlownByAll" 94 M_PI_takeFrom 1 := ⟨gt_in 410 (by decide +kernel) rfl, kc_PI_takeFrom⟩
theorem kc_SC_thirstRead : Cond.instanceMethod M_SC_thirstRead.1 ∈ gtbl ∧ Cond.selects M_SC_thirstRead.1.cls M_SC_thirstRead.1 M_SC_thirstRead.1 ∈ gtbl ∧ Cond.initialized M_SC_thirstRead.1.cls ∈ gtbl ∧ Cond.code M_SC_thirstRead.1 M_SC_thirstRead.2.1 M_SC_thirstRead.2.2.1 M_SC_thirstRead.2.2.2 ∈ gtbl ∧ (M_SC_thirstRead.1.cls ≠ "java/lang/invoke/MethodHandle" ∧ M_SC_thirstRead.1.cls ≠ "java/lang/invoke/VarHandle" ∧ (parseMethodDescriptor M_SC_thirstRead.1.desc).map (fun d => d.parameters.length) = some 1) ∧ M_SC_thirstRead.2.2.1 ≤ 45 := ⟨gt_in 415 (by decide +kernel) rfl, gt_in 416 (by decide +kernel) rfl, gt_in 42 (by decide +kernel) rfl, gt_in 417 (by decide +kernel) rfl, ⟨by decide, by decide, by decide +kernel⟩, by decide⟩
theorem k_PI_33 : CallV "BlownByAll$Pipes" 33 M_SC_thirstRead 1 := ⟨gt_in 414 (by decide +kernel) rfl, kc_SC_thirstRead⟩
theorem kc_SC_beatRead : Cond.instanceMethod M_SC_beatRead.1 ∈ gtbl ∧ Cond.selects M_SC_beatRead.1.cls M_SC_beatRead.1 M_SC_beatRead.1 ∈ gtbl ∧ Cond.initialized M_SC_beatRead.1.cls ∈ gtbl ∧ Cond.code M_SC_beatRead.1 M_SC_beatRead.2.1 M_SC_beatRead.2.2.1 M_SC_beatRead.2.2.2 ∈ gtbl ∧ (M_SC_beatRead.1.cls ≠ "java/lang/invoke/MethodHandle" ∧ M_SC_beatRead.1.cls ≠ "java/lang/invoke/VarHandle" ∧ (parseMethodDescriptor M_SC_beatRead.1.desc).map (fun d => d.parameters.length) = some 1) ∧ M_SC_beatRead.2.2.1 ≤ 45 := ⟨gt_in 419 (by decide +kernel) rfl, gt_in 420 (by decide +kernel) rfl, gt_in 42 (by decide +kernel) rfl, gt_in 421 (by decide +kernel) rfl, ⟨by decide, by decide, by decide +kernel⟩, by decide⟩
theorem k_PI_37 : CallV "BlownByAll$Pipes" 37 M_SC_beatRead 1 := ⟨gt_in 418 (by decide +kernel) rfl, kc_SC_beatRead⟩
theorem kc_PE_takeFrom : Cond.instanceMethod M_PE_takeFrom.1 ∈ gtbl ∧ Cond.selects M_PE_takeFrom.1.cls M_PE_takeFrom.1 M_PE_takeFrom.1 ∈ gtbl ∧ Cond.initialized M_PE_takeFrom.1.cls ∈ gtbl ∧ Cond.code M_PE_takeFrom.1 M_PE_takeFrom.2.1 M_PE_takeFrom.2.2.1 M_PE_takeFrom.2.2.2 ∈ gtbl ∧ (M_PE_takeFrom.1.cls ≠ "java/lang/invoke/MethodHandle" ∧ M_PE_takeFrom.1.cls ≠ "java/lang/invoke/VarHandle" ∧ (parseMethodDescriptor M_PE_takeFrom.1.desc).map (fun d => d.parameters.length) = some 1) ∧ M_PE_takeFrom.2.2.1 ≤ 45 := ⟨gt_in 423 (by decide +kernel) rfl, gt_in 424 (by decide +kernel) rfl, gt_in 44 (by decide +kernel) rfl, gt_in 425 (by decide +kernel) rfl, ⟨by decide, by decide, by decide +kernel⟩, by decide⟩
theorem k_BB_98 : CallV "BlownByAll" 98 M_PE_takeFrom 1 := ⟨gt_in 422 (by decide +kernel) rfl, kc_PE_takeFrom⟩
theorem kc_SC_personRead : Cond.instanceMethod M_SC_personRead.1 ∈ gtbl ∧ Cond.selects M_SC_personRead.1.cls M_SC_personRead.1 M_SC_personRead.1 ∈ gtbl ∧ Cond.initialized M_SC_personRead.1.cls ∈ gtbl ∧ Cond.code M_SC_personRead.1 M_SC_personRead.2.1 M_SC_personRead.2.2.1 M_SC_personRead.2.2.2 ∈ gtbl ∧ (M_SC_personRead.1.cls ≠ "java/lang/invoke/MethodHandle" ∧ M_SC_personRead.1.cls ≠ "java/lang/invoke/VarHandle" ∧ (parseMethodDescriptor M_SC_personRead.1.desc).map (fun d => d.parameters.length) = some 2) ∧ M_SC_personRead.2.2.1 ≤ 45 := ⟨gt_in 427 (by decide +kernel) rfl, gt_in 428 (by decide +kernel) rfl, gt_in 42 (by decide +kernel) rfl, gt_in 429 (by decide +kernel) rfl, ⟨by decide, by decide, by decide +kernel⟩, by decide⟩
theorem k_PE_43 : CallV "BlownByAll$People" 43 M_SC_personRead 2 := ⟨gt_in 426 (by decide +kernel) rfl, kc_SC_personRead⟩
theorem kc_BB_drinks : Cond.instanceMethod M_BB_drinks.1 ∈ gtbl ∧ Cond.selects M_BB_drinks.1.cls M_BB_drinks.1 M_BB_drinks.1 ∈ gtbl ∧ Cond.initialized M_BB_drinks.1.cls ∈ gtbl ∧ Cond.code M_BB_drinks.1 M_BB_drinks.2.1 M_BB_drinks.2.2.1 M_BB_drinks.2.2.2 ∈ gtbl ∧ (M_BB_drinks.1.cls ≠ "java/lang/invoke/MethodHandle" ∧ M_BB_drinks.1.cls ≠ "java/lang/invoke/VarHandle" ∧ (parseMethodDescriptor M_BB_drinks.1.desc).map (fun d => d.parameters.length) = some 1) ∧ M_BB_drinks.2.2.1 ≤ 45 := ⟨gt_in 431 (by decide +kernel) rfl, gt_in 432 (by decide +kernel) rfl, gt_in 41 (by decide +kernel) rfl, gt_in 433 (by decide +kernel) rfl, ⟨by decide, by decide, by decide +kernel⟩, by decide⟩
theorem k_LW_33 : CallV "BlownByAllLaw" 33 M_BB_drinks 1 := ⟨gt_in 430 (by decide +kernel) rfl, kc_BB_drinks⟩
theorem kc_PI_has : Cond.instanceMethod M_PI_has.1 ∈ gtbl ∧ Cond.selects M_PI_has.1.cls M_PI_has.1 M_PI_has.1 ∈ gtbl ∧ Cond.initialized M_PI_has.1.cls ∈ gtbl ∧ Cond.code M_PI_has.1 M_PI_has.2.1 M_PI_has.2.2.1 M_PI_has.2.2.2 ∈ gtbl ∧ (M_PI_has.1.cls ≠ "java/lang/invoke/MethodHandle" ∧ M_PI_has.1.cls ≠ "java/lang/invoke/VarHandle" ∧ (parseMethodDescriptor M_PI_has.1.desc).map (fun d => d.parameters.length) = some 1) ∧ M_PI_has.2.2.1 ≤ 45 := ⟨gt_in 435 (by decide +kernel) rfl, gt_in 436 (by decide +kernel) rfl, gt_in 43 (by decide +kernel) rfl, gt_in 437 (by decide +kernel) rfl, ⟨by decide, by decide, by decide +kernel⟩, by decide⟩
theorem k_BB_104 : CallV "BlownByAll" 104 M_PI_has 1 := ⟨gt_in 434 (by decide +kernel) rfl, kc_PI_has⟩
theorem kc_BB_sounds : Cond.instanceMethod M_BB_sounds.1 ∈ gtbl ∧ Cond.selects M_BB_sounds.1.cls M_BB_sounds.1 M_BB_sounds.1 ∈ gtbl ∧ Cond.initialized M_BB_sounds.1.cls ∈ gtbl ∧ Cond.code M_BB_sounds.1 M_BB_sounds.2.1 M_BB_sounds.2.2.1 M_BB_sounds.2.2.2 ∈ gtbl ∧ (M_BB_sounds.1.cls ≠ "java/lang/invoke/MethodHandle" ∧ M_BB_sounds.1.cls ≠ "java/lang/invoke/VarHandle" ∧ (parseMethodDescriptor M_BB_sounds.1.desc).map (fun d => d.parameters.length) = some 2) ∧ M_BB_sounds.2.2.1 ≤ 45 := ⟨gt_in 439 (by decide +kernel) rfl, gt_in 440 (by decide +kernel) rfl, gt_in 41 (by decide +kernel) rfl, gt_in 441 (by decide +kernel) rfl, ⟨by decide, by decide, by decide +kernel⟩, by decide⟩
theorem k_LW_38 : CallV "BlownByAllLaw" 38 M_BB_sounds 2 := ⟨gt_in 438 (by decide +kernel) rfl, kc_BB_sounds⟩
theorem kc_PI_hasBoth : Cond.instanceMethod M_PI_hasBoth.1 ∈ gtbl ∧ Cond.selects M_PI_hasBoth.1.cls M_PI_hasBoth.1 M_PI_hasBoth.1 ∈ gtbl ∧ Cond.initialized M_PI_hasBoth.1.cls ∈ gtbl ∧ Cond.code M_PI_hasBoth.1 M_PI_hasBoth.2.1 M_PI_hasBoth.2.2.1 M_PI_hasBoth.2.2.2 ∈ gtbl ∧ (M_PI_hasBoth.1.cls ≠ "java/lang/invoke/MethodHandle" ∧ M_PI_hasBoth.1.cls ≠ "java/lang/invoke/VarHandle" ∧ (parseMethodDescriptor M_PI_hasBoth.1.desc).map (fun d => d.parameters.length) = some 2) ∧ M_PI_hasBoth.2.2.1 ≤ 45 := ⟨gt_in 443 (by decide +kernel) rfl, gt_in 444 (by decide +kernel) rfl, gt_in 43 (by decide +kernel) rfl, gt_in 445 (by decide +kernel) rfl, ⟨by decide, by decide, by decide +kernel⟩, by decide⟩
theorem k_BB_111 : CallV "BlownByAll" 111 M_PI_hasBoth 2 := ⟨gt_in 442 (by decide +kernel) rfl, kc_PI_hasBoth⟩
theorem k_PI_40 : CallV "BlownByAll$Pipes" 40 M_PI_has 1 := ⟨gt_in 446 (by decide +kernel) rfl, kc_PI_has⟩
theorem kc_PI_hasBeat : Cond.instanceMethod M_PI_hasBeat.1 ∈ gtbl ∧ Cond.selects M_PI_hasBeat.1.cls M_PI_hasBeat.1 M_PI_hasBeat.1 ∈ gtbl ∧ Cond.initialized M_PI_hasBeat.1.cls ∈ gtbl ∧ Cond.code M_PI_hasBeat.1 M_PI_hasBeat.2.1 M_PI_hasBeat.2.2.1 M_PI_hasBeat.2.2.2 ∈ gtbl ∧ (M_PI_hasBeat.1.cls ≠ "java/lang/invoke/MethodHandle" ∧ M_PI_hasBeat.1.cls ≠ "java/lang/invoke/VarHandle" ∧ (parseMethodDescriptor M_PI_hasBeat.1.desc).map (fun d => d.parameters.length) = some 1) ∧ M_PI_hasBeat.2.2.1 ≤ 45 := ⟨gt_in 448 (by decide +kernel) rfl, gt_in 449 (by decide +kernel) rfl, gt_in 43 (by decide +kernel) rfl, gt_in 450 (by decide +kernel) rfl, ⟨by decide, by decide, by decide +kernel⟩, by decide⟩
theorem k_PI_44 : CallV "BlownByAll$Pipes" 44 M_PI_hasBeat 1 := ⟨gt_in 447 (by decide +kernel) rfl, kc_PI_hasBeat⟩
theorem kc_PI_isSounding : Cond.instanceMethod M_PI_isSounding.1 ∈ gtbl ∧ Cond.selects M_PI_isSounding.1.cls M_PI_isSounding.1 M_PI_isSounding.1 ∈ gtbl ∧ Cond.initialized M_PI_isSounding.1.cls ∈ gtbl ∧ Cond.code M_PI_isSounding.1 M_PI_isSounding.2.1 M_PI_isSounding.2.2.1 M_PI_isSounding.2.2.2 ∈ gtbl ∧ (M_PI_isSounding.1.cls ≠ "java/lang/invoke/MethodHandle" ∧ M_PI_isSounding.1.cls ≠ "java/lang/invoke/VarHandle" ∧ (parseMethodDescriptor M_PI_isSounding.1.desc).map (fun d => d.parameters.length) = some 2) ∧ M_PI_isSounding.2.2.1 ≤ 45 := ⟨gt_in 452 (by decide +kernel) rfl, gt_in 453 (by decide +kernel) rfl, gt_in 43 (by decide +kernel) rfl, gt_in 454 (by decide +kernel) rfl, ⟨by decide, by decide, by decide +kernel⟩, by decide⟩
theorem k_BB_115 : CallV "BlownByAll" 115 M_PI_isSounding 2 := ⟨gt_in 451 (by decide +kernel) rfl, kc_PI_isSounding⟩
theorem kc_BB_person : Cond.instanceMethod M_BB_person.1 ∈ gtbl ∧ Cond.selects M_BB_person.1.cls M_BB_person.1 M_BB_person.1 ∈ gtbl ∧ Cond.initialized M_BB_person.1.cls ∈ gtbl ∧ Cond.code M_BB_person.1 M_BB_person.2.1 M_BB_person.2.2.1 M_BB_person.2.2.2 ∈ gtbl ∧ (M_BB_person.1.cls ≠ "java/lang/invoke/MethodHandle" ∧ M_BB_person.1.cls ≠ "java/lang/invoke/VarHandle" ∧ (parseMethodDescriptor M_BB_person.1.desc).map (fun d => d.parameters.length) = some 2) ∧ M_BB_person.2.2.1 ≤ 45 := ⟨gt_in 456 (by decide +kernel) rfl, gt_in 457 (by decide +kernel) rfl, gt_in 41 (by decide +kernel) rfl, gt_in 458 (by decide +kernel) rfl, ⟨by decide, by decide, by decide +kernel⟩, by decide⟩
theorem k_LW_43 : CallV "BlownByAllLaw" 43 M_BB_person 2 := ⟨gt_in 455 (by decide +kernel) rfl, kc_BB_person⟩
theorem kc_PE_has : Cond.instanceMethod M_PE_has.1 ∈ gtbl ∧ Cond.selects M_PE_has.1.cls M_PE_has.1 M_PE_has.1 ∈ gtbl ∧ Cond.initialized M_PE_has.1.cls ∈ gtbl ∧ Cond.code M_PE_has.1 M_PE_has.2.1 M_PE_has.2.2.1 M_PE_has.2.2.2 ∈ gtbl ∧ (M_PE_has.1.cls ≠ "java/lang/invoke/MethodHandle" ∧ M_PE_has.1.cls ≠ "java/lang/invoke/VarHandle" ∧ (parseMethodDescriptor M_PE_has.1.desc).map (fun d => d.parameters.length) = some 1) ∧ M_PE_has.2.2.1 ≤ 45 := ⟨gt_in 460 (by decide +kernel) rfl, gt_in 461 (by decide +kernel) rfl, gt_in 44 (by decide +kernel) rfl, gt_in 462 (by decide +kernel) rfl, ⟨by decide, by decide, by decide +kernel⟩, by decide⟩
theorem k_BB_118 : CallV "BlownByAll" 118 M_PE_has 1 := ⟨gt_in 459 (by decide +kernel) rfl, kc_PE_has⟩
theorem kc_BB_seat : Cond.instanceMethod M_BB_seat.1 ∈ gtbl ∧ Cond.selects M_BB_seat.1.cls M_BB_seat.1 M_BB_seat.1 ∈ gtbl ∧ Cond.initialized M_BB_seat.1.cls ∈ gtbl ∧ Cond.code M_BB_seat.1 M_BB_seat.2.1 M_BB_seat.2.2.1 M_BB_seat.2.2.2 ∈ gtbl ∧ (M_BB_seat.1.cls ≠ "java/lang/invoke/MethodHandle" ∧ M_BB_seat.1.cls ≠ "java/lang/invoke/VarHandle" ∧ (parseMethodDescriptor M_BB_seat.1.desc).map (fun d => d.parameters.length) = some 2) ∧ M_BB_seat.2.2.1 ≤ 45 := ⟨gt_in 464 (by decide +kernel) rfl, gt_in 465 (by decide +kernel) rfl, gt_in 41 (by decide +kernel) rfl, gt_in 466 (by decide +kernel) rfl, ⟨by decide, by decide, by decide +kernel⟩, by decide⟩
theorem k_LW_47 : CallV "BlownByAllLaw" 47 M_BB_seat 2 := ⟨gt_in 463 (by decide +kernel) rfl, kc_BB_seat⟩
theorem kc_BB_phase : Cond.instanceMethod M_BB_phase.1 ∈ gtbl ∧ Cond.selects M_BB_phase.1.cls M_BB_phase.1 M_BB_phase.1 ∈ gtbl ∧ Cond.initialized M_BB_phase.1.cls ∈ gtbl ∧ Cond.code M_BB_phase.1 M_BB_phase.2.1 M_BB_phase.2.2.1 M_BB_phase.2.2.2 ∈ gtbl ∧ (M_BB_phase.1.cls ≠ "java/lang/invoke/MethodHandle" ∧ M_BB_phase.1.cls ≠ "java/lang/invoke/VarHandle" ∧ (parseMethodDescriptor M_BB_phase.1.desc).map (fun d => d.parameters.length) = some 2) ∧ M_BB_phase.2.2.1 ≤ 45 := ⟨gt_in 468 (by decide +kernel) rfl, gt_in 469 (by decide +kernel) rfl, gt_in 41 (by decide +kernel) rfl, gt_in 470 (by decide +kernel) rfl, ⟨by decide, by decide, by decide +kernel⟩, by decide⟩
theorem k_LW_51 : CallV "BlownByAllLaw" 51 M_BB_phase 2 := ⟨gt_in 467 (by decide +kernel) rfl, kc_BB_phase⟩
theorem kc_BB_bribe : Cond.instanceMethod M_BB_bribe.1 ∈ gtbl ∧ Cond.selects M_BB_bribe.1.cls M_BB_bribe.1 M_BB_bribe.1 ∈ gtbl ∧ Cond.initialized M_BB_bribe.1.cls ∈ gtbl ∧ Cond.code M_BB_bribe.1 M_BB_bribe.2.1 M_BB_bribe.2.2.1 M_BB_bribe.2.2.2 ∈ gtbl ∧ (M_BB_bribe.1.cls ≠ "java/lang/invoke/MethodHandle" ∧ M_BB_bribe.1.cls ≠ "java/lang/invoke/VarHandle" ∧ (parseMethodDescriptor M_BB_bribe.1.desc).map (fun d => d.parameters.length) = some 2) ∧ M_BB_bribe.2.2.1 ≤ 45 := ⟨gt_in 472 (by decide +kernel) rfl, gt_in 473 (by decide +kernel) rfl, gt_in 41 (by decide +kernel) rfl, gt_in 474 (by decide +kernel) rfl, ⟨by decide, by decide, by decide +kernel⟩, by decide⟩
theorem k_LW_55 : CallV "BlownByAllLaw" 55 M_BB_bribe 2 := ⟨gt_in 471 (by decide +kernel) rfl, kc_BB_bribe⟩
theorem kc_BB_grow : Cond.instanceMethod M_BB_grow.1 ∈ gtbl ∧ Cond.selects M_BB_grow.1.cls M_BB_grow.1 M_BB_grow.1 ∈ gtbl ∧ Cond.initialized M_BB_grow.1.cls ∈ gtbl ∧ Cond.code M_BB_grow.1 M_BB_grow.2.1 M_BB_grow.2.2.1 M_BB_grow.2.2.2 ∈ gtbl ∧ (M_BB_grow.1.cls ≠ "java/lang/invoke/MethodHandle" ∧ M_BB_grow.1.cls ≠ "java/lang/invoke/VarHandle" ∧ (parseMethodDescriptor M_BB_grow.1.desc).map (fun d => d.parameters.length) = some 1) ∧ M_BB_grow.2.2.1 ≤ 45 := ⟨gt_in 476 (by decide +kernel) rfl, gt_in 477 (by decide +kernel) rfl, gt_in 41 (by decide +kernel) rfl, gt_in 478 (by decide +kernel) rfl, ⟨by decide, by decide, by decide +kernel⟩, by decide⟩
theorem k_LW_60 : CallV "BlownByAllLaw" 60 M_BB_grow 1 := ⟨gt_in 475 (by decide +kernel) rfl, kc_BB_grow⟩
theorem kc_BB_store : Cond.instanceMethod M_BB_store.1 ∈ gtbl ∧ Cond.selects M_BB_store.1.cls M_BB_store.1 M_BB_store.1 ∈ gtbl ∧ Cond.initialized M_BB_store.1.cls ∈ gtbl ∧ Cond.code M_BB_store.1 M_BB_store.2.1 M_BB_store.2.2.1 M_BB_store.2.2.2 ∈ gtbl ∧ (M_BB_store.1.cls ≠ "java/lang/invoke/MethodHandle" ∧ M_BB_store.1.cls ≠ "java/lang/invoke/VarHandle" ∧ (parseMethodDescriptor M_BB_store.1.desc).map (fun d => d.parameters.length) = some 1) ∧ M_BB_store.2.2.1 ≤ 45 := ⟨gt_in 480 (by decide +kernel) rfl, gt_in 481 (by decide +kernel) rfl, gt_in 41 (by decide +kernel) rfl, gt_in 482 (by decide +kernel) rfl, ⟨by decide, by decide, by decide +kernel⟩, by decide⟩
theorem k_LW_64 : CallV "BlownByAllLaw" 64 M_BB_store 1 := ⟨gt_in 479 (by decide +kernel) rfl, kc_BB_store⟩
theorem kc_BB_late : Cond.instanceMethod M_BB_late.1 ∈ gtbl ∧ Cond.selects M_BB_late.1.cls M_BB_late.1 M_BB_late.1 ∈ gtbl ∧ Cond.initialized M_BB_late.1.cls ∈ gtbl ∧ Cond.code M_BB_late.1 M_BB_late.2.1 M_BB_late.2.2.1 M_BB_late.2.2.2 ∈ gtbl ∧ (M_BB_late.1.cls ≠ "java/lang/invoke/MethodHandle" ∧ M_BB_late.1.cls ≠ "java/lang/invoke/VarHandle" ∧ (parseMethodDescriptor M_BB_late.1.desc).map (fun d => d.parameters.length) = some 1) ∧ M_BB_late.2.2.1 ≤ 45 := ⟨gt_in 484 (by decide +kernel) rfl, gt_in 485 (by decide +kernel) rfl, gt_in 41 (by decide +kernel) rfl, gt_in 486 (by decide +kernel) rfl, ⟨by decide, by decide, by decide +kernel⟩, by decide⟩
theorem k_LW_68 : CallV "BlownByAllLaw" 68 M_BB_late 1 := ⟨gt_in 483 (by decide +kernel) rfl, kc_BB_late⟩
theorem kc_BB_gives : Cond.instanceMethod M_BB_gives.1 ∈ gtbl ∧ Cond.selects M_BB_gives.1.cls M_BB_gives.1 M_BB_gives.1 ∈ gtbl ∧ Cond.initialized M_BB_gives.1.cls ∈ gtbl ∧ Cond.code M_BB_gives.1 M_BB_gives.2.1 M_BB_gives.2.2.1 M_BB_gives.2.2.2 ∈ gtbl ∧ (M_BB_gives.1.cls ≠ "java/lang/invoke/MethodHandle" ∧ M_BB_gives.1.cls ≠ "java/lang/invoke/VarHandle" ∧ (parseMethodDescriptor M_BB_gives.1.desc).map (fun d => d.parameters.length) = some 2) ∧ M_BB_gives.2.2.1 ≤ 45 := ⟨gt_in 488 (by decide +kernel) rfl, gt_in 489 (by decide +kernel) rfl, gt_in 41 (by decide +kernel) rfl, gt_in 490 (by decide +kernel) rfl, ⟨by decide, by decide, by decide +kernel⟩, by decide⟩
theorem k_LW_72 : CallV "BlownByAllLaw" 72 M_BB_gives 2 := ⟨gt_in 487 (by decide +kernel) rfl, kc_BB_gives⟩
theorem k_BB_140 : CallV "BlownByAll" 140 M_PI_hasBeat 1 := ⟨gt_in 491 (by decide +kernel) rfl, kc_PI_hasBeat⟩
theorem kc_PE_givenAt : Cond.instanceMethod M_PE_givenAt.1 ∈ gtbl ∧ Cond.selects M_PE_givenAt.1.cls M_PE_givenAt.1 M_PE_givenAt.1 ∈ gtbl ∧ Cond.initialized M_PE_givenAt.1.cls ∈ gtbl ∧ Cond.code M_PE_givenAt.1 M_PE_givenAt.2.1 M_PE_givenAt.2.2.1 M_PE_givenAt.2.2.2 ∈ gtbl ∧ (M_PE_givenAt.1.cls ≠ "java/lang/invoke/MethodHandle" ∧ M_PE_givenAt.1.cls ≠ "java/lang/invoke/VarHandle" ∧ (parseMethodDescriptor M_PE_givenAt.1.desc).map (fun d => d.parameters.length) = some 2) ∧ M_PE_givenAt.2.2.1 ≤ 45 := ⟨gt_in 493 (by decide +kernel) rfl, gt_in 494 (by decide +kernel) rfl, gt_in 44 (by decide +kernel) rfl, gt_in 495 (by decide +kernel) rfl, ⟨by decide, by decide, by decide +kernel⟩, by decide⟩
theorem k_BB_143 : CallV "BlownByAll" 143 M_PE_givenAt 2 := ⟨gt_in 492 (by decide +kernel) rfl, kc_PE_givenAt⟩
theorem kc_BB_air : Cond.instanceMethod M_BB_air.1 ∈ gtbl ∧ Cond.selects M_BB_air.1.cls M_BB_air.1 M_BB_air.1 ∈ gtbl ∧ Cond.initialized M_BB_air.1.cls ∈ gtbl ∧ Cond.code M_BB_air.1 M_BB_air.2.1 M_BB_air.2.2.1 M_BB_air.2.2.2 ∈ gtbl ∧ (M_BB_air.1.cls ≠ "java/lang/invoke/MethodHandle" ∧ M_BB_air.1.cls ≠ "java/lang/invoke/VarHandle" ∧ (parseMethodDescriptor M_BB_air.1.desc).map (fun d => d.parameters.length) = some 2) ∧ M_BB_air.2.2.1 ≤ 45 := ⟨gt_in 497 (by decide +kernel) rfl, gt_in 498 (by decide +kernel) rfl, gt_in 41 (by decide +kernel) rfl, gt_in 499 (by decide +kernel) rfl, ⟨by decide, by decide, by decide +kernel⟩, by decide⟩
theorem k_LW_76 : CallV "BlownByAllLaw" 76 M_BB_air 2 := ⟨gt_in 496 (by decide +kernel) rfl, kc_BB_air⟩
theorem kc_PE_sittingAt : Cond.instanceMethod M_PE_sittingAt.1 ∈ gtbl ∧ Cond.selects M_PE_sittingAt.1.cls M_PE_sittingAt.1 M_PE_sittingAt.1 ∈ gtbl ∧ Cond.initialized M_PE_sittingAt.1.cls ∈ gtbl ∧ Cond.code M_PE_sittingAt.1 M_PE_sittingAt.2.1 M_PE_sittingAt.2.2.1 M_PE_sittingAt.2.2.2 ∈ gtbl ∧ (M_PE_sittingAt.1.cls ≠ "java/lang/invoke/MethodHandle" ∧ M_PE_sittingAt.1.cls ≠ "java/lang/invoke/VarHandle" ∧ (parseMethodDescriptor M_PE_sittingAt.1.desc).map (fun d => d.parameters.length) = some 1) ∧ M_PE_sittingAt.2.2.1 ≤ 45 := ⟨gt_in 501 (by decide +kernel) rfl, gt_in 502 (by decide +kernel) rfl, gt_in 44 (by decide +kernel) rfl, gt_in 503 (by decide +kernel) rfl, ⟨by decide, by decide, by decide +kernel⟩, by decide⟩
theorem k_BB_147 : CallV "BlownByAll" 147 M_PE_sittingAt 1 := ⟨gt_in 500 (by decide +kernel) rfl, kc_PE_sittingAt⟩
theorem kc_MA_gather : Cond.instanceMethod M_MA_gather.1 ∈ gtbl ∧ Cond.selects M_MA_gather.1.cls M_MA_gather.1 M_MA_gather.1 ∈ gtbl ∧ Cond.initialized M_MA_gather.1.cls ∈ gtbl ∧ Cond.code M_MA_gather.1 M_MA_gather.2.1 M_MA_gather.2.2.1 M_MA_gather.2.2.2 ∈ gtbl ∧ (M_MA_gather.1.cls ≠ "java/lang/invoke/MethodHandle" ∧ M_MA_gather.1.cls ≠ "java/lang/invoke/VarHandle" ∧ (parseMethodDescriptor M_MA_gather.1.desc).map (fun d => d.parameters.length) = some 2) ∧ M_MA_gather.2.2.1 ≤ 45 := ⟨gt_in 505 (by decide +kernel) rfl, gt_in 506 (by decide +kernel) rfl, gt_in 45 (by decide +kernel) rfl, gt_in 507 (by decide +kernel) rfl, ⟨by decide, by decide, by decide +kernel⟩, by decide⟩
theorem k_BB_151 : CallV "BlownByAll" 151 M_MA_gather 2 := ⟨gt_in 504 (by decide +kernel) rfl, kc_MA_gather⟩
theorem kc_MA_fill : Cond.instanceMethod M_MA_fill.1 ∈ gtbl ∧ Cond.selects M_MA_fill.1.cls M_MA_fill.1 M_MA_fill.1 ∈ gtbl ∧ Cond.initialized M_MA_fill.1.cls ∈ gtbl ∧ Cond.code M_MA_fill.1 M_MA_fill.2.1 M_MA_fill.2.2.1 M_MA_fill.2.2.2 ∈ gtbl ∧ (M_MA_fill.1.cls ≠ "java/lang/invoke/MethodHandle" ∧ M_MA_fill.1.cls ≠ "java/lang/invoke/VarHandle" ∧ (parseMethodDescriptor M_MA_fill.1.desc).map (fun d => d.parameters.length) = some 1) ∧ M_MA_fill.2.2.1 ≤ 45 := ⟨gt_in 509 (by decide +kernel) rfl, gt_in 510 (by decide +kernel) rfl, gt_in 45 (by decide +kernel) rfl, gt_in 511 (by decide +kernel) rfl, ⟨by decide, by decide, by decide +kernel⟩, by decide⟩
theorem k_MA_29 : CallV "BlownByAll$Mass" 29 M_MA_fill 1 := ⟨gt_in 508 (by decide +kernel) rfl, kc_MA_fill⟩
theorem k_MA_44 : CallV "BlownByAll$Mass" 44 M_PE_givenAt 2 := ⟨gt_in 512 (by decide +kernel) rfl, kc_PE_givenAt⟩
theorem kc_BB_stored : Cond.instanceMethod M_BB_stored.1 ∈ gtbl ∧ Cond.selects M_BB_stored.1.cls M_BB_stored.1 M_BB_stored.1 ∈ gtbl ∧ Cond.initialized M_BB_stored.1.cls ∈ gtbl ∧ Cond.code M_BB_stored.1 M_BB_stored.2.1 M_BB_stored.2.2.1 M_BB_stored.2.2.2 ∈ gtbl ∧ (M_BB_stored.1.cls ≠ "java/lang/invoke/MethodHandle" ∧ M_BB_stored.1.cls ≠ "java/lang/invoke/VarHandle" ∧ (parseMethodDescriptor M_BB_stored.1.desc).map (fun d => d.parameters.length) = some 2) ∧ M_BB_stored.2.2.1 ≤ 45 := ⟨gt_in 514 (by decide +kernel) rfl, gt_in 515 (by decide +kernel) rfl, gt_in 41 (by decide +kernel) rfl, gt_in 516 (by decide +kernel) rfl, ⟨by decide, by decide, by decide +kernel⟩, by decide⟩
theorem k_LW_80 : CallV "BlownByAllLaw" 80 M_BB_stored 2 := ⟨gt_in 513 (by decide +kernel) rfl, kc_BB_stored⟩
theorem kc_MA_play : Cond.instanceMethod M_MA_play.1 ∈ gtbl ∧ Cond.selects M_MA_play.1.cls M_MA_play.1 M_MA_play.1 ∈ gtbl ∧ Cond.initialized M_MA_play.1.cls ∈ gtbl ∧ Cond.code M_MA_play.1 M_MA_play.2.1 M_MA_play.2.2.1 M_MA_play.2.2.2 ∈ gtbl ∧ (M_MA_play.1.cls ≠ "java/lang/invoke/MethodHandle" ∧ M_MA_play.1.cls ≠ "java/lang/invoke/VarHandle" ∧ (parseMethodDescriptor M_MA_play.1.desc).map (fun d => d.parameters.length) = some 2) ∧ M_MA_play.2.2.1 ≤ 45 := ⟨gt_in 518 (by decide +kernel) rfl, gt_in 519 (by decide +kernel) rfl, gt_in 45 (by decide +kernel) rfl, gt_in 520 (by decide +kernel) rfl, ⟨by decide, by decide, by decide +kernel⟩, by decide⟩
theorem k_BB_158 : CallV "BlownByAll" 158 M_MA_play 2 := ⟨gt_in 517 (by decide +kernel) rfl, kc_MA_play⟩
theorem k_MA_75 : CallV "BlownByAll$Mass" 75 M_PE_sittingAt 1 := ⟨gt_in 521 (by decide +kernel) rfl, kc_PE_sittingAt⟩
theorem k_MA_79 : CallV "BlownByAll$Mass" 79 M_MA_gather 2 := ⟨gt_in 522 (by decide +kernel) rfl, kc_MA_gather⟩
theorem kc_MA_blow : Cond.instanceMethod M_MA_blow.1 ∈ gtbl ∧ Cond.selects M_MA_blow.1.cls M_MA_blow.1 M_MA_blow.1 ∈ gtbl ∧ Cond.initialized M_MA_blow.1.cls ∈ gtbl ∧ Cond.code M_MA_blow.1 M_MA_blow.2.1 M_MA_blow.2.2.1 M_MA_blow.2.2.2 ∈ gtbl ∧ (M_MA_blow.1.cls ≠ "java/lang/invoke/MethodHandle" ∧ M_MA_blow.1.cls ≠ "java/lang/invoke/VarHandle" ∧ (parseMethodDescriptor M_MA_blow.1.desc).map (fun d => d.parameters.length) = some 1) ∧ M_MA_blow.2.2.1 ≤ 45 := ⟨gt_in 524 (by decide +kernel) rfl, gt_in 525 (by decide +kernel) rfl, gt_in 45 (by decide +kernel) rfl, gt_in 526 (by decide +kernel) rfl, ⟨by decide, by decide, by decide +kernel⟩, by decide⟩
theorem k_MA_83 : CallV "BlownByAll$Mass" 83 M_MA_blow 1 := ⟨gt_in 523 (by decide +kernel) rfl, kc_MA_blow⟩
theorem k_MA_59 : CallV "BlownByAll$Mass" 59 M_PI_isSounding 2 := ⟨gt_in 527 (by decide +kernel) rfl, kc_PI_isSounding⟩
theorem k_MA_69 : CallS "BlownByAll$Mass" 69 M_MT_min 2 := ⟨gt_in 528 (by decide +kernel) rfl, kc_MT_min⟩
theorem k_MA_72 : CallS "BlownByAll$Mass" 72 M_MT_max 2 := ⟨gt_in 529 (by decide +kernel) rfl, kc_MT_max⟩
theorem kc_BB_sags : Cond.instanceMethod M_BB_sags.1 ∈ gtbl ∧ Cond.selects M_BB_sags.1.cls M_BB_sags.1 M_BB_sags.1 ∈ gtbl ∧ Cond.initialized M_BB_sags.1.cls ∈ gtbl ∧ Cond.code M_BB_sags.1 M_BB_sags.2.1 M_BB_sags.2.2.1 M_BB_sags.2.2.2 ∈ gtbl ∧ (M_BB_sags.1.cls ≠ "java/lang/invoke/MethodHandle" ∧ M_BB_sags.1.cls ≠ "java/lang/invoke/VarHandle" ∧ (parseMethodDescriptor M_BB_sags.1.desc).map (fun d => d.parameters.length) = some 2) ∧ M_BB_sags.2.2.1 ≤ 45 := ⟨gt_in 531 (by decide +kernel) rfl, gt_in 532 (by decide +kernel) rfl, gt_in 41 (by decide +kernel) rfl, gt_in 533 (by decide +kernel) rfl, ⟨by decide, by decide, by decide +kernel⟩, by decide⟩
theorem k_LW_84 : CallV "BlownByAllLaw" 84 M_BB_sags 2 := ⟨gt_in 530 (by decide +kernel) rfl, kc_BB_sags⟩
theorem kc_BB_total : Cond.instanceMethod M_BB_total.1 ∈ gtbl ∧ Cond.selects M_BB_total.1.cls M_BB_total.1 M_BB_total.1 ∈ gtbl ∧ Cond.initialized M_BB_total.1.cls ∈ gtbl ∧ Cond.code M_BB_total.1 M_BB_total.2.1 M_BB_total.2.2.1 M_BB_total.2.2.2 ∈ gtbl ∧ (M_BB_total.1.cls ≠ "java/lang/invoke/MethodHandle" ∧ M_BB_total.1.cls ≠ "java/lang/invoke/VarHandle" ∧ (parseMethodDescriptor M_BB_total.1.desc).map (fun d => d.parameters.length) = some 0) ∧ M_BB_total.2.2.1 ≤ 45 := ⟨gt_in 535 (by decide +kernel) rfl, gt_in 536 (by decide +kernel) rfl, gt_in 41 (by decide +kernel) rfl, gt_in 537 (by decide +kernel) rfl, ⟨by decide, by decide, by decide +kernel⟩, by decide⟩
theorem k_LW_88 : CallV "BlownByAllLaw" 88 M_BB_total 0 := ⟨gt_in 534 (by decide +kernel) rfl, kc_BB_total⟩
theorem kc_MA_playAll : Cond.instanceMethod M_MA_playAll.1 ∈ gtbl ∧ Cond.selects M_MA_playAll.1.cls M_MA_playAll.1 M_MA_playAll.1 ∈ gtbl ∧ Cond.initialized M_MA_playAll.1.cls ∈ gtbl ∧ Cond.code M_MA_playAll.1 M_MA_playAll.2.1 M_MA_playAll.2.2.1 M_MA_playAll.2.2.2 ∈ gtbl ∧ (M_MA_playAll.1.cls ≠ "java/lang/invoke/MethodHandle" ∧ M_MA_playAll.1.cls ≠ "java/lang/invoke/VarHandle" ∧ (parseMethodDescriptor M_MA_playAll.1.desc).map (fun d => d.parameters.length) = some 1) ∧ M_MA_playAll.2.2.1 ≤ 45 := ⟨gt_in 539 (by decide +kernel) rfl, gt_in 540 (by decide +kernel) rfl, gt_in 45 (by decide +kernel) rfl, gt_in 541 (by decide +kernel) rfl, ⟨by decide, by decide, by decide +kernel⟩, by decide⟩
theorem k_BB_167 : CallV "BlownByAll" 167 M_MA_playAll 1 := ⟨gt_in 538 (by decide +kernel) rfl, kc_MA_playAll⟩
theorem k_MA_87 : CallV "BlownByAll$Mass" 87 M_MA_play 2 := ⟨gt_in 542 (by decide +kernel) rfl, kc_MA_play⟩
theorem kc_BB_first : Cond.instanceMethod M_BB_first.1 ∈ gtbl ∧ Cond.selects M_BB_first.1.cls M_BB_first.1 M_BB_first.1 ∈ gtbl ∧ Cond.initialized M_BB_first.1.cls ∈ gtbl ∧ Cond.code M_BB_first.1 M_BB_first.2.1 M_BB_first.2.2.1 M_BB_first.2.2.2 ∈ gtbl ∧ (M_BB_first.1.cls ≠ "java/lang/invoke/MethodHandle" ∧ M_BB_first.1.cls ≠ "java/lang/invoke/VarHandle" ∧ (parseMethodDescriptor M_BB_first.1.desc).map (fun d => d.parameters.length) = some 0) ∧ M_BB_first.2.2.1 ≤ 45 := ⟨gt_in 544 (by decide +kernel) rfl, gt_in 545 (by decide +kernel) rfl, gt_in 41 (by decide +kernel) rfl, gt_in 546 (by decide +kernel) rfl, ⟨by decide, by decide, by decide +kernel⟩, by decide⟩
theorem k_LW_92 : CallV "BlownByAllLaw" 92 M_BB_first 0 := ⟨gt_in 543 (by decide +kernel) rfl, kc_BB_first⟩
theorem kc_MA_firstMissing : Cond.instanceMethod M_MA_firstMissing.1 ∈ gtbl ∧ Cond.selects M_MA_firstMissing.1.cls M_MA_firstMissing.1 M_MA_firstMissing.1 ∈ gtbl ∧ Cond.initialized M_MA_firstMissing.1.cls ∈ gtbl ∧ Cond.code M_MA_firstMissing.1 M_MA_firstMissing.2.1 M_MA_firstMissing.2.2.1 M_MA_firstMissing.2.2.2 ∈ gtbl ∧ (M_MA_firstMissing.1.cls ≠ "java/lang/invoke/MethodHandle" ∧ M_MA_firstMissing.1.cls ≠ "java/lang/invoke/VarHandle" ∧ (parseMethodDescriptor M_MA_firstMissing.1.desc).map (fun d => d.parameters.length) = some 0) ∧ M_MA_firstMissing.2.2.1 ≤ 45 := ⟨gt_in 548 (by decide +kernel) rfl, gt_in 549 (by decide +kernel) rfl, gt_in 45 (by decide +kernel) rfl, gt_in 550 (by decide +kernel) rfl, ⟨by decide, by decide, by decide +kernel⟩, by decide⟩
theorem k_BB_170 : CallV "BlownByAll" 170 M_MA_firstMissing 0 := ⟨gt_in 547 (by decide +kernel) rfl, kc_MA_firstMissing⟩
theorem kc_BB_worst : Cond.instanceMethod M_BB_worst.1 ∈ gtbl ∧ Cond.selects M_BB_worst.1.cls M_BB_worst.1 M_BB_worst.1 ∈ gtbl ∧ Cond.initialized M_BB_worst.1.cls ∈ gtbl ∧ Cond.code M_BB_worst.1 M_BB_worst.2.1 M_BB_worst.2.2.1 M_BB_worst.2.2.2 ∈ gtbl ∧ (M_BB_worst.1.cls ≠ "java/lang/invoke/MethodHandle" ∧ M_BB_worst.1.cls ≠ "java/lang/invoke/VarHandle" ∧ (parseMethodDescriptor M_BB_worst.1.desc).map (fun d => d.parameters.length) = some 0) ∧ M_BB_worst.2.2.1 ≤ 45 := ⟨gt_in 552 (by decide +kernel) rfl, gt_in 553 (by decide +kernel) rfl, gt_in 41 (by decide +kernel) rfl, gt_in 554 (by decide +kernel) rfl, ⟨by decide, by decide, by decide +kernel⟩, by decide⟩
theorem k_LW_96 : CallV "BlownByAllLaw" 96 M_BB_worst 0 := ⟨gt_in 551 (by decide +kernel) rfl, kc_BB_worst⟩
theorem kc_BB_bestLate : Cond.instanceMethod M_BB_bestLate.1 ∈ gtbl ∧ Cond.selects M_BB_bestLate.1.cls M_BB_bestLate.1 M_BB_bestLate.1 ∈ gtbl ∧ Cond.initialized M_BB_bestLate.1.cls ∈ gtbl ∧ Cond.code M_BB_bestLate.1 M_BB_bestLate.2.1 M_BB_bestLate.2.2.1 M_BB_bestLate.2.2.2 ∈ gtbl ∧ (M_BB_bestLate.1.cls ≠ "java/lang/invoke/MethodHandle" ∧ M_BB_bestLate.1.cls ≠ "java/lang/invoke/VarHandle" ∧ (parseMethodDescriptor M_BB_bestLate.1.desc).map (fun d => d.parameters.length) = some 0) ∧ M_BB_bestLate.2.2.1 ≤ 45 := ⟨gt_in 556 (by decide +kernel) rfl, gt_in 557 (by decide +kernel) rfl, gt_in 41 (by decide +kernel) rfl, gt_in 558 (by decide +kernel) rfl, ⟨by decide, by decide, by decide +kernel⟩, by decide⟩
theorem k_LW_100 : CallV "BlownByAllLaw" 100 M_BB_bestLate 0 := ⟨gt_in 555 (by decide +kernel) rfl, kc_BB_bestLate⟩
theorem kc_BB_phases : Cond.instanceMethod M_BB_phases.1 ∈ gtbl ∧ Cond.selects M_BB_phases.1.cls M_BB_phases.1 M_BB_phases.1 ∈ gtbl ∧ Cond.initialized M_BB_phases.1.cls ∈ gtbl ∧ Cond.code M_BB_phases.1 M_BB_phases.2.1 M_BB_phases.2.2.1 M_BB_phases.2.2.2 ∈ gtbl ∧ (M_BB_phases.1.cls ≠ "java/lang/invoke/MethodHandle" ∧ M_BB_phases.1.cls ≠ "java/lang/invoke/VarHandle" ∧ (parseMethodDescriptor M_BB_phases.1.desc).map (fun d => d.parameters.length) = some 1) ∧ M_BB_phases.2.2.1 ≤ 45 := ⟨gt_in 560 (by decide +kernel) rfl, gt_in 561 (by decide +kernel) rfl, gt_in 41 (by decide +kernel) rfl, gt_in 562 (by decide +kernel) rfl, ⟨by decide, by decide, by decide +kernel⟩, by decide⟩
theorem k_LW_104 : CallV "BlownByAllLaw" 104 M_BB_phases 1 := ⟨gt_in 559 (by decide +kernel) rfl, kc_BB_phases⟩
theorem kc_PH_find : Cond.instanceMethod M_PH_find.1 ∈ gtbl ∧ Cond.selects M_PH_find.1.cls M_PH_find.1 M_PH_find.1 ∈ gtbl ∧ Cond.initialized M_PH_find.1.cls ∈ gtbl ∧ Cond.code M_PH_find.1 M_PH_find.2.1 M_PH_find.2.2.1 M_PH_find.2.2.2 ∈ gtbl ∧ (M_PH_find.1.cls ≠ "java/lang/invoke/MethodHandle" ∧ M_PH_find.1.cls ≠ "java/lang/invoke/VarHandle" ∧ (parseMethodDescriptor M_PH_find.1.desc).map (fun d => d.parameters.length) = some 1) ∧ M_PH_find.2.2.1 ≤ 45 := ⟨gt_in 564 (by decide +kernel) rfl, gt_in 565 (by decide +kernel) rfl, gt_in 46 (by decide +kernel) rfl, gt_in 566 (by decide +kernel) rfl, ⟨by decide, by decide, by decide +kernel⟩, by decide⟩
theorem k_BB_173 : CallV "BlownByAll" 173 M_PH_find 1 := ⟨gt_in 563 (by decide +kernel) rfl, kc_PH_find⟩
theorem k_PH_32 : CallV "BlownByAll$PhasePlan" 32 M_PE_sittingAt 1 := ⟨gt_in 567 (by decide +kernel) rfl, kc_PE_sittingAt⟩
theorem kc_IG_bitCount : Cond.static M_IG_bitCount.1 ∈ gtbl ∧ Cond.initialized M_IG_bitCount.1.cls ∈ gtbl ∧ Cond.code M_IG_bitCount.1 M_IG_bitCount.2.1 M_IG_bitCount.2.2.1 M_IG_bitCount.2.2.2 ∈ gtbl ∧ (M_IG_bitCount.1.cls ≠ "java/lang/invoke/MethodHandle" ∧ M_IG_bitCount.1.cls ≠ "java/lang/invoke/VarHandle" ∧ (parseMethodDescriptor M_IG_bitCount.1.desc).map (fun d => d.parameters.length) = some 1) ∧ M_IG_bitCount.2.2.1 ≤ 45 := ⟨gt_in 569 (by decide +kernel) rfl, gt_in 52 (by decide +kernel) rfl, gt_in 570 (by decide +kernel) rfl, ⟨by decide, by decide, by decide +kernel⟩, by decide⟩
theorem k_PH_38 : CallS "BlownByAll$PhasePlan" 38 M_IG_bitCount 1 := ⟨gt_in 568 (by decide +kernel) rfl, kc_IG_bitCount⟩
theorem kc_PH_list : Cond.instanceMethod M_PH_list.1 ∈ gtbl ∧ Cond.selects M_PH_list.1.cls M_PH_list.1 M_PH_list.1 ∈ gtbl ∧ Cond.initialized M_PH_list.1.cls ∈ gtbl ∧ Cond.code M_PH_list.1 M_PH_list.2.1 M_PH_list.2.2.1 M_PH_list.2.2.2 ∈ gtbl ∧ (M_PH_list.1.cls ≠ "java/lang/invoke/MethodHandle" ∧ M_PH_list.1.cls ≠ "java/lang/invoke/VarHandle" ∧ (parseMethodDescriptor M_PH_list.1.desc).map (fun d => d.parameters.length) = some 1) ∧ M_PH_list.2.2.1 ≤ 45 := ⟨gt_in 576 (by decide +kernel) rfl, gt_in 7 (by decide +kernel) rfl, gt_in 46 (by decide +kernel) rfl, gt_in 577 (by decide +kernel) rfl, ⟨by decide, by decide, by decide +kernel⟩, by decide⟩
theorem k_PH_47 : CallV "BlownByAll$PhasePlan" 47 M_PH_list 1 := ⟨gt_in 574 (by decide +kernel) rfl, kc_PH_list⟩
theorem kc_PE_forceOf : Cond.instanceMethod M_PE_forceOf.1 ∈ gtbl ∧ Cond.selects M_PE_forceOf.1.cls M_PE_forceOf.1 M_PE_forceOf.1 ∈ gtbl ∧ Cond.initialized M_PE_forceOf.1.cls ∈ gtbl ∧ Cond.code M_PE_forceOf.1 M_PE_forceOf.2.1 M_PE_forceOf.2.2.1 M_PE_forceOf.2.2.2 ∈ gtbl ∧ (M_PE_forceOf.1.cls ≠ "java/lang/invoke/MethodHandle" ∧ M_PE_forceOf.1.cls ≠ "java/lang/invoke/VarHandle" ∧ (parseMethodDescriptor M_PE_forceOf.1.desc).map (fun d => d.parameters.length) = some 1) ∧ M_PE_forceOf.2.2.1 ≤ 45 := ⟨gt_in 579 (by decide +kernel) rfl, gt_in 580 (by decide +kernel) rfl, gt_in 44 (by decide +kernel) rfl, gt_in 581 (by decide +kernel) rfl, ⟨by decide, by decide, by decide +kernel⟩, by decide⟩
theorem k_PH_51 : CallV "BlownByAll$PhasePlan" 51 M_PE_forceOf 1 := ⟨gt_in 578 (by decide +kernel) rfl, kc_PE_forceOf⟩
theorem k_PH_54 : CallV "BlownByAll$PhasePlan" 54 M_MA_fill 1 := ⟨gt_in 582 (by decide +kernel) rfl, kc_MA_fill⟩
theorem kc_PH_foresee : Cond.instanceMethod M_PH_foresee.1 ∈ gtbl ∧ Cond.selects M_PH_foresee.1.cls M_PH_foresee.1 M_PH_foresee.1 ∈ gtbl ∧ Cond.initialized M_PH_foresee.1.cls ∈ gtbl ∧ Cond.code M_PH_foresee.1 M_PH_foresee.2.1 M_PH_foresee.2.2.1 M_PH_foresee.2.2.2 ∈ gtbl ∧ (M_PH_foresee.1.cls ≠ "java/lang/invoke/MethodHandle" ∧ M_PH_foresee.1.cls ≠ "java/lang/invoke/VarHandle" ∧ (parseMethodDescriptor M_PH_foresee.1.desc).map (fun d => d.parameters.length) = some 0) ∧ M_PH_foresee.2.2.1 ≤ 45 := ⟨gt_in 585 (by decide +kernel) rfl, gt_in 8 (by decide +kernel) rfl, gt_in 46 (by decide +kernel) rfl, gt_in 586 (by decide +kernel) rfl, ⟨by decide, by decide, by decide +kernel⟩, by decide⟩
theorem k_PH_59 : CallV "BlownByAll$PhasePlan" 59 M_PH_foresee 0 := ⟨gt_in 583 (by decide +kernel) rfl, kc_PH_foresee⟩
theorem k_PH_76 : CallV "BlownByAll$PhasePlan" 76 M_MA_blow 1 := ⟨gt_in 587 (by decide +kernel) rfl, kc_MA_blow⟩
theorem kc_PH_leastAlone : Cond.instanceMethod M_PH_leastAlone.1 ∈ gtbl ∧ Cond.selects M_PH_leastAlone.1.cls M_PH_leastAlone.1 M_PH_leastAlone.1 ∈ gtbl ∧ Cond.initialized M_PH_leastAlone.1.cls ∈ gtbl ∧ Cond.code M_PH_leastAlone.1 M_PH_leastAlone.2.1 M_PH_leastAlone.2.2.1 M_PH_leastAlone.2.2.2 ∈ gtbl ∧ (M_PH_leastAlone.1.cls ≠ "java/lang/invoke/MethodHandle" ∧ M_PH_leastAlone.1.cls ≠ "java/lang/invoke/VarHandle" ∧ (parseMethodDescriptor M_PH_leastAlone.1.desc).map (fun d => d.parameters.length) = some 1) ∧ M_PH_leastAlone.2.2.1 ≤ 45 := ⟨gt_in 590 (by decide +kernel) rfl, gt_in 9 (by decide +kernel) rfl, gt_in 46 (by decide +kernel) rfl, gt_in 591 (by decide +kernel) rfl, ⟨by decide, by decide, by decide +kernel⟩, by decide⟩
theorem k_PH_79 : CallV "BlownByAll$PhasePlan" 79 M_PH_leastAlone 1 := ⟨gt_in 588 (by decide +kernel) rfl, kc_PH_leastAlone⟩
theorem kc_PH_lastPhase : Cond.instanceMethod M_PH_lastPhase.1 ∈ gtbl ∧ Cond.selects M_PH_lastPhase.1.cls M_PH_lastPhase.1 M_PH_lastPhase.1 ∈ gtbl ∧ Cond.initialized M_PH_lastPhase.1.cls ∈ gtbl ∧ Cond.code M_PH_lastPhase.1 M_PH_lastPhase.2.1 M_PH_lastPhase.2.2.1 M_PH_lastPhase.2.2.2 ∈ gtbl ∧ (M_PH_lastPhase.1.cls ≠ "java/lang/invoke/MethodHandle" ∧ M_PH_lastPhase.1.cls ≠ "java/lang/invoke/VarHandle" ∧ (parseMethodDescriptor M_PH_lastPhase.1.desc).map (fun d => d.parameters.length) = some 1) ∧ M_PH_lastPhase.2.2.1 ≤ 45 := ⟨gt_in 595 (by decide +kernel) rfl, gt_in 10 (by decide +kernel) rfl, gt_in 46 (by decide +kernel) rfl, gt_in 596 (by decide +kernel) rfl, ⟨by decide, by decide, by decide +kernel⟩, by decide⟩
theorem k_PH_82 : CallV "BlownByAll$PhasePlan" 82 M_PH_lastPhase 1 := ⟨gt_in 593 (by decide +kernel) rfl, kc_PH_lastPhase⟩
theorem kc_PH_breath : Cond.instanceMethod M_PH_breath.1 ∈ gtbl ∧ Cond.selects M_PH_breath.1.cls M_PH_breath.1 M_PH_breath.1 ∈ gtbl ∧ Cond.initialized M_PH_breath.1.cls ∈ gtbl ∧ Cond.code M_PH_breath.1 M_PH_breath.2.1 M_PH_breath.2.2.1 M_PH_breath.2.2.2 ∈ gtbl ∧ (M_PH_breath.1.cls ≠ "java/lang/invoke/MethodHandle" ∧ M_PH_breath.1.cls ≠ "java/lang/invoke/VarHandle" ∧ (parseMethodDescriptor M_PH_breath.1.desc).map (fun d => d.parameters.length) = some 1) ∧ M_PH_breath.2.2.1 ≤ 45 := ⟨gt_in 599 (by decide +kernel) rfl, gt_in 11 (by decide +kernel) rfl, gt_in 46 (by decide +kernel) rfl, gt_in 600 (by decide +kernel) rfl, ⟨by decide, by decide, by decide +kernel⟩, by decide⟩
theorem k_PH_85 : CallV "BlownByAll$PhasePlan" 85 M_PH_breath 1 := ⟨gt_in 597 (by decide +kernel) rfl, kc_PH_breath⟩
theorem kc_MA_addAtBreaths : Cond.instanceMethod M_MA_addAtBreaths.1 ∈ gtbl ∧ Cond.selects M_MA_addAtBreaths.1.cls M_MA_addAtBreaths.1 M_MA_addAtBreaths.1 ∈ gtbl ∧ Cond.initialized M_MA_addAtBreaths.1.cls ∈ gtbl ∧ Cond.code M_MA_addAtBreaths.1 M_MA_addAtBreaths.2.1 M_MA_addAtBreaths.2.2.1 M_MA_addAtBreaths.2.2.2 ∈ gtbl ∧ (M_MA_addAtBreaths.1.cls ≠ "java/lang/invoke/MethodHandle" ∧ M_MA_addAtBreaths.1.cls ≠ "java/lang/invoke/VarHandle" ∧ (parseMethodDescriptor M_MA_addAtBreaths.1.desc).map (fun d => d.parameters.length) = some 3) ∧ M_MA_addAtBreaths.2.2.1 ≤ 45 := ⟨gt_in 602 (by decide +kernel) rfl, gt_in 603 (by decide +kernel) rfl, gt_in 45 (by decide +kernel) rfl, gt_in 604 (by decide +kernel) rfl, ⟨by decide, by decide, by decide +kernel⟩, by decide⟩
theorem k_PH_88 : CallV "BlownByAll$PhasePlan" 88 M_MA_addAtBreaths 3 := ⟨gt_in 601 (by decide +kernel) rfl, kc_MA_addAtBreaths⟩
theorem kc_MT_floorMod : Cond.static M_MT_floorMod.1 ∈ gtbl ∧ Cond.initialized M_MT_floorMod.1.cls ∈ gtbl ∧ Cond.code M_MT_floorMod.1 M_MT_floorMod.2.1 M_MT_floorMod.2.2.1 M_MT_floorMod.2.2.2 ∈ gtbl ∧ (M_MT_floorMod.1.cls ≠ "java/lang/invoke/MethodHandle" ∧ M_MT_floorMod.1.cls ≠ "java/lang/invoke/VarHandle" ∧ (parseMethodDescriptor M_MT_floorMod.1.desc).map (fun d => d.parameters.length) = some 2) ∧ M_MT_floorMod.2.2.1 ≤ 45 := ⟨gt_in 606 (by decide +kernel) rfl, gt_in 51 (by decide +kernel) rfl, gt_in 607 (by decide +kernel) rfl, ⟨by decide, by decide, by decide +kernel⟩, by decide⟩
theorem k_MA_54 : CallS "BlownByAll$Mass" 54 M_MT_floorMod 2 := ⟨gt_in 605 (by decide +kernel) rfl, kc_MT_floorMod⟩
theorem k_PH_92 : CallS "BlownByAll$PhasePlan" 92 M_MT_min 2 := ⟨gt_in 608 (by decide +kernel) rfl, kc_MT_min⟩
theorem kc_PH_tryFrom : Cond.static M_PH_tryFrom.1 ∈ gtbl ∧ Cond.initialized M_PH_tryFrom.1.cls ∈ gtbl ∧ Cond.code M_PH_tryFrom.1 M_PH_tryFrom.2.1 M_PH_tryFrom.2.2.1 M_PH_tryFrom.2.2.2 ∈ gtbl ∧ (M_PH_tryFrom.1.cls ≠ "java/lang/invoke/MethodHandle" ∧ M_PH_tryFrom.1.cls ≠ "java/lang/invoke/VarHandle" ∧ (parseMethodDescriptor M_PH_tryFrom.1.desc).map (fun d => d.parameters.length) = some 2) ∧ M_PH_tryFrom.2.2.1 ≤ 45 := ⟨gt_in 610 (by decide +kernel) rfl, gt_in 46 (by decide +kernel) rfl, gt_in 611 (by decide +kernel) rfl, ⟨by decide, by decide, by decide +kernel⟩, by decide⟩
theorem k_PH_66 : CallS "BlownByAll$PhasePlan" 66 M_PH_tryFrom 2 := ⟨gt_in 609 (by decide +kernel) rfl, kc_PH_tryFrom⟩
theorem kc_PH_settle : Cond.instanceMethod M_PH_settle.1 ∈ gtbl ∧ Cond.selects M_PH_settle.1.cls M_PH_settle.1 M_PH_settle.1 ∈ gtbl ∧ Cond.initialized M_PH_settle.1.cls ∈ gtbl ∧ Cond.code M_PH_settle.1 M_PH_settle.2.1 M_PH_settle.2.2.1 M_PH_settle.2.2.2 ∈ gtbl ∧ (M_PH_settle.1.cls ≠ "java/lang/invoke/MethodHandle" ∧ M_PH_settle.1.cls ≠ "java/lang/invoke/VarHandle" ∧ (parseMethodDescriptor M_PH_settle.1.desc).map (fun d => d.parameters.length) = some 1) ∧ M_PH_settle.2.2.1 ≤ 45 := ⟨gt_in 614 (by decide +kernel) rfl, gt_in 12 (by decide +kernel) rfl, gt_in 46 (by decide +kernel) rfl, gt_in 615 (by decide +kernel) rfl, ⟨by decide, by decide, by decide +kernel⟩, by decide⟩
theorem k_PH_108 : CallV "BlownByAll$PhasePlan" 108 M_PH_settle 1 := ⟨gt_in 612 (by decide +kernel) rfl, kc_PH_settle⟩
theorem kc_BB_phaseAt : Cond.instanceMethod M_BB_phaseAt.1 ∈ gtbl ∧ Cond.selects M_BB_phaseAt.1.cls M_BB_phaseAt.1 M_BB_phaseAt.1 ∈ gtbl ∧ Cond.initialized M_BB_phaseAt.1.cls ∈ gtbl ∧ Cond.code M_BB_phaseAt.1 M_BB_phaseAt.2.1 M_BB_phaseAt.2.2.1 M_BB_phaseAt.2.2.2 ∈ gtbl ∧ (M_BB_phaseAt.1.cls ≠ "java/lang/invoke/MethodHandle" ∧ M_BB_phaseAt.1.cls ≠ "java/lang/invoke/VarHandle" ∧ (parseMethodDescriptor M_BB_phaseAt.1.desc).map (fun d => d.parameters.length) = some 2) ∧ M_BB_phaseAt.2.2.1 ≤ 45 := ⟨gt_in 617 (by decide +kernel) rfl, gt_in 618 (by decide +kernel) rfl, gt_in 41 (by decide +kernel) rfl, gt_in 619 (by decide +kernel) rfl, ⟨by decide, by decide, by decide +kernel⟩, by decide⟩
theorem k_LW_108 : CallV "BlownByAllLaw" 108 M_BB_phaseAt 2 := ⟨gt_in 616 (by decide +kernel) rfl, kc_BB_phaseAt⟩
theorem kc_PH_phaseOf : Cond.instanceMethod M_PH_phaseOf.1 ∈ gtbl ∧ Cond.selects M_PH_phaseOf.1.cls M_PH_phaseOf.1 M_PH_phaseOf.1 ∈ gtbl ∧ Cond.initialized M_PH_phaseOf.1.cls ∈ gtbl ∧ Cond.code M_PH_phaseOf.1 M_PH_phaseOf.2.1 M_PH_phaseOf.2.2.1 M_PH_phaseOf.2.2.2 ∈ gtbl ∧ (M_PH_phaseOf.1.cls ≠ "java/lang/invoke/MethodHandle" ∧ M_PH_phaseOf.1.cls ≠ "java/lang/invoke/VarHandle" ∧ (parseMethodDescriptor M_PH_phaseOf.1.desc).map (fun d => d.parameters.length) = some 1) ∧ M_PH_phaseOf.2.2.1 ≤ 45 := ⟨gt_in 621 (by decide +kernel) rfl, gt_in 622 (by decide +kernel) rfl, gt_in 46 (by decide +kernel) rfl, gt_in 623 (by decide +kernel) rfl, ⟨by decide, by decide, by decide +kernel⟩, by decide⟩
theorem k_BB_179 : CallV "BlownByAll" 179 M_PH_phaseOf 1 := ⟨gt_in 620 (by decide +kernel) rfl, kc_PH_phaseOf⟩
theorem kc_BB_seats : Cond.instanceMethod M_BB_seats.1 ∈ gtbl ∧ Cond.selects M_BB_seats.1.cls M_BB_seats.1 M_BB_seats.1 ∈ gtbl ∧ Cond.initialized M_BB_seats.1.cls ∈ gtbl ∧ Cond.code M_BB_seats.1 M_BB_seats.2.1 M_BB_seats.2.2.1 M_BB_seats.2.2.2 ∈ gtbl ∧ (M_BB_seats.1.cls ≠ "java/lang/invoke/MethodHandle" ∧ M_BB_seats.1.cls ≠ "java/lang/invoke/VarHandle" ∧ (parseMethodDescriptor M_BB_seats.1.desc).map (fun d => d.parameters.length) = some 0) ∧ M_BB_seats.2.2.1 ≤ 45 := ⟨gt_in 625 (by decide +kernel) rfl, gt_in 626 (by decide +kernel) rfl, gt_in 41 (by decide +kernel) rfl, gt_in 627 (by decide +kernel) rfl, ⟨by decide, by decide, by decide +kernel⟩, by decide⟩
theorem k_LW_112 : CallV "BlownByAllLaw" 112 M_BB_seats 0 := ⟨gt_in 624 (by decide +kernel) rfl, kc_BB_seats⟩
theorem kc_SE_find : Cond.instanceMethod M_SE_find.1 ∈ gtbl ∧ Cond.selects M_SE_find.1.cls M_SE_find.1 M_SE_find.1 ∈ gtbl ∧ Cond.initialized M_SE_find.1.cls ∈ gtbl ∧ Cond.code M_SE_find.1 M_SE_find.2.1 M_SE_find.2.2.1 M_SE_find.2.2.2 ∈ gtbl ∧ (M_SE_find.1.cls ≠ "java/lang/invoke/MethodHandle" ∧ M_SE_find.1.cls ≠ "java/lang/invoke/VarHandle" ∧ (parseMethodDescriptor M_SE_find.1.desc).map (fun d => d.parameters.length) = some 0) ∧ M_SE_find.2.2.1 ≤ 45 := ⟨gt_in 629 (by decide +kernel) rfl, gt_in 630 (by decide +kernel) rfl, gt_in 47 (by decide +kernel) rfl, gt_in 631 (by decide +kernel) rfl, ⟨by decide, by decide, by decide +kernel⟩, by decide⟩
theorem k_BB_182 : CallV "BlownByAll" 182 M_SE_find 0 := ⟨gt_in 628 (by decide +kernel) rfl, kc_SE_find⟩
theorem kc_SE_setPrices : Cond.instanceMethod M_SE_setPrices.1 ∈ gtbl ∧ Cond.selects M_SE_setPrices.1.cls M_SE_setPrices.1 M_SE_setPrices.1 ∈ gtbl ∧ Cond.initialized M_SE_setPrices.1.cls ∈ gtbl ∧ Cond.code M_SE_setPrices.1 M_SE_setPrices.2.1 M_SE_setPrices.2.2.1 M_SE_setPrices.2.2.2 ∈ gtbl ∧ (M_SE_setPrices.1.cls ≠ "java/lang/invoke/MethodHandle" ∧ M_SE_setPrices.1.cls ≠ "java/lang/invoke/VarHandle" ∧ (parseMethodDescriptor M_SE_setPrices.1.desc).map (fun d => d.parameters.length) = some 1) ∧ M_SE_setPrices.2.2.1 ≤ 45 := ⟨gt_in 634 (by decide +kernel) rfl, gt_in 13 (by decide +kernel) rfl, gt_in 47 (by decide +kernel) rfl, gt_in 635 (by decide +kernel) rfl, ⟨by decide, by decide, by decide +kernel⟩, by decide⟩
theorem k_SE_36 : CallV "BlownByAll$SeatPlan" 36 M_SE_setPrices 1 := ⟨gt_in 632 (by decide +kernel) rfl, kc_SE_setPrices⟩
theorem k_SE_50 : CallV "BlownByAll$SeatPlan" 50 M_MA_gather 2 := ⟨gt_in 636 (by decide +kernel) rfl, kc_MA_gather⟩
theorem kc_SE_seatsOf : Cond.static M_SE_seatsOf.1 ∈ gtbl ∧ Cond.initialized M_SE_seatsOf.1.cls ∈ gtbl ∧ Cond.code M_SE_seatsOf.1 M_SE_seatsOf.2.1 M_SE_seatsOf.2.2.1 M_SE_seatsOf.2.2.2 ∈ gtbl ∧ (M_SE_seatsOf.1.cls ≠ "java/lang/invoke/MethodHandle" ∧ M_SE_seatsOf.1.cls ≠ "java/lang/invoke/VarHandle" ∧ (parseMethodDescriptor M_SE_seatsOf.1.desc).map (fun d => d.parameters.length) = some 1) ∧ M_SE_seatsOf.2.2.1 ≤ 45 := ⟨gt_in 638 (by decide +kernel) rfl, gt_in 47 (by decide +kernel) rfl, gt_in 639 (by decide +kernel) rfl, ⟨by decide, by decide, by decide +kernel⟩, by decide⟩
theorem k_SE_56 : CallS "BlownByAll$SeatPlan" 56 M_SE_seatsOf 1 := ⟨gt_in 637 (by decide +kernel) rfl, kc_SE_seatsOf⟩
theorem k_SE_60 : CallV "BlownByAll$SeatPlan" 60 M_MA_blow 1 := ⟨gt_in 642 (by decide +kernel) rfl, kc_MA_blow⟩
theorem kc_SE_bestWith : Cond.instanceMethod M_SE_bestWith.1 ∈ gtbl ∧ Cond.selects M_SE_bestWith.1.cls M_SE_bestWith.1 M_SE_bestWith.1 ∈ gtbl ∧ Cond.initialized M_SE_bestWith.1.cls ∈ gtbl ∧ Cond.code M_SE_bestWith.1 M_SE_bestWith.2.1 M_SE_bestWith.2.2.1 M_SE_bestWith.2.2.2 ∈ gtbl ∧ (M_SE_bestWith.1.cls ≠ "java/lang/invoke/MethodHandle" ∧ M_SE_bestWith.1.cls ≠ "java/lang/invoke/VarHandle" ∧ (parseMethodDescriptor M_SE_bestWith.1.desc).map (fun d => d.parameters.length) = some 2) ∧ M_SE_bestWith.2.2.1 ≤ 45 := ⟨gt_in 646 (by decide +kernel) rfl, gt_in 14 (by decide +kernel) rfl, gt_in 47 (by decide +kernel) rfl, gt_in 647 (by decide +kernel) rfl, ⟨by decide, by decide, by decide +kernel⟩, by decide⟩
theorem k_SE_43 : CallV "BlownByAll$SeatPlan" 43 M_SE_bestWith 2 := ⟨gt_in 644 (by decide +kernel) rfl, kc_SE_bestWith⟩
theorem k_SE_70 : CallS "BlownByAll$SeatPlan" 70 M_MT_min 2 := ⟨gt_in 649 (by decide +kernel) rfl, kc_MT_min⟩
theorem kc_SE_least : Cond.instanceMethod M_SE_least.1 ∈ gtbl ∧ Cond.selects M_SE_least.1.cls M_SE_least.1 M_SE_least.1 ∈ gtbl ∧ Cond.initialized M_SE_least.1.cls ∈ gtbl ∧ Cond.code M_SE_least.1 M_SE_least.2.1 M_SE_least.2.2.1 M_SE_least.2.2.2 ∈ gtbl ∧ (M_SE_least.1.cls ≠ "java/lang/invoke/MethodHandle" ∧ M_SE_least.1.cls ≠ "java/lang/invoke/VarHandle" ∧ (parseMethodDescriptor M_SE_least.1.desc).map (fun d => d.parameters.length) = some 0) ∧ M_SE_least.2.2.1 ≤ 45 := ⟨gt_in 651 (by decide +kernel) rfl, gt_in 652 (by decide +kernel) rfl, gt_in 47 (by decide +kernel) rfl, gt_in 653 (by decide +kernel) rfl, ⟨by decide, by decide, by decide +kernel⟩, by decide⟩
theorem k_BB_185 : CallV "BlownByAll" 185 M_SE_least 0 := ⟨gt_in 650 (by decide +kernel) rfl, kc_SE_least⟩
theorem kc_SE_plan : Cond.instanceMethod M_SE_plan.1 ∈ gtbl ∧ Cond.selects M_SE_plan.1.cls M_SE_plan.1 M_SE_plan.1 ∈ gtbl ∧ Cond.initialized M_SE_plan.1.cls ∈ gtbl ∧ Cond.code M_SE_plan.1 M_SE_plan.2.1 M_SE_plan.2.2.1 M_SE_plan.2.2.2 ∈ gtbl ∧ (M_SE_plan.1.cls ≠ "java/lang/invoke/MethodHandle" ∧ M_SE_plan.1.cls ≠ "java/lang/invoke/VarHandle" ∧ (parseMethodDescriptor M_SE_plan.1.desc).map (fun d => d.parameters.length) = some 0) ∧ M_SE_plan.2.2.1 ≤ 45 := ⟨gt_in 656 (by decide +kernel) rfl, gt_in 15 (by decide +kernel) rfl, gt_in 47 (by decide +kernel) rfl, gt_in 657 (by decide +kernel) rfl, ⟨by decide, by decide, by decide +kernel⟩, by decide⟩
theorem k_SE_75 : CallV "BlownByAll$SeatPlan" 75 M_SE_plan 0 := ⟨gt_in 654 (by decide +kernel) rfl, kc_SE_plan⟩
theorem kc_BB_seatAt : Cond.instanceMethod M_BB_seatAt.1 ∈ gtbl ∧ Cond.selects M_BB_seatAt.1.cls M_BB_seatAt.1 M_BB_seatAt.1 ∈ gtbl ∧ Cond.initialized M_BB_seatAt.1.cls ∈ gtbl ∧ Cond.code M_BB_seatAt.1 M_BB_seatAt.2.1 M_BB_seatAt.2.2.1 M_BB_seatAt.2.2.2 ∈ gtbl ∧ (M_BB_seatAt.1.cls ≠ "java/lang/invoke/MethodHandle" ∧ M_BB_seatAt.1.cls ≠ "java/lang/invoke/VarHandle" ∧ (parseMethodDescriptor M_BB_seatAt.1.desc).map (fun d => d.parameters.length) = some 1) ∧ M_BB_seatAt.2.2.1 ≤ 45 := ⟨gt_in 659 (by decide +kernel) rfl, gt_in 660 (by decide +kernel) rfl, gt_in 41 (by decide +kernel) rfl, gt_in 661 (by decide +kernel) rfl, ⟨by decide, by decide, by decide +kernel⟩, by decide⟩
theorem k_LW_116 : CallV "BlownByAllLaw" 116 M_BB_seatAt 1 := ⟨gt_in 658 (by decide +kernel) rfl, kc_BB_seatAt⟩
theorem kc_SE_placeOf : Cond.instanceMethod M_SE_placeOf.1 ∈ gtbl ∧ Cond.selects M_SE_placeOf.1.cls M_SE_placeOf.1 M_SE_placeOf.1 ∈ gtbl ∧ Cond.initialized M_SE_placeOf.1.cls ∈ gtbl ∧ Cond.code M_SE_placeOf.1 M_SE_placeOf.2.1 M_SE_placeOf.2.2.1 M_SE_placeOf.2.2.2 ∈ gtbl ∧ (M_SE_placeOf.1.cls ≠ "java/lang/invoke/MethodHandle" ∧ M_SE_placeOf.1.cls ≠ "java/lang/invoke/VarHandle" ∧ (parseMethodDescriptor M_SE_placeOf.1.desc).map (fun d => d.parameters.length) = some 1) ∧ M_SE_placeOf.2.2.1 ≤ 45 := ⟨gt_in 663 (by decide +kernel) rfl, gt_in 664 (by decide +kernel) rfl, gt_in 47 (by decide +kernel) rfl, gt_in 665 (by decide +kernel) rfl, ⟨by decide, by decide, by decide +kernel⟩, by decide⟩
theorem k_BB_187 : CallV "BlownByAll" 187 M_SE_placeOf 1 := ⟨gt_in 662 (by decide +kernel) rfl, kc_SE_placeOf⟩
theorem kc_BB_bribes : Cond.instanceMethod M_BB_bribes.1 ∈ gtbl ∧ Cond.selects M_BB_bribes.1.cls M_BB_bribes.1 M_BB_bribes.1 ∈ gtbl ∧ Cond.initialized M_BB_bribes.1.cls ∈ gtbl ∧ Cond.code M_BB_bribes.1 M_BB_bribes.2.1 M_BB_bribes.2.2.1 M_BB_bribes.2.2.2 ∈ gtbl ∧ (M_BB_bribes.1.cls ≠ "java/lang/invoke/MethodHandle" ∧ M_BB_bribes.1.cls ≠ "java/lang/invoke/VarHandle" ∧ (parseMethodDescriptor M_BB_bribes.1.desc).map (fun d => d.parameters.length) = some 0) ∧ M_BB_bribes.2.2.1 ≤ 45 := ⟨gt_in 667 (by decide +kernel) rfl, gt_in 668 (by decide +kernel) rfl, gt_in 41 (by decide +kernel) rfl, gt_in 669 (by decide +kernel) rfl, ⟨by decide, by decide, by decide +kernel⟩, by decide⟩
theorem k_LW_120 : CallV "BlownByAllLaw" 120 M_BB_bribes 0 := ⟨gt_in 666 (by decide +kernel) rfl, kc_BB_bribes⟩
theorem kc_BP_find : Cond.instanceMethod M_BP_find.1 ∈ gtbl ∧ Cond.selects M_BP_find.1.cls M_BP_find.1 M_BP_find.1 ∈ gtbl ∧ Cond.initialized M_BP_find.1.cls ∈ gtbl ∧ Cond.code M_BP_find.1 M_BP_find.2.1 M_BP_find.2.2.1 M_BP_find.2.2.2 ∈ gtbl ∧ (M_BP_find.1.cls ≠ "java/lang/invoke/MethodHandle" ∧ M_BP_find.1.cls ≠ "java/lang/invoke/VarHandle" ∧ (parseMethodDescriptor M_BP_find.1.desc).map (fun d => d.parameters.length) = some 1) ∧ M_BP_find.2.2.1 ≤ 45 := ⟨gt_in 671 (by decide +kernel) rfl, gt_in 672 (by decide +kernel) rfl, gt_in 48 (by decide +kernel) rfl, gt_in 673 (by decide +kernel) rfl, ⟨by decide, by decide, by decide +kernel⟩, by decide⟩
theorem k_BB_190 : CallV "BlownByAll" 190 M_BP_find 1 := ⟨gt_in 670 (by decide +kernel) rfl, kc_BP_find⟩
theorem k_BP_23 : CallV "BlownByAll$BribePlan" 23 M_PI_has 1 := ⟨gt_in 674 (by decide +kernel) rfl, kc_PI_has⟩
theorem k_BP_39 : CallV "BlownByAll$BribePlan" 39 M_PE_sittingAt 1 := ⟨gt_in 675 (by decide +kernel) rfl, kc_PE_sittingAt⟩
theorem k_BP_45 : CallV "BlownByAll$BribePlan" 45 M_PE_forceOf 1 := ⟨gt_in 676 (by decide +kernel) rfl, kc_PE_forceOf⟩
theorem k_BP_48 : CallV "BlownByAll$BribePlan" 48 M_MA_fill 1 := ⟨gt_in 677 (by decide +kernel) rfl, kc_MA_fill⟩
theorem kc_BP_decideFrom : Cond.static M_BP_decideFrom.1 ∈ gtbl ∧ Cond.initialized M_BP_decideFrom.1.cls ∈ gtbl ∧ Cond.code M_BP_decideFrom.1 M_BP_decideFrom.2.1 M_BP_decideFrom.2.2.1 M_BP_decideFrom.2.2.2 ∈ gtbl ∧ (M_BP_decideFrom.1.cls ≠ "java/lang/invoke/MethodHandle" ∧ M_BP_decideFrom.1.cls ≠ "java/lang/invoke/VarHandle" ∧ (parseMethodDescriptor M_BP_decideFrom.1.desc).map (fun d => d.parameters.length) = some 3) ∧ M_BP_decideFrom.2.2.1 ≤ 45 := ⟨gt_in 679 (by decide +kernel) rfl, gt_in 48 (by decide +kernel) rfl, gt_in 680 (by decide +kernel) rfl, ⟨by decide, by decide, by decide +kernel⟩, by decide⟩
theorem k_BP_57 : CallS "BlownByAll$BribePlan" 57 M_BP_decideFrom 3 := ⟨gt_in 678 (by decide +kernel) rfl, kc_BP_decideFrom⟩
theorem k_BP_61 : CallS "BlownByAll$BribePlan" 61 M_IG_bitCount 1 := ⟨gt_in 681 (by decide +kernel) rfl, kc_IG_bitCount⟩
theorem k_BP_66 : CallV "BlownByAll$BribePlan" 66 M_MA_blow 1 := ⟨gt_in 682 (by decide +kernel) rfl, kc_MA_blow⟩
theorem kc_BP_nextToDecide : Cond.instanceMethod M_BP_nextToDecide.1 ∈ gtbl ∧ Cond.selects M_BP_nextToDecide.1.cls M_BP_nextToDecide.1 M_BP_nextToDecide.1 ∈ gtbl ∧ Cond.initialized M_BP_nextToDecide.1.cls ∈ gtbl ∧ Cond.code M_BP_nextToDecide.1 M_BP_nextToDecide.2.1 M_BP_nextToDecide.2.2.1 M_BP_nextToDecide.2.2.2 ∈ gtbl ∧ (M_BP_nextToDecide.1.cls ≠ "java/lang/invoke/MethodHandle" ∧ M_BP_nextToDecide.1.cls ≠ "java/lang/invoke/VarHandle" ∧ (parseMethodDescriptor M_BP_nextToDecide.1.desc).map (fun d => d.parameters.length) = some 1) ∧ M_BP_nextToDecide.2.2.1 ≤ 45 := ⟨gt_in 685 (by decide +kernel) rfl, gt_in 16 (by decide +kernel) rfl, gt_in 48 (by decide +kernel) rfl, gt_in 686 (by decide +kernel) rfl, ⟨by decide, by decide, by decide +kernel⟩, by decide⟩
theorem k_BP_69 : CallV "BlownByAll$BribePlan" 69 M_BP_nextToDecide 1 := ⟨gt_in 683 (by decide +kernel) rfl, kc_BP_nextToDecide⟩
theorem k_BP_83 : CallS "BlownByAll$BribePlan" 83 M_MT_min 2 := ⟨gt_in 687 (by decide +kernel) rfl, kc_MT_min⟩
theorem k_BP_79 : CallV "BlownByAll$BribePlan" 79 M_MA_addAtBreaths 3 := ⟨gt_in 688 (by decide +kernel) rfl, kc_MA_addAtBreaths⟩
theorem kc_BB_needed : Cond.instanceMethod M_BB_needed.1 ∈ gtbl ∧ Cond.selects M_BB_needed.1.cls M_BB_needed.1 M_BB_needed.1 ∈ gtbl ∧ Cond.initialized M_BB_needed.1.cls ∈ gtbl ∧ Cond.code M_BB_needed.1 M_BB_needed.2.1 M_BB_needed.2.2.1 M_BB_needed.2.2.2 ∈ gtbl ∧ (M_BB_needed.1.cls ≠ "java/lang/invoke/MethodHandle" ∧ M_BB_needed.1.cls ≠ "java/lang/invoke/VarHandle" ∧ (parseMethodDescriptor M_BB_needed.1.desc).map (fun d => d.parameters.length) = some 1) ∧ M_BB_needed.2.2.1 ≤ 45 := ⟨gt_in 690 (by decide +kernel) rfl, gt_in 691 (by decide +kernel) rfl, gt_in 41 (by decide +kernel) rfl, gt_in 692 (by decide +kernel) rfl, ⟨by decide, by decide, by decide +kernel⟩, by decide⟩
theorem k_LW_124 : CallV "BlownByAllLaw" 124 M_BB_needed 1 := ⟨gt_in 689 (by decide +kernel) rfl, kc_BB_needed⟩
theorem k_BB_192 : CallV "BlownByAll" 192 M_MA_blow 1 := ⟨gt_in 693 (by decide +kernel) rfl, kc_MA_blow⟩
theorem kc_BB_never : Cond.instanceMethod M_BB_never.1 ∈ gtbl ∧ Cond.selects M_BB_never.1.cls M_BB_never.1 M_BB_never.1 ∈ gtbl ∧ Cond.initialized M_BB_never.1.cls ∈ gtbl ∧ Cond.code M_BB_never.1 M_BB_never.2.1 M_BB_never.2.2.1 M_BB_never.2.2.2 ∈ gtbl ∧ (M_BB_never.1.cls ≠ "java/lang/invoke/MethodHandle" ∧ M_BB_never.1.cls ≠ "java/lang/invoke/VarHandle" ∧ (parseMethodDescriptor M_BB_never.1.desc).map (fun d => d.parameters.length) = some 0) ∧ M_BB_never.2.2.1 ≤ 45 := ⟨gt_in 695 (by decide +kernel) rfl, gt_in 696 (by decide +kernel) rfl, gt_in 41 (by decide +kernel) rfl, gt_in 697 (by decide +kernel) rfl, ⟨by decide, by decide, by decide +kernel⟩, by decide⟩
theorem k_LW_128 : CallV "BlownByAllLaw" 128 M_BB_never 0 := ⟨gt_in 694 (by decide +kernel) rfl, kc_BB_never⟩
theorem k_BB_198 : CallV "BlownByAll" 198 M_PE_forceOf 1 := ⟨gt_in 698 (by decide +kernel) rfl, kc_PE_forceOf⟩
theorem kc_BB_steady : Cond.instanceMethod M_BB_steady.1 ∈ gtbl ∧ Cond.selects M_BB_steady.1.cls M_BB_steady.1 M_BB_steady.1 ∈ gtbl ∧ Cond.initialized M_BB_steady.1.cls ∈ gtbl ∧ Cond.code M_BB_steady.1 M_BB_steady.2.1 M_BB_steady.2.2.1 M_BB_steady.2.2.2 ∈ gtbl ∧ (M_BB_steady.1.cls ≠ "java/lang/invoke/MethodHandle" ∧ M_BB_steady.1.cls ≠ "java/lang/invoke/VarHandle" ∧ (parseMethodDescriptor M_BB_steady.1.desc).map (fun d => d.parameters.length) = some 4) ∧ M_BB_steady.2.2.1 ≤ 45 := ⟨gt_in 700 (by decide +kernel) rfl, gt_in 701 (by decide +kernel) rfl, gt_in 41 (by decide +kernel) rfl, gt_in 702 (by decide +kernel) rfl, ⟨by decide, by decide, by decide +kernel⟩, by decide⟩
theorem k_LW_132 : CallV "BlownByAllLaw" 132 M_BB_steady 4 := ⟨gt_in 699 (by decide +kernel) rfl, kc_BB_steady⟩
theorem kc_SN_weighEnough : Cond.instanceMethod M_SN_weighEnough.1 ∈ gtbl ∧ Cond.selects M_SN_weighEnough.1.cls M_SN_weighEnough.1 M_SN_weighEnough.1 ∈ gtbl ∧ Cond.initialized M_SN_weighEnough.1.cls ∈ gtbl ∧ Cond.code M_SN_weighEnough.1 M_SN_weighEnough.2.1 M_SN_weighEnough.2.2.1 M_SN_weighEnough.2.2.2 ∈ gtbl ∧ (M_SN_weighEnough.1.cls ≠ "java/lang/invoke/MethodHandle" ∧ M_SN_weighEnough.1.cls ≠ "java/lang/invoke/VarHandle" ∧ (parseMethodDescriptor M_SN_weighEnough.1.desc).map (fun d => d.parameters.length) = some 3) ∧ M_SN_weighEnough.2.2.1 ≤ 45 := ⟨gt_in 706 (by decide +kernel) rfl, gt_in 707 (by decide +kernel) rfl, gt_in 49 (by decide +kernel) rfl, gt_in 708 (by decide +kernel) rfl, ⟨by decide, by decide, by decide +kernel⟩, by decide⟩
theorem k_BB_205 : CallV "BlownByAll" 205 M_SN_weighEnough 3 := ⟨gt_in 705 (by decide +kernel) rfl, kc_SN_weighEnough⟩
theorem k_SN_23 : CallV "BlownByAll$Sneezes" 23 M_PE_sittingAt 1 := ⟨gt_in 709 (by decide +kernel) rfl, kc_PE_sittingAt⟩
theorem kc_SN_spread : Cond.instanceMethod M_SN_spread.1 ∈ gtbl ∧ Cond.selects M_SN_spread.1.cls M_SN_spread.1 M_SN_spread.1 ∈ gtbl ∧ Cond.initialized M_SN_spread.1.cls ∈ gtbl ∧ Cond.code M_SN_spread.1 M_SN_spread.2.1 M_SN_spread.2.2.1 M_SN_spread.2.2.2 ∈ gtbl ∧ (M_SN_spread.1.cls ≠ "java/lang/invoke/MethodHandle" ∧ M_SN_spread.1.cls ≠ "java/lang/invoke/VarHandle" ∧ (parseMethodDescriptor M_SN_spread.1.desc).map (fun d => d.parameters.length) = some 3) ∧ M_SN_spread.2.2.1 ≤ 45 := ⟨gt_in 712 (by decide +kernel) rfl, gt_in 17 (by decide +kernel) rfl, gt_in 49 (by decide +kernel) rfl, gt_in 713 (by decide +kernel) rfl, ⟨by decide, by decide, by decide +kernel⟩, by decide⟩
theorem k_SN_29 : CallV "BlownByAll$Sneezes" 29 M_SN_spread 3 := ⟨gt_in 710 (by decide +kernel) rfl, kc_SN_spread⟩
theorem k_SN_58 : CallV "BlownByAll$Sneezes" 58 M_PE_givenAt 2 := ⟨gt_in 714 (by decide +kernel) rfl, kc_PE_givenAt⟩
theorem kc_SN_admit : Cond.instanceMethod M_SN_admit.1 ∈ gtbl ∧ Cond.selects M_SN_admit.1.cls M_SN_admit.1 M_SN_admit.1 ∈ gtbl ∧ Cond.initialized M_SN_admit.1.cls ∈ gtbl ∧ Cond.code M_SN_admit.1 M_SN_admit.2.1 M_SN_admit.2.2.1 M_SN_admit.2.2.2 ∈ gtbl ∧ (M_SN_admit.1.cls ≠ "java/lang/invoke/MethodHandle" ∧ M_SN_admit.1.cls ≠ "java/lang/invoke/VarHandle" ∧ (parseMethodDescriptor M_SN_admit.1.desc).map (fun d => d.parameters.length) = some 2) ∧ M_SN_admit.2.2.1 ≤ 45 := ⟨gt_in 717 (by decide +kernel) rfl, gt_in 18 (by decide +kernel) rfl, gt_in 49 (by decide +kernel) rfl, gt_in 718 (by decide +kernel) rfl, ⟨by decide, by decide, by decide +kernel⟩, by decide⟩
theorem k_SN_65 : CallV "BlownByAll$Sneezes" 65 M_SN_admit 2 := ⟨gt_in 715 (by decide +kernel) rfl, kc_SN_admit⟩
theorem kc_SN_casesUnder : Cond.instanceMethod M_SN_casesUnder.1 ∈ gtbl ∧ Cond.selects M_SN_casesUnder.1.cls M_SN_casesUnder.1 M_SN_casesUnder.1 ∈ gtbl ∧ Cond.initialized M_SN_casesUnder.1.cls ∈ gtbl ∧ Cond.code M_SN_casesUnder.1 M_SN_casesUnder.2.1 M_SN_casesUnder.2.2.1 M_SN_casesUnder.2.2.2 ∈ gtbl ∧ (M_SN_casesUnder.1.cls ≠ "java/lang/invoke/MethodHandle" ∧ M_SN_casesUnder.1.cls ≠ "java/lang/invoke/VarHandle" ∧ (parseMethodDescriptor M_SN_casesUnder.1.desc).map (fun d => d.parameters.length) = some 1) ∧ M_SN_casesUnder.2.2.1 ≤ 45 := ⟨gt_in 722 (by decide +kernel) rfl, gt_in 19 (by decide +kernel) rfl, gt_in 49 (by decide +kernel) rfl, gt_in 723 (by decide +kernel) rfl, ⟨by decide, by decide, by decide +kernel⟩, by decide⟩
theorem k_SN_43 : CallV "BlownByAll$Sneezes" 43 M_SN_casesUnder 1 := ⟨gt_in 720 (by decide +kernel) rfl, kc_SN_casesUnder⟩
theorem kc_SN_reduce : Cond.instanceMethod M_SN_reduce.1 ∈ gtbl ∧ Cond.selects M_SN_reduce.1.cls M_SN_reduce.1 M_SN_reduce.1 ∈ gtbl ∧ Cond.initialized M_SN_reduce.1.cls ∈ gtbl ∧ Cond.code M_SN_reduce.1 M_SN_reduce.2.1 M_SN_reduce.2.2.1 M_SN_reduce.2.2.2 ∈ gtbl ∧ (M_SN_reduce.1.cls ≠ "java/lang/invoke/MethodHandle" ∧ M_SN_reduce.1.cls ≠ "java/lang/invoke/VarHandle" ∧ (parseMethodDescriptor M_SN_reduce.1.desc).map (fun d => d.parameters.length) = some 2) ∧ M_SN_reduce.2.2.1 ≤ 45 := ⟨gt_in 726 (by decide +kernel) rfl, gt_in 20 (by decide +kernel) rfl, gt_in 49 (by decide +kernel) rfl, gt_in 727 (by decide +kernel) rfl, ⟨by decide, by decide, by decide +kernel⟩, by decide⟩
theorem k_SN_47 : CallV "BlownByAll$Sneezes" 47 M_SN_reduce 2 := ⟨gt_in 724 (by decide +kernel) rfl, kc_SN_reduce⟩
theorem kc_BB_blame : Cond.instanceMethod M_BB_blame.1 ∈ gtbl ∧ Cond.selects M_BB_blame.1.cls M_BB_blame.1 M_BB_blame.1 ∈ gtbl ∧ Cond.initialized M_BB_blame.1.cls ∈ gtbl ∧ Cond.code M_BB_blame.1 M_BB_blame.2.1 M_BB_blame.2.2.1 M_BB_blame.2.2.2 ∈ gtbl ∧ (M_BB_blame.1.cls ≠ "java/lang/invoke/MethodHandle" ∧ M_BB_blame.1.cls ≠ "java/lang/invoke/VarHandle" ∧ (parseMethodDescriptor M_BB_blame.1.desc).map (fun d => d.parameters.length) = some 4) ∧ M_BB_blame.2.2.1 ≤ 45 := ⟨gt_in 729 (by decide +kernel) rfl, gt_in 730 (by decide +kernel) rfl, gt_in 41 (by decide +kernel) rfl, gt_in 731 (by decide +kernel) rfl, ⟨by decide, by decide, by decide +kernel⟩, by decide⟩
theorem k_LW_137 : CallV "BlownByAllLaw" 137 M_BB_blame 4 := ⟨gt_in 728 (by decide +kernel) rfl, kc_BB_blame⟩
theorem kc_SN_weighGuilt : Cond.instanceMethod M_SN_weighGuilt.1 ∈ gtbl ∧ Cond.selects M_SN_weighGuilt.1.cls M_SN_weighGuilt.1 M_SN_weighGuilt.1 ∈ gtbl ∧ Cond.initialized M_SN_weighGuilt.1.cls ∈ gtbl ∧ Cond.code M_SN_weighGuilt.1 M_SN_weighGuilt.2.1 M_SN_weighGuilt.2.2.1 M_SN_weighGuilt.2.2.2 ∈ gtbl ∧ (M_SN_weighGuilt.1.cls ≠ "java/lang/invoke/MethodHandle" ∧ M_SN_weighGuilt.1.cls ≠ "java/lang/invoke/VarHandle" ∧ (parseMethodDescriptor M_SN_weighGuilt.1.desc).map (fun d => d.parameters.length) = some 3) ∧ M_SN_weighGuilt.2.2.1 ≤ 45 := ⟨gt_in 733 (by decide +kernel) rfl, gt_in 734 (by decide +kernel) rfl, gt_in 49 (by decide +kernel) rfl, gt_in 735 (by decide +kernel) rfl, ⟨by decide, by decide, by decide +kernel⟩, by decide⟩
theorem k_BB_216 : CallV "BlownByAll" 216 M_SN_weighGuilt 3 := ⟨gt_in 732 (by decide +kernel) rfl, kc_SN_weighGuilt⟩
theorem kc_BB_keep : Cond.instanceMethod M_BB_keep.1 ∈ gtbl ∧ Cond.selects M_BB_keep.1.cls M_BB_keep.1 M_BB_keep.1 ∈ gtbl ∧ Cond.initialized M_BB_keep.1.cls ∈ gtbl ∧ Cond.code M_BB_keep.1 M_BB_keep.2.1 M_BB_keep.2.2.1 M_BB_keep.2.2.2 ∈ gtbl ∧ (M_BB_keep.1.cls ≠ "java/lang/invoke/MethodHandle" ∧ M_BB_keep.1.cls ≠ "java/lang/invoke/VarHandle" ∧ (parseMethodDescriptor M_BB_keep.1.desc).map (fun d => d.parameters.length) = some 1) ∧ M_BB_keep.2.2.1 ≤ 45 := ⟨gt_in 738 (by decide +kernel) rfl, gt_in 739 (by decide +kernel) rfl, gt_in 41 (by decide +kernel) rfl, gt_in 740 (by decide +kernel) rfl, ⟨by decide, by decide, by decide +kernel⟩, by decide⟩
theorem k_LW_141 : CallV "BlownByAllLaw" 141 M_BB_keep 1 := ⟨gt_in 737 (by decide +kernel) rfl, kc_BB_keep⟩
theorem kc_PE_copyFrom : Cond.instanceMethod M_PE_copyFrom.1 ∈ gtbl ∧ Cond.selects M_PE_copyFrom.1.cls M_PE_copyFrom.1 M_PE_copyFrom.1 ∈ gtbl ∧ Cond.initialized M_PE_copyFrom.1.cls ∈ gtbl ∧ Cond.code M_PE_copyFrom.1 M_PE_copyFrom.2.1 M_PE_copyFrom.2.2.1 M_PE_copyFrom.2.2.2 ∈ gtbl ∧ (M_PE_copyFrom.1.cls ≠ "java/lang/invoke/MethodHandle" ∧ M_PE_copyFrom.1.cls ≠ "java/lang/invoke/VarHandle" ∧ (parseMethodDescriptor M_PE_copyFrom.1.desc).map (fun d => d.parameters.length) = some 1) ∧ M_PE_copyFrom.2.2.1 ≤ 45 := ⟨gt_in 742 (by decide +kernel) rfl, gt_in 743 (by decide +kernel) rfl, gt_in 44 (by decide +kernel) rfl, gt_in 744 (by decide +kernel) rfl, ⟨by decide, by decide, by decide +kernel⟩, by decide⟩
theorem k_BB_222 : CallV "BlownByAll" 222 M_PE_copyFrom 1 := ⟨gt_in 741 (by decide +kernel) rfl, kc_PE_copyFrom⟩
theorem kc_BB_again : Cond.instanceMethod M_BB_again.1 ∈ gtbl ∧ Cond.selects M_BB_again.1.cls M_BB_again.1 M_BB_again.1 ∈ gtbl ∧ Cond.initialized M_BB_again.1.cls ∈ gtbl ∧ Cond.code M_BB_again.1 M_BB_again.2.1 M_BB_again.2.2.1 M_BB_again.2.2.2 ∈ gtbl ∧ (M_BB_again.1.cls ≠ "java/lang/invoke/MethodHandle" ∧ M_BB_again.1.cls ≠ "java/lang/invoke/VarHandle" ∧ (parseMethodDescriptor M_BB_again.1.desc).map (fun d => d.parameters.length) = some 1) ∧ M_BB_again.2.2.1 ≤ 45 := ⟨gt_in 746 (by decide +kernel) rfl, gt_in 747 (by decide +kernel) rfl, gt_in 41 (by decide +kernel) rfl, gt_in 748 (by decide +kernel) rfl, ⟨by decide, by decide, by decide +kernel⟩, by decide⟩
theorem k_LW_145 : CallV "BlownByAllLaw" 145 M_BB_again 1 := ⟨gt_in 745 (by decide +kernel) rfl, kc_BB_again⟩
theorem kc_BB_count : Cond.instanceMethod M_BB_count.1 ∈ gtbl ∧ Cond.selects M_BB_count.1.cls M_BB_count.1 M_BB_count.1 ∈ gtbl ∧ Cond.initialized M_BB_count.1.cls ∈ gtbl ∧ Cond.code M_BB_count.1 M_BB_count.2.1 M_BB_count.2.2.1 M_BB_count.2.2.2 ∈ gtbl ∧ (M_BB_count.1.cls ≠ "java/lang/invoke/MethodHandle" ∧ M_BB_count.1.cls ≠ "java/lang/invoke/VarHandle" ∧ (parseMethodDescriptor M_BB_count.1.desc).map (fun d => d.parameters.length) = some 1) ∧ M_BB_count.2.2.1 ≤ 45 := ⟨gt_in 750 (by decide +kernel) rfl, gt_in 751 (by decide +kernel) rfl, gt_in 41 (by decide +kernel) rfl, gt_in 752 (by decide +kernel) rfl, ⟨by decide, by decide, by decide +kernel⟩, by decide⟩
theorem k_LW_149 : CallV "BlownByAllLaw" 149 M_BB_count 1 := ⟨gt_in 749 (by decide +kernel) rfl, kc_BB_count⟩
theorem kc_PE_bribedOnes : Cond.instanceMethod M_PE_bribedOnes.1 ∈ gtbl ∧ Cond.selects M_PE_bribedOnes.1.cls M_PE_bribedOnes.1 M_PE_bribedOnes.1 ∈ gtbl ∧ Cond.initialized M_PE_bribedOnes.1.cls ∈ gtbl ∧ Cond.code M_PE_bribedOnes.1 M_PE_bribedOnes.2.1 M_PE_bribedOnes.2.2.1 M_PE_bribedOnes.2.2.2 ∈ gtbl ∧ (M_PE_bribedOnes.1.cls ≠ "java/lang/invoke/MethodHandle" ∧ M_PE_bribedOnes.1.cls ≠ "java/lang/invoke/VarHandle" ∧ (parseMethodDescriptor M_PE_bribedOnes.1.desc).map (fun d => d.parameters.length) = some 0) ∧ M_PE_bribedOnes.2.2.1 ≤ 45 := ⟨gt_in 754 (by decide +kernel) rfl, gt_in 755 (by decide +kernel) rfl, gt_in 44 (by decide +kernel) rfl, gt_in 756 (by decide +kernel) rfl, ⟨by decide, by decide, by decide +kernel⟩, by decide⟩
theorem k_BB_229 : CallV "BlownByAll" 229 M_PE_bribedOnes 0 := ⟨gt_in 753 (by decide +kernel) rfl, kc_PE_bribedOnes⟩
theorem kc_MO_write : Cond.instanceMethod M_MO_write.1 ∈ gtbl ∧ Cond.selects M_MO_write.1.cls M_MO_write.1 M_MO_write.1 ∈ gtbl ∧ Cond.initialized M_MO_write.1.cls ∈ gtbl ∧ Cond.code M_MO_write.1 M_MO_write.2.1 M_MO_write.2.2.1 M_MO_write.2.2.2 ∈ gtbl ∧ (M_MO_write.1.cls ≠ "java/lang/invoke/MethodHandle" ∧ M_MO_write.1.cls ≠ "java/lang/invoke/VarHandle" ∧ (parseMethodDescriptor M_MO_write.1.desc).map (fun d => d.parameters.length) = some 2) ∧ M_MO_write.2.2.1 ≤ 45 := ⟨gt_in 858 (by decide +kernel) rfl, gt_in 859 (by decide +kernel) rfl, gt_in 50 (by decide +kernel) rfl, gt_in 860 (by decide +kernel) rfl, ⟨by decide, by decide, by decide +kernel⟩, by decide⟩
theorem k_LW_19 : CallV "BlownByAllLaw" 19 M_MO_write 2 := ⟨gt_in 857 (by decide +kernel) rfl, kc_MO_write⟩
theorem kc_MO_in : Cond.static M_MO_in.1 ∈ gtbl ∧ Cond.initialized M_MO_in.1.cls ∈ gtbl ∧ Cond.code M_MO_in.1 M_MO_in.2.1 M_MO_in.2.2.1 M_MO_in.2.2.2 ∈ gtbl ∧ (M_MO_in.1.cls ≠ "java/lang/invoke/MethodHandle" ∧ M_MO_in.1.cls ≠ "java/lang/invoke/VarHandle" ∧ (parseMethodDescriptor M_MO_in.1.desc).map (fun d => d.parameters.length) = some 3) ∧ M_MO_in.2.2.1 ≤ 45 := ⟨gt_in 863 (by decide +kernel) rfl, gt_in 50 (by decide +kernel) rfl, gt_in 864 (by decide +kernel) rfl, ⟨by decide, by decide, by decide +kernel⟩, by decide⟩
theorem k_MO_75 : CallS "BlownByAllModel" 75 M_MO_in 3 := ⟨gt_in 862 (by decide +kernel) rfl, kc_MO_in⟩
theorem kc_MO_wipe : Cond.instanceMethod M_MO_wipe.1 ∈ gtbl ∧ Cond.selects M_MO_wipe.1.cls M_MO_wipe.1 M_MO_wipe.1 ∈ gtbl ∧ Cond.initialized M_MO_wipe.1.cls ∈ gtbl ∧ Cond.code M_MO_wipe.1 M_MO_wipe.2.1 M_MO_wipe.2.2.1 M_MO_wipe.2.2.2 ∈ gtbl ∧ (M_MO_wipe.1.cls ≠ "java/lang/invoke/MethodHandle" ∧ M_MO_wipe.1.cls ≠ "java/lang/invoke/VarHandle" ∧ (parseMethodDescriptor M_MO_wipe.1.desc).map (fun d => d.parameters.length) = some 0) ∧ M_MO_wipe.2.2.1 ≤ 45 := ⟨gt_in 867 (by decide +kernel) rfl, gt_in 868 (by decide +kernel) rfl, gt_in 50 (by decide +kernel) rfl, gt_in 869 (by decide +kernel) rfl, ⟨by decide, by decide, by decide +kernel⟩, by decide⟩
theorem k_LW_24 : CallV "BlownByAllLaw" 24 M_MO_wipe 0 := ⟨gt_in 866 (by decide +kernel) rfl, kc_MO_wipe⟩
theorem kc_MO_fault : Cond.instanceMethod M_MO_fault.1 ∈ gtbl ∧ Cond.selects M_MO_fault.1.cls M_MO_fault.1 M_MO_fault.1 ∈ gtbl ∧ Cond.initialized M_MO_fault.1.cls ∈ gtbl ∧ Cond.code M_MO_fault.1 M_MO_fault.2.1 M_MO_fault.2.2.1 M_MO_fault.2.2.2 ∈ gtbl ∧ (M_MO_fault.1.cls ≠ "java/lang/invoke/MethodHandle" ∧ M_MO_fault.1.cls ≠ "java/lang/invoke/VarHandle" ∧ (parseMethodDescriptor M_MO_fault.1.desc).map (fun d => d.parameters.length) = some 0) ∧ M_MO_fault.2.2.1 ≤ 45 := ⟨gt_in 871 (by decide +kernel) rfl, gt_in 872 (by decide +kernel) rfl, gt_in 50 (by decide +kernel) rfl, gt_in 873 (by decide +kernel) rfl, ⟨by decide, by decide, by decide +kernel⟩, by decide⟩
theorem k_LW_28 : CallV "BlownByAllLaw" 28 M_MO_fault 0 := ⟨gt_in 870 (by decide +kernel) rfl, kc_MO_fault⟩
theorem kc_MO_readText : Cond.instanceMethod M_MO_readText.1 ∈ gtbl ∧ Cond.selects M_MO_readText.1.cls M_MO_readText.1 M_MO_readText.1 ∈ gtbl ∧ Cond.initialized M_MO_readText.1.cls ∈ gtbl ∧ Cond.code M_MO_readText.1 M_MO_readText.2.1 M_MO_readText.2.2.1 M_MO_readText.2.2.2 ∈ gtbl ∧ (M_MO_readText.1.cls ≠ "java/lang/invoke/MethodHandle" ∧ M_MO_readText.1.cls ≠ "java/lang/invoke/VarHandle" ∧ (parseMethodDescriptor M_MO_readText.1.desc).map (fun d => d.parameters.length) = some 0) ∧ M_MO_readText.2.2.1 ≤ 45 := ⟨gt_in 876 (by decide +kernel) rfl, gt_in 21 (by decide +kernel) rfl, gt_in 50 (by decide +kernel) rfl, gt_in 877 (by decide +kernel) rfl, ⟨by decide, by decide, by decide +kernel⟩, by decide⟩
theorem k_MO_120 : CallV "BlownByAllModel" 120 M_MO_readText 0 := ⟨gt_in 874 (by decide +kernel) rfl, kc_MO_readText⟩
theorem kc_MO_here : Cond.instanceMethod M_MO_here.1 ∈ gtbl ∧ Cond.selects M_MO_here.1.cls M_MO_here.1 M_MO_here.1 ∈ gtbl ∧ Cond.initialized M_MO_here.1.cls ∈ gtbl ∧ Cond.code M_MO_here.1 M_MO_here.2.1 M_MO_here.2.2.1 M_MO_here.2.2.2 ∈ gtbl ∧ (M_MO_here.1.cls ≠ "java/lang/invoke/MethodHandle" ∧ M_MO_here.1.cls ≠ "java/lang/invoke/VarHandle" ∧ (parseMethodDescriptor M_MO_here.1.desc).map (fun d => d.parameters.length) = some 0) ∧ M_MO_here.2.2.1 ≤ 45 := ⟨gt_in 880 (by decide +kernel) rfl, gt_in 22 (by decide +kernel) rfl, gt_in 50 (by decide +kernel) rfl, gt_in 881 (by decide +kernel) rfl, ⟨by decide, by decide, by decide +kernel⟩, by decide⟩
theorem k_MO_90 : CallV "BlownByAllModel" 90 M_MO_here 0 := ⟨gt_in 878 (by decide +kernel) rfl, kc_MO_here⟩
theorem kc_MO_figure : Cond.instanceMethod M_MO_figure.1 ∈ gtbl ∧ Cond.selects M_MO_figure.1.cls M_MO_figure.1 M_MO_figure.1 ∈ gtbl ∧ Cond.initialized M_MO_figure.1.cls ∈ gtbl ∧ Cond.code M_MO_figure.1 M_MO_figure.2.1 M_MO_figure.2.2.1 M_MO_figure.2.2.2 ∈ gtbl ∧ (M_MO_figure.1.cls ≠ "java/lang/invoke/MethodHandle" ∧ M_MO_figure.1.cls ≠ "java/lang/invoke/VarHandle" ∧ (parseMethodDescriptor M_MO_figure.1.desc).map (fun d => d.parameters.length) = some 2) ∧ M_MO_figure.2.2.1 ≤ 45 := ⟨gt_in 886 (by decide +kernel) rfl, gt_in 23 (by decide +kernel) rfl, gt_in 50 (by decide +kernel) rfl, gt_in 887 (by decide +kernel) rfl, ⟨by decide, by decide, by decide +kernel⟩, by decide⟩
theorem k_MO_112 : CallV "BlownByAllModel" 112 M_MO_figure 2 := ⟨gt_in 884 (by decide +kernel) rfl, kc_MO_figure⟩
theorem kc_MO_fail : Cond.instanceMethod M_MO_fail.1 ∈ gtbl ∧ Cond.selects M_MO_fail.1.cls M_MO_fail.1 M_MO_fail.1 ∈ gtbl ∧ Cond.initialized M_MO_fail.1.cls ∈ gtbl ∧ Cond.code M_MO_fail.1 M_MO_fail.2.1 M_MO_fail.2.2.1 M_MO_fail.2.2.2 ∈ gtbl ∧ (M_MO_fail.1.cls ≠ "java/lang/invoke/MethodHandle" ∧ M_MO_fail.1.cls ≠ "java/lang/invoke/VarHandle" ∧ (parseMethodDescriptor M_MO_fail.1.desc).map (fun d => d.parameters.length) = some 0) ∧ M_MO_fail.2.2.1 ≤ 45 := ⟨gt_in 890 (by decide +kernel) rfl, gt_in 24 (by decide +kernel) rfl, gt_in 50 (by decide +kernel) rfl, gt_in 891 (by decide +kernel) rfl, ⟨by decide, by decide, by decide +kernel⟩, by decide⟩
theorem k_MO_94 : CallV "BlownByAllModel" 94 M_MO_fail 0 := ⟨gt_in 888 (by decide +kernel) rfl, kc_MO_fail⟩
theorem kc_MO_bits : Cond.instanceMethod M_MO_bits.1 ∈ gtbl ∧ Cond.selects M_MO_bits.1.cls M_MO_bits.1 M_MO_bits.1 ∈ gtbl ∧ Cond.initialized M_MO_bits.1.cls ∈ gtbl ∧ Cond.code M_MO_bits.1 M_MO_bits.2.1 M_MO_bits.2.2.1 M_MO_bits.2.2.2 ∈ gtbl ∧ (M_MO_bits.1.cls ≠ "java/lang/invoke/MethodHandle" ∧ M_MO_bits.1.cls ≠ "java/lang/invoke/VarHandle" ∧ (parseMethodDescriptor M_MO_bits.1.desc).map (fun d => d.parameters.length) = some 1) ∧ M_MO_bits.2.2.1 ≤ 45 := ⟨gt_in 894 (by decide +kernel) rfl, gt_in 25 (by decide +kernel) rfl, gt_in 50 (by decide +kernel) rfl, gt_in 895 (by decide +kernel) rfl, ⟨by decide, by decide, by decide +kernel⟩, by decide⟩
theorem k_MO_116 : CallV "BlownByAllModel" 116 M_MO_bits 1 := ⟨gt_in 892 (by decide +kernel) rfl, kc_MO_bits⟩
theorem kc_MO_organ : Cond.instanceMethod M_MO_organ.1 ∈ gtbl ∧ Cond.selects M_MO_organ.1.cls M_MO_organ.1 M_MO_organ.1 ∈ gtbl ∧ Cond.initialized M_MO_organ.1.cls ∈ gtbl ∧ Cond.code M_MO_organ.1 M_MO_organ.2.1 M_MO_organ.2.2.1 M_MO_organ.2.2.2 ∈ gtbl ∧ (M_MO_organ.1.cls ≠ "java/lang/invoke/MethodHandle" ∧ M_MO_organ.1.cls ≠ "java/lang/invoke/VarHandle" ∧ (parseMethodDescriptor M_MO_organ.1.desc).map (fun d => d.parameters.length) = some 0) ∧ M_MO_organ.2.2.1 ≤ 45 := ⟨gt_in 898 (by decide +kernel) rfl, gt_in 899 (by decide +kernel) rfl, gt_in 50 (by decide +kernel) rfl, gt_in 900 (by decide +kernel) rfl, ⟨by decide, by decide, by decide +kernel⟩, by decide⟩
theorem k_LW_32 : CallV "BlownByAllLaw" 32 M_MO_organ 0 := ⟨gt_in 897 (by decide +kernel) rfl, kc_MO_organ⟩
theorem kc_MO_drinks : Cond.instanceMethod M_MO_drinks.1 ∈ gtbl ∧ Cond.selects M_MO_drinks.1.cls M_MO_drinks.1 M_MO_drinks.1 ∈ gtbl ∧ Cond.initialized M_MO_drinks.1.cls ∈ gtbl ∧ Cond.code M_MO_drinks.1 M_MO_drinks.2.1 M_MO_drinks.2.2.1 M_MO_drinks.2.2.2 ∈ gtbl ∧ (M_MO_drinks.1.cls ≠ "java/lang/invoke/MethodHandle" ∧ M_MO_drinks.1.cls ≠ "java/lang/invoke/VarHandle" ∧ (parseMethodDescriptor M_MO_drinks.1.desc).map (fun d => d.parameters.length) = some 1) ∧ M_MO_drinks.2.2.1 ≤ 45 := ⟨gt_in 902 (by decide +kernel) rfl, gt_in 903 (by decide +kernel) rfl, gt_in 50 (by decide +kernel) rfl, gt_in 904 (by decide +kernel) rfl, ⟨by decide, by decide, by decide +kernel⟩, by decide⟩
theorem k_LW_37 : CallV "BlownByAllLaw" 37 M_MO_drinks 1 := ⟨gt_in 901 (by decide +kernel) rfl, kc_MO_drinks⟩
theorem kc_MO_isPipe : Cond.instanceMethod M_MO_isPipe.1 ∈ gtbl ∧ Cond.selects M_MO_isPipe.1.cls M_MO_isPipe.1 M_MO_isPipe.1 ∈ gtbl ∧ Cond.initialized M_MO_isPipe.1.cls ∈ gtbl ∧ Cond.code M_MO_isPipe.1 M_MO_isPipe.2.1 M_MO_isPipe.2.2.1 M_MO_isPipe.2.2.2 ∈ gtbl ∧ (M_MO_isPipe.1.cls ≠ "java/lang/invoke/MethodHandle" ∧ M_MO_isPipe.1.cls ≠ "java/lang/invoke/VarHandle" ∧ (parseMethodDescriptor M_MO_isPipe.1.desc).map (fun d => d.parameters.length) = some 1) ∧ M_MO_isPipe.2.2.1 ≤ 45 := ⟨gt_in 907 (by decide +kernel) rfl, gt_in 26 (by decide +kernel) rfl, gt_in 50 (by decide +kernel) rfl, gt_in 908 (by decide +kernel) rfl, ⟨by decide, by decide, by decide +kernel⟩, by decide⟩
theorem k_MO_135 : CallV "BlownByAllModel" 135 M_MO_isPipe 1 := ⟨gt_in 905 (by decide +kernel) rfl, kc_MO_isPipe⟩
theorem kc_MO_sounds : Cond.instanceMethod M_MO_sounds.1 ∈ gtbl ∧ Cond.selects M_MO_sounds.1.cls M_MO_sounds.1 M_MO_sounds.1 ∈ gtbl ∧ Cond.initialized M_MO_sounds.1.cls ∈ gtbl ∧ Cond.code M_MO_sounds.1 M_MO_sounds.2.1 M_MO_sounds.2.2.1 M_MO_sounds.2.2.2 ∈ gtbl ∧ (M_MO_sounds.1.cls ≠ "java/lang/invoke/MethodHandle" ∧ M_MO_sounds.1.cls ≠ "java/lang/invoke/VarHandle" ∧ (parseMethodDescriptor M_MO_sounds.1.desc).map (fun d => d.parameters.length) = some 2) ∧ M_MO_sounds.2.2.1 ≤ 45 := ⟨gt_in 910 (by decide +kernel) rfl, gt_in 911 (by decide +kernel) rfl, gt_in 50 (by decide +kernel) rfl, gt_in 912 (by decide +kernel) rfl, ⟨by decide, by decide, by decide +kernel⟩, by decide⟩
theorem k_LW_42 : CallV "BlownByAllLaw" 42 M_MO_sounds 2 := ⟨gt_in 909 (by decide +kernel) rfl, kc_MO_sounds⟩
theorem kc_MO_isBeat : Cond.instanceMethod M_MO_isBeat.1 ∈ gtbl ∧ Cond.selects M_MO_isBeat.1.cls M_MO_isBeat.1 M_MO_isBeat.1 ∈ gtbl ∧ Cond.initialized M_MO_isBeat.1.cls ∈ gtbl ∧ Cond.code M_MO_isBeat.1 M_MO_isBeat.2.1 M_MO_isBeat.2.2.1 M_MO_isBeat.2.2.2 ∈ gtbl ∧ (M_MO_isBeat.1.cls ≠ "java/lang/invoke/MethodHandle" ∧ M_MO_isBeat.1.cls ≠ "java/lang/invoke/VarHandle" ∧ (parseMethodDescriptor M_MO_isBeat.1.desc).map (fun d => d.parameters.length) = some 1) ∧ M_MO_isBeat.2.2.1 ≤ 45 := ⟨gt_in 915 (by decide +kernel) rfl, gt_in 27 (by decide +kernel) rfl, gt_in 50 (by decide +kernel) rfl, gt_in 916 (by decide +kernel) rfl, ⟨by decide, by decide, by decide +kernel⟩, by decide⟩
theorem k_MO_139 : CallV "BlownByAllModel" 139 M_MO_isBeat 1 := ⟨gt_in 913 (by decide +kernel) rfl, kc_MO_isBeat⟩
theorem kc_MO_person : Cond.instanceMethod M_MO_person.1 ∈ gtbl ∧ Cond.selects M_MO_person.1.cls M_MO_person.1 M_MO_person.1 ∈ gtbl ∧ Cond.initialized M_MO_person.1.cls ∈ gtbl ∧ Cond.code M_MO_person.1 M_MO_person.2.1 M_MO_person.2.2.1 M_MO_person.2.2.2 ∈ gtbl ∧ (M_MO_person.1.cls ≠ "java/lang/invoke/MethodHandle" ∧ M_MO_person.1.cls ≠ "java/lang/invoke/VarHandle" ∧ (parseMethodDescriptor M_MO_person.1.desc).map (fun d => d.parameters.length) = some 2) ∧ M_MO_person.2.2.1 ≤ 45 := ⟨gt_in 918 (by decide +kernel) rfl, gt_in 919 (by decide +kernel) rfl, gt_in 50 (by decide +kernel) rfl, gt_in 920 (by decide +kernel) rfl, ⟨by decide, by decide, by decide +kernel⟩, by decide⟩
theorem k_LW_46 : CallV "BlownByAllLaw" 46 M_MO_person 2 := ⟨gt_in 917 (by decide +kernel) rfl, kc_MO_person⟩
theorem kc_MO_isPerson : Cond.instanceMethod M_MO_isPerson.1 ∈ gtbl ∧ Cond.selects M_MO_isPerson.1.cls M_MO_isPerson.1 M_MO_isPerson.1 ∈ gtbl ∧ Cond.initialized M_MO_isPerson.1.cls ∈ gtbl ∧ Cond.code M_MO_isPerson.1 M_MO_isPerson.2.1 M_MO_isPerson.2.2.1 M_MO_isPerson.2.2.2 ∈ gtbl ∧ (M_MO_isPerson.1.cls ≠ "java/lang/invoke/MethodHandle" ∧ M_MO_isPerson.1.cls ≠ "java/lang/invoke/VarHandle" ∧ (parseMethodDescriptor M_MO_isPerson.1.desc).map (fun d => d.parameters.length) = some 1) ∧ M_MO_isPerson.2.2.1 ≤ 45 := ⟨gt_in 923 (by decide +kernel) rfl, gt_in 28 (by decide +kernel) rfl, gt_in 50 (by decide +kernel) rfl, gt_in 924 (by decide +kernel) rfl, ⟨by decide, by decide, by decide +kernel⟩, by decide⟩
theorem k_MO_142 : CallV "BlownByAllModel" 142 M_MO_isPerson 1 := ⟨gt_in 921 (by decide +kernel) rfl, kc_MO_isPerson⟩
theorem kc_MO_seat : Cond.instanceMethod M_MO_seat.1 ∈ gtbl ∧ Cond.selects M_MO_seat.1.cls M_MO_seat.1 M_MO_seat.1 ∈ gtbl ∧ Cond.initialized M_MO_seat.1.cls ∈ gtbl ∧ Cond.code M_MO_seat.1 M_MO_seat.2.1 M_MO_seat.2.2.1 M_MO_seat.2.2.2 ∈ gtbl ∧ (M_MO_seat.1.cls ≠ "java/lang/invoke/MethodHandle" ∧ M_MO_seat.1.cls ≠ "java/lang/invoke/VarHandle" ∧ (parseMethodDescriptor M_MO_seat.1.desc).map (fun d => d.parameters.length) = some 2) ∧ M_MO_seat.2.2.1 ≤ 45 := ⟨gt_in 927 (by decide +kernel) rfl, gt_in 928 (by decide +kernel) rfl, gt_in 50 (by decide +kernel) rfl, gt_in 929 (by decide +kernel) rfl, ⟨by decide, by decide, by decide +kernel⟩, by decide⟩
theorem k_LW_50 : CallV "BlownByAllLaw" 50 M_MO_seat 2 := ⟨gt_in 926 (by decide +kernel) rfl, kc_MO_seat⟩
theorem kc_MO_tell : Cond.instanceMethod M_MO_tell.1 ∈ gtbl ∧ Cond.selects M_MO_tell.1.cls M_MO_tell.1 M_MO_tell.1 ∈ gtbl ∧ Cond.initialized M_MO_tell.1.cls ∈ gtbl ∧ Cond.code M_MO_tell.1 M_MO_tell.2.1 M_MO_tell.2.2.1 M_MO_tell.2.2.2 ∈ gtbl ∧ (M_MO_tell.1.cls ≠ "java/lang/invoke/MethodHandle" ∧ M_MO_tell.1.cls ≠ "java/lang/invoke/VarHandle" ∧ (parseMethodDescriptor M_MO_tell.1.desc).map (fun d => d.parameters.length) = some 2) ∧ M_MO_tell.2.2.1 ≤ 45 := ⟨gt_in 932 (by decide +kernel) rfl, gt_in 29 (by decide +kernel) rfl, gt_in 50 (by decide +kernel) rfl, gt_in 933 (by decide +kernel) rfl, ⟨by decide, by decide, by decide +kernel⟩, by decide⟩
theorem k_MO_147 : CallV "BlownByAllModel" 147 M_MO_tell 2 := ⟨gt_in 930 (by decide +kernel) rfl, kc_MO_tell⟩
theorem kc_MO_phase : Cond.instanceMethod M_MO_phase.1 ∈ gtbl ∧ Cond.selects M_MO_phase.1.cls M_MO_phase.1 M_MO_phase.1 ∈ gtbl ∧ Cond.initialized M_MO_phase.1.cls ∈ gtbl ∧ Cond.code M_MO_phase.1 M_MO_phase.2.1 M_MO_phase.2.2.1 M_MO_phase.2.2.2 ∈ gtbl ∧ (M_MO_phase.1.cls ≠ "java/lang/invoke/MethodHandle" ∧ M_MO_phase.1.cls ≠ "java/lang/invoke/VarHandle" ∧ (parseMethodDescriptor M_MO_phase.1.desc).map (fun d => d.parameters.length) = some 2) ∧ M_MO_phase.2.2.1 ≤ 45 := ⟨gt_in 935 (by decide +kernel) rfl, gt_in 936 (by decide +kernel) rfl, gt_in 50 (by decide +kernel) rfl, gt_in 937 (by decide +kernel) rfl, ⟨by decide, by decide, by decide +kernel⟩, by decide⟩
theorem k_LW_54 : CallV "BlownByAllLaw" 54 M_MO_phase 2 := ⟨gt_in 934 (by decide +kernel) rfl, kc_MO_phase⟩
theorem kc_MO_bribe : Cond.instanceMethod M_MO_bribe.1 ∈ gtbl ∧ Cond.selects M_MO_bribe.1.cls M_MO_bribe.1 M_MO_bribe.1 ∈ gtbl ∧ Cond.initialized M_MO_bribe.1.cls ∈ gtbl ∧ Cond.code M_MO_bribe.1 M_MO_bribe.2.1 M_MO_bribe.2.2.1 M_MO_bribe.2.2.2 ∈ gtbl ∧ (M_MO_bribe.1.cls ≠ "java/lang/invoke/MethodHandle" ∧ M_MO_bribe.1.cls ≠ "java/lang/invoke/VarHandle" ∧ (parseMethodDescriptor M_MO_bribe.1.desc).map (fun d => d.parameters.length) = some 2) ∧ M_MO_bribe.2.2.1 ≤ 45 := ⟨gt_in 939 (by decide +kernel) rfl, gt_in 940 (by decide +kernel) rfl, gt_in 50 (by decide +kernel) rfl, gt_in 941 (by decide +kernel) rfl, ⟨by decide, by decide, by decide +kernel⟩, by decide⟩
theorem k_LW_59 : CallV "BlownByAllLaw" 59 M_MO_bribe 2 := ⟨gt_in 938 (by decide +kernel) rfl, kc_MO_bribe⟩
theorem kc_MO_grow : Cond.instanceMethod M_MO_grow.1 ∈ gtbl ∧ Cond.selects M_MO_grow.1.cls M_MO_grow.1 M_MO_grow.1 ∈ gtbl ∧ Cond.initialized M_MO_grow.1.cls ∈ gtbl ∧ Cond.code M_MO_grow.1 M_MO_grow.2.1 M_MO_grow.2.2.1 M_MO_grow.2.2.2 ∈ gtbl ∧ (M_MO_grow.1.cls ≠ "java/lang/invoke/MethodHandle" ∧ M_MO_grow.1.cls ≠ "java/lang/invoke/VarHandle" ∧ (parseMethodDescriptor M_MO_grow.1.desc).map (fun d => d.parameters.length) = some 1) ∧ M_MO_grow.2.2.1 ≤ 45 := ⟨gt_in 943 (by decide +kernel) rfl, gt_in 944 (by decide +kernel) rfl, gt_in 50 (by decide +kernel) rfl, gt_in 945 (by decide +kernel) rfl, ⟨by decide, by decide, by decide +kernel⟩, by decide⟩
theorem k_LW_63 : CallV "BlownByAllLaw" 63 M_MO_grow 1 := ⟨gt_in 942 (by decide +kernel) rfl, kc_MO_grow⟩
theorem kc_MO_store : Cond.instanceMethod M_MO_store.1 ∈ gtbl ∧ Cond.selects M_MO_store.1.cls M_MO_store.1 M_MO_store.1 ∈ gtbl ∧ Cond.initialized M_MO_store.1.cls ∈ gtbl ∧ Cond.code M_MO_store.1 M_MO_store.2.1 M_MO_store.2.2.1 M_MO_store.2.2.2 ∈ gtbl ∧ (M_MO_store.1.cls ≠ "java/lang/invoke/MethodHandle" ∧ M_MO_store.1.cls ≠ "java/lang/invoke/VarHandle" ∧ (parseMethodDescriptor M_MO_store.1.desc).map (fun d => d.parameters.length) = some 1) ∧ M_MO_store.2.2.1 ≤ 45 := ⟨gt_in 947 (by decide +kernel) rfl, gt_in 948 (by decide +kernel) rfl, gt_in 50 (by decide +kernel) rfl, gt_in 949 (by decide +kernel) rfl, ⟨by decide, by decide, by decide +kernel⟩, by decide⟩
theorem k_LW_67 : CallV "BlownByAllLaw" 67 M_MO_store 1 := ⟨gt_in 946 (by decide +kernel) rfl, kc_MO_store⟩
theorem kc_MO_late : Cond.instanceMethod M_MO_late.1 ∈ gtbl ∧ Cond.selects M_MO_late.1.cls M_MO_late.1 M_MO_late.1 ∈ gtbl ∧ Cond.initialized M_MO_late.1.cls ∈ gtbl ∧ Cond.code M_MO_late.1 M_MO_late.2.1 M_MO_late.2.2.1 M_MO_late.2.2.2 ∈ gtbl ∧ (M_MO_late.1.cls ≠ "java/lang/invoke/MethodHandle" ∧ M_MO_late.1.cls ≠ "java/lang/invoke/VarHandle" ∧ (parseMethodDescriptor M_MO_late.1.desc).map (fun d => d.parameters.length) = some 1) ∧ M_MO_late.2.2.1 ≤ 45 := ⟨gt_in 952 (by decide +kernel) rfl, gt_in 953 (by decide +kernel) rfl, gt_in 50 (by decide +kernel) rfl, gt_in 954 (by decide +kernel) rfl, ⟨by decide, by decide, by decide +kernel⟩, by decide⟩
theorem k_LW_71 : CallV "BlownByAllLaw" 71 M_MO_late 1 := ⟨gt_in 951 (by decide +kernel) rfl, kc_MO_late⟩
theorem kc_MO_gives : Cond.instanceMethod M_MO_gives.1 ∈ gtbl ∧ Cond.selects M_MO_gives.1.cls M_MO_gives.1 M_MO_gives.1 ∈ gtbl ∧ Cond.initialized M_MO_gives.1.cls ∈ gtbl ∧ Cond.code M_MO_gives.1 M_MO_gives.2.1 M_MO_gives.2.2.1 M_MO_gives.2.2.2 ∈ gtbl ∧ (M_MO_gives.1.cls ≠ "java/lang/invoke/MethodHandle" ∧ M_MO_gives.1.cls ≠ "java/lang/invoke/VarHandle" ∧ (parseMethodDescriptor M_MO_gives.1.desc).map (fun d => d.parameters.length) = some 2) ∧ M_MO_gives.2.2.1 ≤ 45 := ⟨gt_in 957 (by decide +kernel) rfl, gt_in 958 (by decide +kernel) rfl, gt_in 50 (by decide +kernel) rfl, gt_in 959 (by decide +kernel) rfl, ⟨by decide, by decide, by decide +kernel⟩, by decide⟩
theorem k_LW_75 : CallV "BlownByAllLaw" 75 M_MO_gives 2 := ⟨gt_in 956 (by decide +kernel) rfl, kc_MO_gives⟩
theorem kc_MO_givesOf : Cond.instanceMethod M_MO_givesOf.1 ∈ gtbl ∧ Cond.selects M_MO_givesOf.1.cls M_MO_givesOf.1 M_MO_givesOf.1 ∈ gtbl ∧ Cond.initialized M_MO_givesOf.1.cls ∈ gtbl ∧ Cond.code M_MO_givesOf.1 M_MO_givesOf.2.1 M_MO_givesOf.2.2.1 M_MO_givesOf.2.2.2 ∈ gtbl ∧ (M_MO_givesOf.1.cls ≠ "java/lang/invoke/MethodHandle" ∧ M_MO_givesOf.1.cls ≠ "java/lang/invoke/VarHandle" ∧ (parseMethodDescriptor M_MO_givesOf.1.desc).map (fun d => d.parameters.length) = some 2) ∧ M_MO_givesOf.2.2.1 ≤ 45 := ⟨gt_in 962 (by decide +kernel) rfl, gt_in 30 (by decide +kernel) rfl, gt_in 50 (by decide +kernel) rfl, gt_in 963 (by decide +kernel) rfl, ⟨by decide, by decide, by decide +kernel⟩, by decide⟩
theorem k_MO_154 : CallV "BlownByAllModel" 154 M_MO_givesOf 2 := ⟨gt_in 960 (by decide +kernel) rfl, kc_MO_givesOf⟩
theorem kc_MO_air : Cond.instanceMethod M_MO_air.1 ∈ gtbl ∧ Cond.selects M_MO_air.1.cls M_MO_air.1 M_MO_air.1 ∈ gtbl ∧ Cond.initialized M_MO_air.1.cls ∈ gtbl ∧ Cond.code M_MO_air.1 M_MO_air.2.1 M_MO_air.2.2.1 M_MO_air.2.2.2 ∈ gtbl ∧ (M_MO_air.1.cls ≠ "java/lang/invoke/MethodHandle" ∧ M_MO_air.1.cls ≠ "java/lang/invoke/VarHandle" ∧ (parseMethodDescriptor M_MO_air.1.desc).map (fun d => d.parameters.length) = some 2) ∧ M_MO_air.2.2.1 ≤ 45 := ⟨gt_in 965 (by decide +kernel) rfl, gt_in 966 (by decide +kernel) rfl, gt_in 50 (by decide +kernel) rfl, gt_in 967 (by decide +kernel) rfl, ⟨by decide, by decide, by decide +kernel⟩, by decide⟩
theorem k_LW_79 : CallV "BlownByAllLaw" 79 M_MO_air 2 := ⟨gt_in 964 (by decide +kernel) rfl, kc_MO_air⟩
theorem kc_MO_sitters : Cond.instanceMethod M_MO_sitters.1 ∈ gtbl ∧ Cond.selects M_MO_sitters.1.cls M_MO_sitters.1 M_MO_sitters.1 ∈ gtbl ∧ Cond.initialized M_MO_sitters.1.cls ∈ gtbl ∧ Cond.code M_MO_sitters.1 M_MO_sitters.2.1 M_MO_sitters.2.2.1 M_MO_sitters.2.2.2 ∈ gtbl ∧ (M_MO_sitters.1.cls ≠ "java/lang/invoke/MethodHandle" ∧ M_MO_sitters.1.cls ≠ "java/lang/invoke/VarHandle" ∧ (parseMethodDescriptor M_MO_sitters.1.desc).map (fun d => d.parameters.length) = some 1) ∧ M_MO_sitters.2.2.1 ≤ 45 := ⟨gt_in 970 (by decide +kernel) rfl, gt_in 31 (by decide +kernel) rfl, gt_in 50 (by decide +kernel) rfl, gt_in 971 (by decide +kernel) rfl, ⟨by decide, by decide, by decide +kernel⟩, by decide⟩
theorem k_MO_160 : CallV "BlownByAllModel" 160 M_MO_sitters 1 := ⟨gt_in 968 (by decide +kernel) rfl, kc_MO_sitters⟩
theorem kc_MO_airOf : Cond.instanceMethod M_MO_airOf.1 ∈ gtbl ∧ Cond.selects M_MO_airOf.1.cls M_MO_airOf.1 M_MO_airOf.1 ∈ gtbl ∧ Cond.initialized M_MO_airOf.1.cls ∈ gtbl ∧ Cond.code M_MO_airOf.1 M_MO_airOf.2.1 M_MO_airOf.2.2.1 M_MO_airOf.2.2.2 ∈ gtbl ∧ (M_MO_airOf.1.cls ≠ "java/lang/invoke/MethodHandle" ∧ M_MO_airOf.1.cls ≠ "java/lang/invoke/VarHandle" ∧ (parseMethodDescriptor M_MO_airOf.1.desc).map (fun d => d.parameters.length) = some 2) ∧ M_MO_airOf.2.2.1 ≤ 45 := ⟨gt_in 974 (by decide +kernel) rfl, gt_in 32 (by decide +kernel) rfl, gt_in 50 (by decide +kernel) rfl, gt_in 975 (by decide +kernel) rfl, ⟨by decide, by decide, by decide +kernel⟩, by decide⟩
theorem k_MO_157 : CallV "BlownByAllModel" 157 M_MO_airOf 2 := ⟨gt_in 972 (by decide +kernel) rfl, kc_MO_airOf⟩
theorem kc_MO_stored : Cond.instanceMethod M_MO_stored.1 ∈ gtbl ∧ Cond.selects M_MO_stored.1.cls M_MO_stored.1 M_MO_stored.1 ∈ gtbl ∧ Cond.initialized M_MO_stored.1.cls ∈ gtbl ∧ Cond.code M_MO_stored.1 M_MO_stored.2.1 M_MO_stored.2.2.1 M_MO_stored.2.2.2 ∈ gtbl ∧ (M_MO_stored.1.cls ≠ "java/lang/invoke/MethodHandle" ∧ M_MO_stored.1.cls ≠ "java/lang/invoke/VarHandle" ∧ (parseMethodDescriptor M_MO_stored.1.desc).map (fun d => d.parameters.length) = some 2) ∧ M_MO_stored.2.2.1 ≤ 45 := ⟨gt_in 977 (by decide +kernel) rfl, gt_in 978 (by decide +kernel) rfl, gt_in 50 (by decide +kernel) rfl, gt_in 979 (by decide +kernel) rfl, ⟨by decide, by decide, by decide +kernel⟩, by decide⟩
theorem k_LW_83 : CallV "BlownByAllLaw" 83 M_MO_stored 2 := ⟨gt_in 976 (by decide +kernel) rfl, kc_MO_stored⟩
theorem kc_MO_blow : Cond.instanceMethod M_MO_blow.1 ∈ gtbl ∧ Cond.selects M_MO_blow.1.cls M_MO_blow.1 M_MO_blow.1 ∈ gtbl ∧ Cond.initialized M_MO_blow.1.cls ∈ gtbl ∧ Cond.code M_MO_blow.1 M_MO_blow.2.1 M_MO_blow.2.2.1 M_MO_blow.2.2.2 ∈ gtbl ∧ (M_MO_blow.1.cls ≠ "java/lang/invoke/MethodHandle" ∧ M_MO_blow.1.cls ≠ "java/lang/invoke/VarHandle" ∧ (parseMethodDescriptor M_MO_blow.1.desc).map (fun d => d.parameters.length) = some 2) ∧ M_MO_blow.2.2.1 ≤ 45 := ⟨gt_in 982 (by decide +kernel) rfl, gt_in 33 (by decide +kernel) rfl, gt_in 50 (by decide +kernel) rfl, gt_in 983 (by decide +kernel) rfl, ⟨by decide, by decide, by decide +kernel⟩, by decide⟩
theorem k_MO_163 : CallV "BlownByAllModel" 163 M_MO_blow 2 := ⟨gt_in 980 (by decide +kernel) rfl, kc_MO_blow⟩
theorem kc_MO_sags : Cond.instanceMethod M_MO_sags.1 ∈ gtbl ∧ Cond.selects M_MO_sags.1.cls M_MO_sags.1 M_MO_sags.1 ∈ gtbl ∧ Cond.initialized M_MO_sags.1.cls ∈ gtbl ∧ Cond.code M_MO_sags.1 M_MO_sags.2.1 M_MO_sags.2.2.1 M_MO_sags.2.2.2 ∈ gtbl ∧ (M_MO_sags.1.cls ≠ "java/lang/invoke/MethodHandle" ∧ M_MO_sags.1.cls ≠ "java/lang/invoke/VarHandle" ∧ (parseMethodDescriptor M_MO_sags.1.desc).map (fun d => d.parameters.length) = some 2) ∧ M_MO_sags.2.2.1 ≤ 45 := ⟨gt_in 985 (by decide +kernel) rfl, gt_in 986 (by decide +kernel) rfl, gt_in 50 (by decide +kernel) rfl, gt_in 987 (by decide +kernel) rfl, ⟨by decide, by decide, by decide +kernel⟩, by decide⟩
theorem k_LW_87 : CallV "BlownByAllLaw" 87 M_MO_sags 2 := ⟨gt_in 984 (by decide +kernel) rfl, kc_MO_sags⟩
theorem kc_MO_total : Cond.instanceMethod M_MO_total.1 ∈ gtbl ∧ Cond.selects M_MO_total.1.cls M_MO_total.1 M_MO_total.1 ∈ gtbl ∧ Cond.initialized M_MO_total.1.cls ∈ gtbl ∧ Cond.code M_MO_total.1 M_MO_total.2.1 M_MO_total.2.2.1 M_MO_total.2.2.2 ∈ gtbl ∧ (M_MO_total.1.cls ≠ "java/lang/invoke/MethodHandle" ∧ M_MO_total.1.cls ≠ "java/lang/invoke/VarHandle" ∧ (parseMethodDescriptor M_MO_total.1.desc).map (fun d => d.parameters.length) = some 0) ∧ M_MO_total.2.2.1 ≤ 45 := ⟨gt_in 989 (by decide +kernel) rfl, gt_in 990 (by decide +kernel) rfl, gt_in 50 (by decide +kernel) rfl, gt_in 991 (by decide +kernel) rfl, ⟨by decide, by decide, by decide +kernel⟩, by decide⟩
theorem k_LW_91 : CallV "BlownByAllLaw" 91 M_MO_total 0 := ⟨gt_in 988 (by decide +kernel) rfl, kc_MO_total⟩
theorem kc_MO_totalOf : Cond.instanceMethod M_MO_totalOf.1 ∈ gtbl ∧ Cond.selects M_MO_totalOf.1.cls M_MO_totalOf.1 M_MO_totalOf.1 ∈ gtbl ∧ Cond.initialized M_MO_totalOf.1.cls ∈ gtbl ∧ Cond.code M_MO_totalOf.1 M_MO_totalOf.2.1 M_MO_totalOf.2.2.1 M_MO_totalOf.2.2.2 ∈ gtbl ∧ (M_MO_totalOf.1.cls ≠ "java/lang/invoke/MethodHandle" ∧ M_MO_totalOf.1.cls ≠ "java/lang/invoke/VarHandle" ∧ (parseMethodDescriptor M_MO_totalOf.1.desc).map (fun d => d.parameters.length) = some 0) ∧ M_MO_totalOf.2.2.1 ≤ 45 := ⟨gt_in 994 (by decide +kernel) rfl, gt_in 34 (by decide +kernel) rfl, gt_in 50 (by decide +kernel) rfl, gt_in 995 (by decide +kernel) rfl, ⟨by decide, by decide, by decide +kernel⟩, by decide⟩
theorem k_MO_166 : CallV "BlownByAllModel" 166 M_MO_totalOf 0 := ⟨gt_in 992 (by decide +kernel) rfl, kc_MO_totalOf⟩
theorem kc_MO_first : Cond.instanceMethod M_MO_first.1 ∈ gtbl ∧ Cond.selects M_MO_first.1.cls M_MO_first.1 M_MO_first.1 ∈ gtbl ∧ Cond.initialized M_MO_first.1.cls ∈ gtbl ∧ Cond.code M_MO_first.1 M_MO_first.2.1 M_MO_first.2.2.1 M_MO_first.2.2.2 ∈ gtbl ∧ (M_MO_first.1.cls ≠ "java/lang/invoke/MethodHandle" ∧ M_MO_first.1.cls ≠ "java/lang/invoke/VarHandle" ∧ (parseMethodDescriptor M_MO_first.1.desc).map (fun d => d.parameters.length) = some 0) ∧ M_MO_first.2.2.1 ≤ 45 := ⟨gt_in 997 (by decide +kernel) rfl, gt_in 998 (by decide +kernel) rfl, gt_in 50 (by decide +kernel) rfl, gt_in 999 (by decide +kernel) rfl, ⟨by decide, by decide, by decide +kernel⟩, by decide⟩
theorem k_LW_95 : CallV "BlownByAllLaw" 95 M_MO_first 0 := ⟨gt_in 996 (by decide +kernel) rfl, kc_MO_first⟩
theorem kc_MO_worst : Cond.instanceMethod M_MO_worst.1 ∈ gtbl ∧ Cond.selects M_MO_worst.1.cls M_MO_worst.1 M_MO_worst.1 ∈ gtbl ∧ Cond.initialized M_MO_worst.1.cls ∈ gtbl ∧ Cond.code M_MO_worst.1 M_MO_worst.2.1 M_MO_worst.2.2.1 M_MO_worst.2.2.2 ∈ gtbl ∧ (M_MO_worst.1.cls ≠ "java/lang/invoke/MethodHandle" ∧ M_MO_worst.1.cls ≠ "java/lang/invoke/VarHandle" ∧ (parseMethodDescriptor M_MO_worst.1.desc).map (fun d => d.parameters.length) = some 0) ∧ M_MO_worst.2.2.1 ≤ 45 := ⟨gt_in 1001 (by decide +kernel) rfl, gt_in 1002 (by decide +kernel) rfl, gt_in 50 (by decide +kernel) rfl, gt_in 1003 (by decide +kernel) rfl, ⟨by decide, by decide, by decide +kernel⟩, by decide⟩
theorem k_LW_99 : CallV "BlownByAllLaw" 99 M_MO_worst 0 := ⟨gt_in 1000 (by decide +kernel) rfl, kc_MO_worst⟩
theorem kc_MO_bestLate : Cond.instanceMethod M_MO_bestLate.1 ∈ gtbl ∧ Cond.selects M_MO_bestLate.1.cls M_MO_bestLate.1 M_MO_bestLate.1 ∈ gtbl ∧ Cond.initialized M_MO_bestLate.1.cls ∈ gtbl ∧ Cond.code M_MO_bestLate.1 M_MO_bestLate.2.1 M_MO_bestLate.2.2.1 M_MO_bestLate.2.2.2 ∈ gtbl ∧ (M_MO_bestLate.1.cls ≠ "java/lang/invoke/MethodHandle" ∧ M_MO_bestLate.1.cls ≠ "java/lang/invoke/VarHandle" ∧ (parseMethodDescriptor M_MO_bestLate.1.desc).map (fun d => d.parameters.length) = some 0) ∧ M_MO_bestLate.2.2.1 ≤ 45 := ⟨gt_in 1005 (by decide +kernel) rfl, gt_in 1006 (by decide +kernel) rfl, gt_in 50 (by decide +kernel) rfl, gt_in 1007 (by decide +kernel) rfl, ⟨by decide, by decide, by decide +kernel⟩, by decide⟩
theorem k_LW_103 : CallV "BlownByAllLaw" 103 M_MO_bestLate 0 := ⟨gt_in 1004 (by decide +kernel) rfl, kc_MO_bestLate⟩
theorem kc_MO_phases : Cond.instanceMethod M_MO_phases.1 ∈ gtbl ∧ Cond.selects M_MO_phases.1.cls M_MO_phases.1 M_MO_phases.1 ∈ gtbl ∧ Cond.initialized M_MO_phases.1.cls ∈ gtbl ∧ Cond.code M_MO_phases.1 M_MO_phases.2.1 M_MO_phases.2.2.1 M_MO_phases.2.2.2 ∈ gtbl ∧ (M_MO_phases.1.cls ≠ "java/lang/invoke/MethodHandle" ∧ M_MO_phases.1.cls ≠ "java/lang/invoke/VarHandle" ∧ (parseMethodDescriptor M_MO_phases.1.desc).map (fun d => d.parameters.length) = some 1) ∧ M_MO_phases.2.2.1 ≤ 45 := ⟨gt_in 1009 (by decide +kernel) rfl, gt_in 1010 (by decide +kernel) rfl, gt_in 50 (by decide +kernel) rfl, gt_in 1011 (by decide +kernel) rfl, ⟨by decide, by decide, by decide +kernel⟩, by decide⟩
theorem k_LW_107 : CallV "BlownByAllLaw" 107 M_MO_phases 1 := ⟨gt_in 1008 (by decide +kernel) rfl, kc_MO_phases⟩
theorem kc_MO_ones : Cond.static M_MO_ones.1 ∈ gtbl ∧ Cond.initialized M_MO_ones.1.cls ∈ gtbl ∧ Cond.code M_MO_ones.1 M_MO_ones.2.1 M_MO_ones.2.2.1 M_MO_ones.2.2.2 ∈ gtbl ∧ (M_MO_ones.1.cls ≠ "java/lang/invoke/MethodHandle" ∧ M_MO_ones.1.cls ≠ "java/lang/invoke/VarHandle" ∧ (parseMethodDescriptor M_MO_ones.1.desc).map (fun d => d.parameters.length) = some 1) ∧ M_MO_ones.2.2.1 ≤ 45 := ⟨gt_in 1013 (by decide +kernel) rfl, gt_in 50 (by decide +kernel) rfl, gt_in 1014 (by decide +kernel) rfl, ⟨by decide, by decide, by decide +kernel⟩, by decide⟩
theorem k_MO_169 : CallS "BlownByAllModel" 169 M_MO_ones 1 := ⟨gt_in 1012 (by decide +kernel) rfl, kc_MO_ones⟩
theorem kc_MO_layPhases : Cond.instanceMethod M_MO_layPhases.1 ∈ gtbl ∧ Cond.selects M_MO_layPhases.1.cls M_MO_layPhases.1 M_MO_layPhases.1 ∈ gtbl ∧ Cond.initialized M_MO_layPhases.1.cls ∈ gtbl ∧ Cond.code M_MO_layPhases.1 M_MO_layPhases.2.1 M_MO_layPhases.2.2.1 M_MO_layPhases.2.2.2 ∈ gtbl ∧ (M_MO_layPhases.1.cls ≠ "java/lang/invoke/MethodHandle" ∧ M_MO_layPhases.1.cls ≠ "java/lang/invoke/VarHandle" ∧ (parseMethodDescriptor M_MO_layPhases.1.desc).map (fun d => d.parameters.length) = some 1) ∧ M_MO_layPhases.2.2.1 ≤ 45 := ⟨gt_in 1017 (by decide +kernel) rfl, gt_in 35 (by decide +kernel) rfl, gt_in 50 (by decide +kernel) rfl, gt_in 1018 (by decide +kernel) rfl, ⟨by decide, by decide, by decide +kernel⟩, by decide⟩
theorem k_MO_175 : CallV "BlownByAllModel" 175 M_MO_layPhases 1 := ⟨gt_in 1015 (by decide +kernel) rfl, kc_MO_layPhases⟩
theorem kc_MO_member : Cond.static M_MO_member.1 ∈ gtbl ∧ Cond.initialized M_MO_member.1.cls ∈ gtbl ∧ Cond.code M_MO_member.1 M_MO_member.2.1 M_MO_member.2.2.1 M_MO_member.2.2.2 ∈ gtbl ∧ (M_MO_member.1.cls ≠ "java/lang/invoke/MethodHandle" ∧ M_MO_member.1.cls ≠ "java/lang/invoke/VarHandle" ∧ (parseMethodDescriptor M_MO_member.1.desc).map (fun d => d.parameters.length) = some 2) ∧ M_MO_member.2.2.1 ≤ 45 := ⟨gt_in 1020 (by decide +kernel) rfl, gt_in 50 (by decide +kernel) rfl, gt_in 1021 (by decide +kernel) rfl, ⟨by decide, by decide, by decide +kernel⟩, by decide⟩
theorem k_MO_172 : CallS "BlownByAllModel" 172 M_MO_member 2 := ⟨gt_in 1019 (by decide +kernel) rfl, kc_MO_member⟩
theorem kc_MO_phaseAt : Cond.instanceMethod M_MO_phaseAt.1 ∈ gtbl ∧ Cond.selects M_MO_phaseAt.1.cls M_MO_phaseAt.1 M_MO_phaseAt.1 ∈ gtbl ∧ Cond.initialized M_MO_phaseAt.1.cls ∈ gtbl ∧ Cond.code M_MO_phaseAt.1 M_MO_phaseAt.2.1 M_MO_phaseAt.2.2.1 M_MO_phaseAt.2.2.2 ∈ gtbl ∧ (M_MO_phaseAt.1.cls ≠ "java/lang/invoke/MethodHandle" ∧ M_MO_phaseAt.1.cls ≠ "java/lang/invoke/VarHandle" ∧ (parseMethodDescriptor M_MO_phaseAt.1.desc).map (fun d => d.parameters.length) = some 2) ∧ M_MO_phaseAt.2.2.1 ≤ 45 := ⟨gt_in 1023 (by decide +kernel) rfl, gt_in 1024 (by decide +kernel) rfl, gt_in 50 (by decide +kernel) rfl, gt_in 1025 (by decide +kernel) rfl, ⟨by decide, by decide, by decide +kernel⟩, by decide⟩
theorem k_LW_111 : CallV "BlownByAllLaw" 111 M_MO_phaseAt 2 := ⟨gt_in 1022 (by decide +kernel) rfl, kc_MO_phaseAt⟩
theorem kc_MO_seats : Cond.instanceMethod M_MO_seats.1 ∈ gtbl ∧ Cond.selects M_MO_seats.1.cls M_MO_seats.1 M_MO_seats.1 ∈ gtbl ∧ Cond.initialized M_MO_seats.1.cls ∈ gtbl ∧ Cond.code M_MO_seats.1 M_MO_seats.2.1 M_MO_seats.2.2.1 M_MO_seats.2.2.2 ∈ gtbl ∧ (M_MO_seats.1.cls ≠ "java/lang/invoke/MethodHandle" ∧ M_MO_seats.1.cls ≠ "java/lang/invoke/VarHandle" ∧ (parseMethodDescriptor M_MO_seats.1.desc).map (fun d => d.parameters.length) = some 0) ∧ M_MO_seats.2.2.1 ≤ 45 := ⟨gt_in 1027 (by decide +kernel) rfl, gt_in 1028 (by decide +kernel) rfl, gt_in 50 (by decide +kernel) rfl, gt_in 1029 (by decide +kernel) rfl, ⟨by decide, by decide, by decide +kernel⟩, by decide⟩
theorem k_LW_115 : CallV "BlownByAllLaw" 115 M_MO_seats 0 := ⟨gt_in 1026 (by decide +kernel) rfl, kc_MO_seats⟩
theorem kc_MO_laySeats : Cond.instanceMethod M_MO_laySeats.1 ∈ gtbl ∧ Cond.selects M_MO_laySeats.1.cls M_MO_laySeats.1 M_MO_laySeats.1 ∈ gtbl ∧ Cond.initialized M_MO_laySeats.1.cls ∈ gtbl ∧ Cond.code M_MO_laySeats.1 M_MO_laySeats.2.1 M_MO_laySeats.2.2.1 M_MO_laySeats.2.2.2 ∈ gtbl ∧ (M_MO_laySeats.1.cls ≠ "java/lang/invoke/MethodHandle" ∧ M_MO_laySeats.1.cls ≠ "java/lang/invoke/VarHandle" ∧ (parseMethodDescriptor M_MO_laySeats.1.desc).map (fun d => d.parameters.length) = some 0) ∧ M_MO_laySeats.2.2.1 ≤ 45 := ⟨gt_in 1032 (by decide +kernel) rfl, gt_in 36 (by decide +kernel) rfl, gt_in 50 (by decide +kernel) rfl, gt_in 1033 (by decide +kernel) rfl, ⟨by decide, by decide, by decide +kernel⟩, by decide⟩
theorem k_MO_178 : CallV "BlownByAllModel" 178 M_MO_laySeats 0 := ⟨gt_in 1030 (by decide +kernel) rfl, kc_MO_laySeats⟩
theorem kc_MO_seatAt : Cond.instanceMethod M_MO_seatAt.1 ∈ gtbl ∧ Cond.selects M_MO_seatAt.1.cls M_MO_seatAt.1 M_MO_seatAt.1 ∈ gtbl ∧ Cond.initialized M_MO_seatAt.1.cls ∈ gtbl ∧ Cond.code M_MO_seatAt.1 M_MO_seatAt.2.1 M_MO_seatAt.2.2.1 M_MO_seatAt.2.2.2 ∈ gtbl ∧ (M_MO_seatAt.1.cls ≠ "java/lang/invoke/MethodHandle" ∧ M_MO_seatAt.1.cls ≠ "java/lang/invoke/VarHandle" ∧ (parseMethodDescriptor M_MO_seatAt.1.desc).map (fun d => d.parameters.length) = some 1) ∧ M_MO_seatAt.2.2.1 ≤ 45 := ⟨gt_in 1035 (by decide +kernel) rfl, gt_in 1036 (by decide +kernel) rfl, gt_in 50 (by decide +kernel) rfl, gt_in 1037 (by decide +kernel) rfl, ⟨by decide, by decide, by decide +kernel⟩, by decide⟩
theorem k_LW_119 : CallV "BlownByAllLaw" 119 M_MO_seatAt 1 := ⟨gt_in 1034 (by decide +kernel) rfl, kc_MO_seatAt⟩
theorem kc_MO_bribes : Cond.instanceMethod M_MO_bribes.1 ∈ gtbl ∧ Cond.selects M_MO_bribes.1.cls M_MO_bribes.1 M_MO_bribes.1 ∈ gtbl ∧ Cond.initialized M_MO_bribes.1.cls ∈ gtbl ∧ Cond.code M_MO_bribes.1 M_MO_bribes.2.1 M_MO_bribes.2.2.1 M_MO_bribes.2.2.2 ∈ gtbl ∧ (M_MO_bribes.1.cls ≠ "java/lang/invoke/MethodHandle" ∧ M_MO_bribes.1.cls ≠ "java/lang/invoke/VarHandle" ∧ (parseMethodDescriptor M_MO_bribes.1.desc).map (fun d => d.parameters.length) = some 0) ∧ M_MO_bribes.2.2.1 ≤ 45 := ⟨gt_in 1039 (by decide +kernel) rfl, gt_in 1040 (by decide +kernel) rfl, gt_in 50 (by decide +kernel) rfl, gt_in 1041 (by decide +kernel) rfl, ⟨by decide, by decide, by decide +kernel⟩, by decide⟩
theorem k_LW_123 : CallV "BlownByAllLaw" 123 M_MO_bribes 0 := ⟨gt_in 1038 (by decide +kernel) rfl, kc_MO_bribes⟩
theorem kc_MO_isSteady : Cond.instanceMethod M_MO_isSteady.1 ∈ gtbl ∧ Cond.selects M_MO_isSteady.1.cls M_MO_isSteady.1 M_MO_isSteady.1 ∈ gtbl ∧ Cond.initialized M_MO_isSteady.1.cls ∈ gtbl ∧ Cond.code M_MO_isSteady.1 M_MO_isSteady.2.1 M_MO_isSteady.2.2.1 M_MO_isSteady.2.2.2 ∈ gtbl ∧ (M_MO_isSteady.1.cls ≠ "java/lang/invoke/MethodHandle" ∧ M_MO_isSteady.1.cls ≠ "java/lang/invoke/VarHandle" ∧ (parseMethodDescriptor M_MO_isSteady.1.desc).map (fun d => d.parameters.length) = some 1) ∧ M_MO_isSteady.2.2.1 ≤ 45 := ⟨gt_in 1044 (by decide +kernel) rfl, gt_in 37 (by decide +kernel) rfl, gt_in 50 (by decide +kernel) rfl, gt_in 1045 (by decide +kernel) rfl, ⟨by decide, by decide, by decide +kernel⟩, by decide⟩
theorem k_MO_181 : CallV "BlownByAllModel" 181 M_MO_isSteady 1 := ⟨gt_in 1042 (by decide +kernel) rfl, kc_MO_isSteady⟩
theorem kc_MO_needed : Cond.instanceMethod M_MO_needed.1 ∈ gtbl ∧ Cond.selects M_MO_needed.1.cls M_MO_needed.1 M_MO_needed.1 ∈ gtbl ∧ Cond.initialized M_MO_needed.1.cls ∈ gtbl ∧ Cond.code M_MO_needed.1 M_MO_needed.2.1 M_MO_needed.2.2.1 M_MO_needed.2.2.2 ∈ gtbl ∧ (M_MO_needed.1.cls ≠ "java/lang/invoke/MethodHandle" ∧ M_MO_needed.1.cls ≠ "java/lang/invoke/VarHandle" ∧ (parseMethodDescriptor M_MO_needed.1.desc).map (fun d => d.parameters.length) = some 1) ∧ M_MO_needed.2.2.1 ≤ 45 := ⟨gt_in 1047 (by decide +kernel) rfl, gt_in 1048 (by decide +kernel) rfl, gt_in 50 (by decide +kernel) rfl, gt_in 1049 (by decide +kernel) rfl, ⟨by decide, by decide, by decide +kernel⟩, by decide⟩
theorem k_LW_127 : CallV "BlownByAllLaw" 127 M_MO_needed 1 := ⟨gt_in 1046 (by decide +kernel) rfl, kc_MO_needed⟩
theorem kc_MO_never : Cond.instanceMethod M_MO_never.1 ∈ gtbl ∧ Cond.selects M_MO_never.1.cls M_MO_never.1 M_MO_never.1 ∈ gtbl ∧ Cond.initialized M_MO_never.1.cls ∈ gtbl ∧ Cond.code M_MO_never.1 M_MO_never.2.1 M_MO_never.2.2.1 M_MO_never.2.2.2 ∈ gtbl ∧ (M_MO_never.1.cls ≠ "java/lang/invoke/MethodHandle" ∧ M_MO_never.1.cls ≠ "java/lang/invoke/VarHandle" ∧ (parseMethodDescriptor M_MO_never.1.desc).map (fun d => d.parameters.length) = some 0) ∧ M_MO_never.2.2.1 ≤ 45 := ⟨gt_in 1051 (by decide +kernel) rfl, gt_in 1052 (by decide +kernel) rfl, gt_in 50 (by decide +kernel) rfl, gt_in 1053 (by decide +kernel) rfl, ⟨by decide, by decide, by decide +kernel⟩, by decide⟩
theorem k_LW_131 : CallV "BlownByAllLaw" 131 M_MO_never 0 := ⟨gt_in 1050 (by decide +kernel) rfl, kc_MO_never⟩
theorem kc_MO_steady : Cond.instanceMethod M_MO_steady.1 ∈ gtbl ∧ Cond.selects M_MO_steady.1.cls M_MO_steady.1 M_MO_steady.1 ∈ gtbl ∧ Cond.initialized M_MO_steady.1.cls ∈ gtbl ∧ Cond.code M_MO_steady.1 M_MO_steady.2.1 M_MO_steady.2.2.1 M_MO_steady.2.2.2 ∈ gtbl ∧ (M_MO_steady.1.cls ≠ "java/lang/invoke/MethodHandle" ∧ M_MO_steady.1.cls ≠ "java/lang/invoke/VarHandle" ∧ (parseMethodDescriptor M_MO_steady.1.desc).map (fun d => d.parameters.length) = some 4) ∧ M_MO_steady.2.2.1 ≤ 45 := ⟨gt_in 1055 (by decide +kernel) rfl, gt_in 1056 (by decide +kernel) rfl, gt_in 50 (by decide +kernel) rfl, gt_in 1057 (by decide +kernel) rfl, ⟨by decide, by decide, by decide +kernel⟩, by decide⟩
theorem k_LW_136 : CallV "BlownByAllLaw" 136 M_MO_steady 4 := ⟨gt_in 1054 (by decide +kernel) rfl, kc_MO_steady⟩
theorem kc_MO_layWays : Cond.instanceMethod M_MO_layWays.1 ∈ gtbl ∧ Cond.selects M_MO_layWays.1.cls M_MO_layWays.1 M_MO_layWays.1 ∈ gtbl ∧ Cond.initialized M_MO_layWays.1.cls ∈ gtbl ∧ Cond.code M_MO_layWays.1 M_MO_layWays.2.1 M_MO_layWays.2.2.1 M_MO_layWays.2.2.2 ∈ gtbl ∧ (M_MO_layWays.1.cls ≠ "java/lang/invoke/MethodHandle" ∧ M_MO_layWays.1.cls ≠ "java/lang/invoke/VarHandle" ∧ (parseMethodDescriptor M_MO_layWays.1.desc).map (fun d => d.parameters.length) = some 3) ∧ M_MO_layWays.2.2.1 ≤ 45 := ⟨gt_in 1063 (by decide +kernel) rfl, gt_in 38 (by decide +kernel) rfl, gt_in 50 (by decide +kernel) rfl, gt_in 1064 (by decide +kernel) rfl, ⟨by decide, by decide, by decide +kernel⟩, by decide⟩
theorem k_MO_194 : CallV "BlownByAllModel" 194 M_MO_layWays 3 := ⟨gt_in 1061 (by decide +kernel) rfl, kc_MO_layWays⟩
theorem kc_MO_less : Cond.instanceMethod M_MO_less.1 ∈ gtbl ∧ Cond.selects M_MO_less.1.cls M_MO_less.1 M_MO_less.1 ∈ gtbl ∧ Cond.initialized M_MO_less.1.cls ∈ gtbl ∧ Cond.code M_MO_less.1 M_MO_less.2.1 M_MO_less.2.2.1 M_MO_less.2.2.2 ∈ gtbl ∧ (M_MO_less.1.cls ≠ "java/lang/invoke/MethodHandle" ∧ M_MO_less.1.cls ≠ "java/lang/invoke/VarHandle" ∧ (parseMethodDescriptor M_MO_less.1.desc).map (fun d => d.parameters.length) = some 1) ∧ M_MO_less.2.2.1 ≤ 45 := ⟨gt_in 1067 (by decide +kernel) rfl, gt_in 39 (by decide +kernel) rfl, gt_in 50 (by decide +kernel) rfl, gt_in 1068 (by decide +kernel) rfl, ⟨by decide, by decide, by decide +kernel⟩, by decide⟩
theorem k_MO_198 : CallV "BlownByAllModel" 198 M_MO_less 1 := ⟨gt_in 1065 (by decide +kernel) rfl, kc_MO_less⟩
theorem kc_MO_part : Cond.static M_MO_part.1 ∈ gtbl ∧ Cond.initialized M_MO_part.1.cls ∈ gtbl ∧ Cond.code M_MO_part.1 M_MO_part.2.1 M_MO_part.2.2.1 M_MO_part.2.2.2 ∈ gtbl ∧ (M_MO_part.1.cls ≠ "java/lang/invoke/MethodHandle" ∧ M_MO_part.1.cls ≠ "java/lang/invoke/VarHandle" ∧ (parseMethodDescriptor M_MO_part.1.desc).map (fun d => d.parameters.length) = some 3) ∧ M_MO_part.2.2.1 ≤ 45 := ⟨gt_in 1070 (by decide +kernel) rfl, gt_in 50 (by decide +kernel) rfl, gt_in 1071 (by decide +kernel) rfl, ⟨by decide, by decide, by decide +kernel⟩, by decide⟩
theorem k_MO_202 : CallS "BlownByAllModel" 202 M_MO_part 3 := ⟨gt_in 1069 (by decide +kernel) rfl, kc_MO_part⟩
theorem kc_MO_blame : Cond.instanceMethod M_MO_blame.1 ∈ gtbl ∧ Cond.selects M_MO_blame.1.cls M_MO_blame.1 M_MO_blame.1 ∈ gtbl ∧ Cond.initialized M_MO_blame.1.cls ∈ gtbl ∧ Cond.code M_MO_blame.1 M_MO_blame.2.1 M_MO_blame.2.2.1 M_MO_blame.2.2.2 ∈ gtbl ∧ (M_MO_blame.1.cls ≠ "java/lang/invoke/MethodHandle" ∧ M_MO_blame.1.cls ≠ "java/lang/invoke/VarHandle" ∧ (parseMethodDescriptor M_MO_blame.1.desc).map (fun d => d.parameters.length) = some 4) ∧ M_MO_blame.2.2.1 ≤ 45 := ⟨gt_in 1073 (by decide +kernel) rfl, gt_in 1074 (by decide +kernel) rfl, gt_in 50 (by decide +kernel) rfl, gt_in 1075 (by decide +kernel) rfl, ⟨by decide, by decide, by decide +kernel⟩, by decide⟩
theorem k_LW_140 : CallV "BlownByAllLaw" 140 M_MO_blame 4 := ⟨gt_in 1072 (by decide +kernel) rfl, kc_MO_blame⟩
theorem kc_MO_keep : Cond.instanceMethod M_MO_keep.1 ∈ gtbl ∧ Cond.selects M_MO_keep.1.cls M_MO_keep.1 M_MO_keep.1 ∈ gtbl ∧ Cond.initialized M_MO_keep.1.cls ∈ gtbl ∧ Cond.code M_MO_keep.1 M_MO_keep.2.1 M_MO_keep.2.2.1 M_MO_keep.2.2.2 ∈ gtbl ∧ (M_MO_keep.1.cls ≠ "java/lang/invoke/MethodHandle" ∧ M_MO_keep.1.cls ≠ "java/lang/invoke/VarHandle" ∧ (parseMethodDescriptor M_MO_keep.1.desc).map (fun d => d.parameters.length) = some 1) ∧ M_MO_keep.2.2.1 ≤ 45 := ⟨gt_in 1078 (by decide +kernel) rfl, gt_in 1079 (by decide +kernel) rfl, gt_in 50 (by decide +kernel) rfl, gt_in 1080 (by decide +kernel) rfl, ⟨by decide, by decide, by decide +kernel⟩, by decide⟩
theorem k_LW_144 : CallV "BlownByAllLaw" 144 M_MO_keep 1 := ⟨gt_in 1077 (by decide +kernel) rfl, kc_MO_keep⟩
theorem kc_MO_again : Cond.instanceMethod M_MO_again.1 ∈ gtbl ∧ Cond.selects M_MO_again.1.cls M_MO_again.1 M_MO_again.1 ∈ gtbl ∧ Cond.initialized M_MO_again.1.cls ∈ gtbl ∧ Cond.code M_MO_again.1 M_MO_again.2.1 M_MO_again.2.2.1 M_MO_again.2.2.2 ∈ gtbl ∧ (M_MO_again.1.cls ≠ "java/lang/invoke/MethodHandle" ∧ M_MO_again.1.cls ≠ "java/lang/invoke/VarHandle" ∧ (parseMethodDescriptor M_MO_again.1.desc).map (fun d => d.parameters.length) = some 1) ∧ M_MO_again.2.2.1 ≤ 45 := ⟨gt_in 1082 (by decide +kernel) rfl, gt_in 1083 (by decide +kernel) rfl, gt_in 50 (by decide +kernel) rfl, gt_in 1084 (by decide +kernel) rfl, ⟨by decide, by decide, by decide +kernel⟩, by decide⟩
theorem k_LW_148 : CallV "BlownByAllLaw" 148 M_MO_again 1 := ⟨gt_in 1081 (by decide +kernel) rfl, kc_MO_again⟩
theorem kc_MO_count : Cond.instanceMethod M_MO_count.1 ∈ gtbl ∧ Cond.selects M_MO_count.1.cls M_MO_count.1 M_MO_count.1 ∈ gtbl ∧ Cond.initialized M_MO_count.1.cls ∈ gtbl ∧ Cond.code M_MO_count.1 M_MO_count.2.1 M_MO_count.2.2.1 M_MO_count.2.2.2 ∈ gtbl ∧ (M_MO_count.1.cls ≠ "java/lang/invoke/MethodHandle" ∧ M_MO_count.1.cls ≠ "java/lang/invoke/VarHandle" ∧ (parseMethodDescriptor M_MO_count.1.desc).map (fun d => d.parameters.length) = some 1) ∧ M_MO_count.2.2.1 ≤ 45 := ⟨gt_in 1086 (by decide +kernel) rfl, gt_in 1087 (by decide +kernel) rfl, gt_in 50 (by decide +kernel) rfl, gt_in 1088 (by decide +kernel) rfl, ⟨by decide, by decide, by decide +kernel⟩, by decide⟩
theorem k_LW_152 : CallV "BlownByAllLaw" 152 M_MO_count 1 := ⟨gt_in 1085 (by decide +kernel) rfl, kc_MO_count⟩
theorem cs_IG_265 : Cond.constant "java/lang/Integer" 265 (1431655765) ∈ gtbl := gt_in 571 (by decide +kernel) rfl
theorem cs_IG_266 : Cond.constant "java/lang/Integer" 266 (858993459) ∈ gtbl := gt_in 572 (by decide +kernel) rfl
theorem cs_IG_267 : Cond.constant "java/lang/Integer" 267 (252645135) ∈ gtbl := gt_in 573 (by decide +kernel) rfl
theorem cs_PH_62 : Cond.constant "BlownByAll$PhasePlan" 62 (2147483647) ∈ gtbl := gt_in 592 (by decide +kernel) rfl
theorem cs_SE_63 : Cond.constant "BlownByAll$SeatPlan" 63 (46656) ∈ gtbl := gt_in 643 (by decide +kernel) rfl
theorem cs_SE_69 : Cond.constant "BlownByAll$SeatPlan" 69 (2147483647) ∈ gtbl := gt_in 648 (by decide +kernel) rfl
theorem cs_BB_201 : Cond.constantLong "BlownByAll" 201 (-1) ∈ gtbl := gt_in 703 (by decide +kernel) rfl
theorem cs_BB_203 : Cond.constantLong "BlownByAll" 203 (-2) ∈ gtbl := gt_in 704 (by decide +kernel) rfl
theorem cs_SN_69 : Cond.constantLong "BlownByAll$Sneezes" 69 (10) ∈ gtbl := gt_in 719 (by decide +kernel) rfl
theorem cs_BB_220 : Cond.constantLong "BlownByAll" 220 (-3) ∈ gtbl := gt_in 736 (by decide +kernel) rfl
theorem cs_MO_73 : Cond.constantLong "BlownByAllModel" 73 (8) ∈ gtbl := gt_in 861 (by decide +kernel) rfl
theorem cs_MO_82 : Cond.constantLong "BlownByAllModel" 82 (255) ∈ gtbl := gt_in 865 (by decide +kernel) rfl
theorem cs_MO_108 : Cond.constantLong "BlownByAllModel" 108 (49) ∈ gtbl := gt_in 882 (by decide +kernel) rfl
theorem cs_MO_110 : Cond.constantLong "BlownByAllModel" 110 (57) ∈ gtbl := gt_in 883 (by decide +kernel) rfl
theorem cs_MO_97 : Cond.constantLong "BlownByAllModel" 97 (7) ∈ gtbl := gt_in 896 (by decide +kernel) rfl
theorem cs_MO_145 : Cond.constantLong "BlownByAllModel" 145 (4) ∈ gtbl := gt_in 925 (by decide +kernel) rfl
theorem cs_MO_150 : Cond.constantLong "BlownByAllModel" 150 (9) ∈ gtbl := gt_in 950 (by decide +kernel) rfl
theorem cs_MO_152 : Cond.constantLong "BlownByAllModel" 152 (99) ∈ gtbl := gt_in 955 (by decide +kernel) rfl
theorem cs_MO_190 : Cond.constantLong "BlownByAllModel" 190 (-1) ∈ gtbl := gt_in 1058 (by decide +kernel) rfl
theorem cs_MO_188 : Cond.constantLong "BlownByAllModel" 188 (10) ∈ gtbl := gt_in 1059 (by decide +kernel) rfl
theorem cs_MO_192 : Cond.constantLong "BlownByAllModel" 192 (-2) ∈ gtbl := gt_in 1060 (by decide +kernel) rfl
theorem cs_MO_206 : Cond.constantLong "BlownByAllModel" 206 (-3) ∈ gtbl := gt_in 1076 (by decide +kernel) rfl
theorem cs_LW_13 : Cond.constantLong "BlownByAllLaw" 13 (4294967295) ∈ gtbl := gt_in 1089 (by decide +kernel) rfl
end
section
/-! THE STATE OF AN ORGAN as numbers, and what it is in the cells of the class (PV, IV, TV, KV) and of the reference (AM) -/
abbrev SG : Type := Nat → Nat → Nat
def nP (σ : SG) : Nat := σ 0 0
def nM (σ : SG) : Nat := σ 0 1
def nB (σ : SG) : Nat := σ 0 2
def lt (σ : SG) : Nat := σ 0 3
def rm (σ : SG) : Nat := σ 0 4
def tl (σ : SG) : Nat := σ 0 5
def dr (σ : SG) (p : Nat) : Nat := σ 1 p
def sn (σ : SG) (j : Nat) : Nat := σ 2 j
def lu (σ : SG) (m : Nat) : Nat := σ 3 m
def fo (σ : SG) (m : Nat) : Nat := σ 4 m
def pl (σ : SG) (m : Nat) : Nat := σ 5 m
def ph (σ : SG) (m : Nat) : Nat := σ 6 m
def br (σ : SG) (m : Nat) : Nat := σ 7 m
def tx (σ : SG) (i : Nat) : Nat := σ 8 i
def kp (σ : SG) (s : Nat) : Nat := σ 9 s
def klt (σ : SG) (s : Nat) : Nat := σ 10 s
def krm (σ : SG) (s : Nat) : Nat := σ 11 s
/-- what a slot keeps of the people: s = 0, 1; f = 3 lungs, 4 force, 5 place, 6 phase, 7 bribed -/
def kf (σ : SG) (s f m : Nat) : Nat := σ (20 + 10 * s + f) m
def up (σ : SG) (f i v : Nat) : SG := fun f' i' => if f' = f ∧ i' = i then v else σ f' i'
def okM (σ : SG) (l f p h b : Nat) : Prop := 1 ≤ l ∧ l ≤ 9 ∧ 1 ≤ f ∧ f ≤ 3 ∧ p < nP σ ∧ h ≤ l ∧ b ≤ 1
def Ok (σ : SG) : Prop := (1 ≤ nP σ ∧ nP σ ≤ 6 ∧ nM σ ≤ 12 ∧ nB σ ≤ 24 ∧ lt σ ≤ 99 ∧ rm σ ≤ 9 ∧ tl σ ≤ 104) ∧ (∀ p, p < nP σ → 1 ≤ dr σ p ∧ dr σ p ≤ 9) ∧ (∀ j, j < nB σ → sn σ j < 64) ∧ (∀ m, m < nM σ → okM σ (lu σ m) (fo σ m) (pl σ m) (ph σ m) (br σ m)) ∧ (∀ i, i < tl σ → tx σ i < 256) ∧
  (∀ s, s < 2 → kp σ s ≤ 1 ∧ (kp σ s = 1 → klt σ s ≤ 99 ∧ krm σ s ≤ 9 ∧ ∀ m, m < nM σ → okM σ (kf σ s 3 m) (kf σ s 4 m) (kf σ s 5 m) (kf σ s 6 m) (kf σ s 7 m)))
/-- the class's people -/
def PV (σ : SG) (hi : HI) : Prop := hi 6 0 = zI (nM σ) ∧ hi 6 1 = zI (lt σ) ∧ hi 6 2 = zI (rm σ) ∧ (∀ m, m < nM σ → hi 7 m = zI (lu σ m)) ∧ (∀ m, m < nM σ → hi 8 m = zI (fo σ m)) ∧ (∀ m, m < nM σ → hi 9 m = zI (pl σ m)) ∧ (∀ m, m < nM σ → hi 10 m = zI (ph σ m)) ∧ (∀ m, m < nM σ → hi 11 m = zI (br σ m))
/-- its pipes and hymn -/
def IV (σ : SG) (hi : HI) : Prop := hi 3 0 = zI (nP σ) ∧ hi 3 1 = zI (nB σ) ∧ (∀ p, p < nP σ → hi 4 p = zI (dr σ p)) ∧ (∀ j, j < nB σ → hi 5 j = zI (sn σ j))
/-- its text: bytes with their signs -/
def sgn8 (n : Nat) : Int := if n < 128 then n else (n : Int) - 256
def TV (σ : SG) (hi : HI) : Prop := hi 1 1 = zI (tl σ) ∧ ∀ i, i < tl σ → hi 2 i = zI (sgn8 (tx σ i))
def KV (σ : SG) (hi : HI) : Prop := ∀ s, s < 2 → hi 40 s = zI (kp σ s) ∧ (kp σ s = 1 → hi (12 + 6 * s) 0 = zI (nM σ) ∧ hi (12 + 6 * s) 1 = zI (klt σ s) ∧ hi (12 + 6 * s) 2 = zI (krm σ s) ∧ ∀ m, m < nM σ → hi (13 + 6 * s) m = zI (kf σ s 3 m) ∧ hi (14 + 6 * s) m = zI (kf σ s 4 m) ∧ hi (15 + 6 * s) m = zI (kf σ s 5 m) ∧ hi (16 + 6 * s) m = zI (kf σ s 6 m) ∧ hi (17 + 6 * s) m = zI (kf σ s 7 m))
/-- the class -/
def AX (σ : SG) (hi : HI) : Prop := PV σ hi ∧ IV σ hi ∧ TV σ hi ∧ KV σ hi
/-- the reference -/
def AMp (σ : SG) (hi : HI) : Prop := hi 41 10 = zI (nM σ) ∧ hi 41 12 = zI (lt σ) ∧ hi 41 13 = zI (rm σ) ∧ (∀ m, m < nM σ → hi 46 (5 * m) = zI (lu σ m)) ∧ (∀ m, m < nM σ → hi 46 (5 * m + 1) = zI (fo σ m)) ∧ (∀ m, m < nM σ → hi 46 (5 * m + 2) = zI (pl σ m)) ∧ (∀ m, m < nM σ → hi 46 (5 * m + 3) = zI (ph σ m)) ∧ (∀ m, m < nM σ → hi 46 (5 * m + 4) = zI (br σ m))
def AMi (σ : SG) (hi : HI) : Prop := hi 41 9 = zI (nP σ) ∧ hi 41 11 = zI (nB σ) ∧ (∀ p, p < nP σ → hi 45 p = zI (dr σ p)) ∧ (∀ j, j < nB σ → hi 47 j = zI (sn σ j))
def AMt (σ : SG) (hi : HI) : Prop := hi 41 15 = zI (tl σ) ∧ ∀ i, i < tl σ → hi 48 i = zI (tx σ i)
def AMk (σ : SG) (hi : HI) : Prop := ∀ s, s < 2 → hi 58 s = zI (kp σ s) ∧ (kp σ s = 1 → hi 60 (2 * s) = zI (klt σ s) ∧ hi 60 (2 * s + 1) = zI (krm σ s) ∧ ∀ m, m < nM σ → ∀ f, f < 5 → hi 59 (60 * s + 5 * m + f) = zI (kf σ s (3 + f) m))
def AM (σ : SG) (hi : HI) : Prop := AMp σ hi ∧ AMi σ hi ∧ AMt σ hi ∧ AMk σ hi
section VIEWS
variable {σ : SG} {hi hi' : HI}
theorem PV.keep (h : PV σ hi) (e : ∀ c, 6 ≤ c → c ≤ 11 → hi' c = hi c) : PV σ hi' := by
  unfold PV at h ⊢
  rw [e 6 (by omega) (by omega), e 7 (by omega) (by omega), e 8 (by omega) (by omega), e 9 (by omega) (by omega), e 10 (by omega) (by omega), e 11 (by omega) (by omega)]
  exact h
theorem IV.keep (h : IV σ hi) (e : ∀ c, 3 ≤ c → c ≤ 5 → hi' c = hi c) : IV σ hi' := by
  unfold IV at h ⊢
  rw [e 3 (by omega) (by omega), e 4 (by omega) (by omega), e 5 (by omega) (by omega)]
  exact h
theorem PV.n (h : PV σ hi) : hi 6 0 = zI (nM σ) := h.1
theorem PV.late (h : PV σ hi) : hi 6 1 = zI (lt σ) := h.2.1
theorem PV.room (h : PV σ hi) : hi 6 2 = zI (rm σ) := h.2.2.1
theorem PV.lu (h : PV σ hi) {m : Nat} (hm : m < nM σ) : hi 7 m = zI (lu σ m) := h.2.2.2.1 m hm
theorem PV.fo (h : PV σ hi) {m : Nat} (hm : m < nM σ) : hi 8 m = zI (fo σ m) := h.2.2.2.2.1 m hm
theorem PV.pl (h : PV σ hi) {m : Nat} (hm : m < nM σ) : hi 9 m = zI (pl σ m) := h.2.2.2.2.2.1 m hm
theorem PV.ph (h : PV σ hi) {m : Nat} (hm : m < nM σ) : hi 10 m = zI (ph σ m) := h.2.2.2.2.2.2.1 m hm
theorem PV.br (h : PV σ hi) {m : Nat} (hm : m < nM σ) : hi 11 m = zI (br σ m) := h.2.2.2.2.2.2.2 m hm
theorem IV.np (h : IV σ hi) : hi 3 0 = zI (nP σ) := h.1
theorem IV.nb (h : IV σ hi) : hi 3 1 = zI (nB σ) := h.2.1
theorem IV.dr (h : IV σ hi) {p : Nat} (hm : p < nP σ) : hi 4 p = zI (dr σ p) := h.2.2.1 p hm
theorem IV.sn (h : IV σ hi) {j : Nat} (hm : j < nB σ) : hi 5 j = zI (sn σ j) := h.2.2.2 j hm
theorem Ok.nums (h : Ok σ) : 1 ≤ nP σ ∧ nP σ ≤ 6 ∧ nM σ ≤ 12 ∧ nB σ ≤ 24 ∧ lt σ ≤ 99 ∧ rm σ ≤ 9 ∧ tl σ ≤ 104 := h.1
theorem Ok.dr (h : Ok σ) {p : Nat} (hp : p < nP σ) : 1 ≤ dr σ p ∧ dr σ p ≤ 9 := h.2.1 p hp
theorem Ok.sn (h : Ok σ) {j : Nat} (hj : j < nB σ) : sn σ j < 64 := h.2.2.1 j hj
theorem Ok.m (h : Ok σ) {m : Nat} (hm : m < nM σ) : 1 ≤ lu σ m ∧ lu σ m ≤ 9 ∧ 1 ≤ fo σ m ∧ fo σ m ≤ 3 ∧ pl σ m < nP σ ∧ ph σ m ≤ lu σ m ∧ br σ m ≤ 1 := h.2.2.2.1 m hm
end VIEWS
/-- an answer, and nothing changed -/
def ans (x : Int32) (hi : HI) (hl : HL) : Option Value → HI → HL → Prop := fun r hi' hl' => r = some (.int x) ∧ hi = hi' ∧ hl = hl'
def ansL (x : Int64) (hi : HI) (hl : HL) : Option Value → HI → HL → Prop := fun r hi' hl' => r = some (.long x) ∧ hi = hi' ∧ hl = hl'
theorem wz_ldc {M : MD} {d : Nat} {Post : Option Value → HI → HL → Prop} {pc : Nat} {lv : LV} {st : List Value} {hi : HI} {hl : HL} {index : Nat} {v : Int32} {z : Int} (hd : decode M.2.1 pc = .ok (.ldc index, 2)) (hw : Cond.constant M.1.cls index v ∈ gtbl) (hv : v = zI z) (k : Wp M d Post (pc + 2) lv (.int (zI z) :: st) hi hl) : Wp M d Post pc lv st hi hl := wp_ldc hd hw (hv ▸ k)
theorem wz_ldc2 {M : MD} {d : Nat} {Post : Option Value → HI → HL → Prop} {pc : Nat} {lv : LV} {st : List Value} {hi : HI} {hl : HL} {index : Nat} {v : Int64} {z : Int} (hd : decode M.2.1 pc = .ok (.ldc2_w index, 3)) (hw : Cond.constantLong M.1.cls index v ∈ gtbl) (hv : v = lZ z) (k : Wp M d Post (pc + 3) lv (.long (lZ z) :: st) hi hl) : Wp M d Post pc lv st hi hl := wp_ldc2 hd hw (hv ▸ k)
/-! what the people give -/
/-- what PERSON m gives at the time t -/
def gv (σ : SG) (m t : Nat) : Nat := if (t + ph σ m) % (lu σ m + 1) = lu σ m ∧ br σ m = 0 then 0 else fo σ m
/-- who of the first n sits at the pipe, as bits -/
def sitN (σ : SG) (p : Nat) : Nat → Nat
  | 0 => 0
  | n + 1 => sitN σ p n ||| (if pl σ n = p then 2 ^ n else 0)
def sit (σ : SG) (p : Nat) : Nat := sitN σ p (nM σ)
theorem sitN_lt (σ : SG) (p : Nat) : ∀ n, sitN σ p n < 2 ^ n
  | 0 => by simp [sitN]
  | n + 1 => by
    have h := sitN_lt σ p n
    refine Nat.or_lt_two_pow (by rw [Nat.pow_succ]; omega) ?_
    split
    · rw [Nat.pow_succ]; have := Nat.two_pow_pos n; omega
    · exact Nat.two_pow_pos _
theorem sitN_bit (σ : SG) (p m : Nat) : ∀ n, (sitN σ p n).testBit m = (decide (m < n) && decide (pl σ m = p))
  | 0 => by simp [sitN]
  | n + 1 => by
    rw [sitN, Nat.testBit_or, sitN_bit σ p m n]
    by_cases hm : m = n
    · subst hm
      by_cases hp : pl σ m = p <;> simp [hp, Nat.testBit_two_pow_self]
    · have h2 : (if pl σ n = p then 2 ^ n else 0 : Nat).testBit m = false := by
        split
        · exact Nat.testBit_two_pow_of_ne (fun q => hm q.symm)
        · simp
      rw [h2]
      by_cases h : m < n
      · simp [h, Nat.lt_succ_of_lt h]
      · have : ¬ m < n + 1 := by omega
        simp [h, this]
/-- the force of a set -/
def forN (σ : SG) (set : Nat) : Nat → Nat
  | 0 => 0
  | n + 1 => forN σ set n + (if set.testBit n = true then fo σ n else 0)
def forS (σ : SG) (set : Nat) : Nat := forN σ set (nM σ)
def brN (σ : SG) : Nat → Nat
  | 0 => 0
  | n + 1 => brN σ n + br σ n
end
section
/-! People, Pipes: what is asked of them -/
theorem ans_of {x y : Int32} {hi : HI} {hl : HL} (h : y = x) : ans x hi hl (some (.int y)) hi hl := ⟨by rw [h], rfl, rfl⟩
theorem ans_t {c : Prop} [Decidable c] {hi : HI} {hl : HL} (h : c) : ans (bI c) hi hl (some (.int (zI 1))) hi hl := ans_of (bI_t h).symm
theorem ans_f {c : Prop} [Decidable c] {hi : HI} {hl : HL} (h : ¬ c) : ans (bI c) hi hl (some (.int (zI 0))) hi hl := ans_of (bI_f h).symm
section PEOPLE
variable {σ : SG} {hi : HI} {hl : HL}
theorem ct_PE_has {z : Int} (d : Nat) (ok : Ok σ) (hp : PV σ hi) (hz : inR z) : Ct M_PE_has d [.ref 6, .int (zI z)] hi hl (ans (bI (0 ≤ z ∧ z < nM σ)) hi hl) := by
  have hn := ok.nums
  refine ct_intro (lv := [_, _]) (by decide +kernel) (Nat.le_of_ble_eq_true rfl) rfl ?_
  refine wp_iload_n d_PE_has_0 rfl ?_
  refine wz_if_lt (tgt := 16) d_PE_has_1 (by decide) (by omega) (fun h1 => ?_) (fun h1 => ?_)
  · refine wp_iconst (v := zI 0) d_PE_has_16 rfl ?_
    exact wp_iret d_PE_has_17 (Or.inr ⟨rfl, by first | exact bI_01 _ | exact Or.inl rfl | exact Or.inr rfl⟩) (ans_f (by omega))
  · refine wp_iload_n d_PE_has_4 rfl ?_
    refine wp_aload_n d_PE_has_5 rfl ?_
    refine wz_getI (hp.n) d_PE_has_6 f_PE_34 (by decide) rfl rfl ?_
    refine wz_icmp_ge (tgt := 16) d_PE_has_9 (by decide) (by omega) (by omega) (fun h9 => ?_) (fun h9 => ?_)
    · refine wp_iconst (v := zI 0) d_PE_has_16 rfl ?_
      exact wp_iret d_PE_has_17 (Or.inr ⟨rfl, by first | exact bI_01 _ | exact Or.inl rfl | exact Or.inr rfl⟩) (ans_f (by omega))
    · refine wp_iconst (v := zI 1) d_PE_has_12 rfl ?_
      refine wp_goto (tgt := 17) d_PE_has_13 (by decide) ?_
      exact wp_iret d_PE_has_17 (Or.inr ⟨rfl, by first | exact bI_01 _ | exact Or.inl rfl | exact Or.inr rfl⟩) (ans_t (by omega))
theorem ct_PE_givenAt {m t : Nat} (d : Nat) (ok : Ok σ) (hp : PV σ hi) (hm : m < nM σ) (ht : t ≤ 1000) : Ct M_PE_givenAt d [.ref 6, .int (zI m), .int (zI t)] hi hl (ans (zI (gv σ m t)) hi hl) := by
  have hn := ok.nums
  have hmm := ok.m hm
  have e : ((t : Int) + (ph σ m : Int)) % ((lu σ m : Int) + 1) = (((t + ph σ m) % (lu σ m + 1) : Nat) : Int) := by simp
  have hlt : (t + ph σ m) % (lu σ m + 1) < lu σ m + 1 := Nat.mod_lt _ (by omega)
  refine ct_intro (lv := [_, _, _, _]) (by decide +kernel) (Nat.le_of_ble_eq_true rfl) rfl ?_
  refine wp_iload_n d_PE_givenAt_0 rfl ?_
  refine wp_aload_n d_PE_givenAt_1 rfl ?_
  refine wp_getR d_PE_givenAt_2 f_PE_21 (by decide) rfl rfl ?_
  refine wp_iload_n d_PE_givenAt_5 rfl ?_
  refine wz_iald (hp.ph hm) (rfl) ((by omega)) d_PE_givenAt_6 (by decide) rfl (by decide) ?_
  refine wz_iadd d_PE_givenAt_7 ?_
  refine wp_aload_n d_PE_givenAt_8 rfl ?_
  refine wp_getR d_PE_givenAt_9 f_PE_9 (by decide) rfl rfl ?_
  refine wp_iload_n d_PE_givenAt_12 rfl ?_
  refine wz_iald (hp.lu hm) (rfl) ((by omega)) d_PE_givenAt_13 (by decide) rfl (by decide) ?_
  refine wp_iconst (v := zI 1) d_PE_givenAt_14 rfl ?_
  refine wz_iadd d_PE_givenAt_15 ?_
  refine wz_irem d_PE_givenAt_16 (by omega) (by omega) (by omega) (by omega) ?_
  rw [e]
  refine wp_aload_n d_PE_givenAt_17 rfl ?_
  refine wp_getR d_PE_givenAt_18 f_PE_9 (by decide) rfl rfl ?_
  refine wp_iload_n d_PE_givenAt_21 rfl ?_
  refine wz_iald (hp.lu hm) (rfl) ((by omega)) d_PE_givenAt_22 (by decide) rfl (by decide) ?_
  refine wz_icmp_ne (tgt := 30) d_PE_givenAt_23 (by decide) (by omega) (by omega) (fun h23 => ?_) (fun h23 => ?_)
  · refine wp_iconst (v := zI 0) d_PE_givenAt_30 rfl ?_
    refine wp_istore_n (lv' := [_, _, _, _]) d_PE_givenAt_31 (by decide) rfl ?_
    refine wp_iload_n d_PE_givenAt_32 rfl ?_
    refine wz_if_eq (tgt := 49) d_PE_givenAt_33 (by decide) (by omega) (fun h33 => ?_) (fun h33 => ?_)
    · refine wp_aload_n d_PE_givenAt_49 rfl ?_
      refine wp_getR d_PE_givenAt_50 f_PE_15 (by decide) rfl rfl ?_
      refine wp_iload_n d_PE_givenAt_53 rfl ?_
      refine wz_iald (hp.fo hm) (rfl) ((by omega)) d_PE_givenAt_54 (by decide) rfl (by decide) ?_
      exact wp_iret d_PE_givenAt_55 (Or.inl rfl) (ans_of (by rw [gv, if_neg (by omega)]))
    · exact absurd rfl h33
  · refine wp_iconst (v := zI 1) d_PE_givenAt_26 rfl ?_
    refine wp_goto (tgt := 31) d_PE_givenAt_27 (by decide) ?_
    refine wp_istore_n (lv' := [_, _, _, _]) d_PE_givenAt_31 (by decide) rfl ?_
    refine wp_iload_n d_PE_givenAt_32 rfl ?_
    refine wz_if_eq (tgt := 49) d_PE_givenAt_33 (by decide) (by omega) (fun h33 => ?_) (fun h33 => ?_)
    · exact absurd h33 (by decide)
    · refine wp_aload_n d_PE_givenAt_36 rfl ?_
      refine wp_getR d_PE_givenAt_37 f_PE_24 (by decide) rfl rfl ?_
      refine wp_iload_n d_PE_givenAt_40 rfl ?_
      refine wz_zald (hp.br hm) (rfl) ((by omega)) d_PE_givenAt_41 (by decide) rfl (by decide) ?_
      refine wz_if_ne (tgt := 49) d_PE_givenAt_42 (by decide) (by omega) (fun h42 => ?_) (fun h42 => ?_)
      · refine wp_aload_n d_PE_givenAt_49 rfl ?_
        refine wp_getR d_PE_givenAt_50 f_PE_15 (by decide) rfl rfl ?_
        refine wp_iload_n d_PE_givenAt_53 rfl ?_
        refine wz_iald (hp.fo hm) (rfl) ((by omega)) d_PE_givenAt_54 (by decide) rfl (by decide) ?_
        exact wp_iret d_PE_givenAt_55 (Or.inl rfl) (ans_of (by rw [gv, if_neg (by omega)]))
      · refine wp_iconst (v := zI 0) d_PE_givenAt_45 rfl ?_
        refine wp_goto (tgt := 55) d_PE_givenAt_46 (by decide) ?_
        exact wp_iret d_PE_givenAt_55 (Or.inl rfl) (ans_of (by rw [gv, if_pos (by omega)]; rfl))
theorem ct_PE_sittingAt {p : Nat} (d : Nat) (ok : Ok σ) (hp : PV σ hi) (hpp : p < 100) : Ct M_PE_sittingAt d [.ref 6, .int (zI p)] hi hl (ans (zI (sit σ p)) hi hl) := by
  have hn := ok.nums
  have loop : ∀ k i, i + k = nM σ → Wp M_PE_sittingAt d (ans (zI (sit σ p)) hi hl) 4 [some (.ref 6), some (.int (zI p)), some (.int (zI (sitN σ p i))), some (.int (zI i))] [] hi hl := by
    intro k
    induction k with
    | zero =>
      intro i hik
      refine wp_iload_n d_PE_sittingAt_4 rfl ?_
      refine wp_aload_n d_PE_sittingAt_5 rfl ?_
      refine wz_getI (hp.n) d_PE_sittingAt_6 f_PE_34 (by decide) rfl rfl ?_
      refine wz_icmp_ge (tgt := 34) d_PE_sittingAt_9 (by decide) (by omega) (by omega) (fun h9 => ?_) (fun h9 => ?_)
      · refine wp_iload_n d_PE_sittingAt_34 rfl ?_
        exact wp_iret d_PE_sittingAt_35 (Or.inl rfl) (ans_of (by rw [sit, ← hik]; rfl))
      · exact absurd h9 (by omega)
    | succ k ih =>
      intro i hik
      have hmm := ok.m (m := i) (by omega)
      have hlt := sitN_lt σ p i
      have h2 : 2 ^ i ≤ 2 ^ 11 := Nat.pow_le_pow_right (by omega) (by omega)
      refine wp_iload_n d_PE_sittingAt_4 rfl ?_
      refine wp_aload_n d_PE_sittingAt_5 rfl ?_
      refine wz_getI (hp.n) d_PE_sittingAt_6 f_PE_34 (by decide) rfl rfl ?_
      refine wz_icmp_ge (tgt := 34) d_PE_sittingAt_9 (by decide) (by omega) (by omega) (fun h9 => ?_) (fun h9 => ?_)
      · exact absurd h9 (by omega)
      · refine wp_aload_n d_PE_sittingAt_12 rfl ?_
        refine wp_getR d_PE_sittingAt_13 f_PE_18 (by decide) rfl rfl ?_
        refine wp_iload_n d_PE_sittingAt_16 rfl ?_
        refine wz_iald (hp.pl (m := i) (by omega)) (rfl) ((by omega)) d_PE_sittingAt_17 (by decide) rfl (by decide) ?_
        refine wp_iload_n d_PE_sittingAt_18 rfl ?_
        refine wz_icmp_ne (tgt := 28) d_PE_sittingAt_19 (by decide) (by omega) (by omega) (fun h19 => ?_) (fun h19 => ?_)
        · refine wz_iinc (lv' := [_, _, _, _]) d_PE_sittingAt_28 rfl (by decide) rfl ?_
          refine wp_goto (tgt := 4) d_PE_sittingAt_31 (by decide) ?_
          have e : sitN σ p (i + 1) = sitN σ p i := by rw [sitN, if_neg (by omega), Nat.or_zero]
          have := ih (i + 1) (by omega)
          rw [e] at this
          exact this
        · refine wp_iload_n d_PE_sittingAt_22 rfl ?_
          refine wp_iconst (v := zI 1) d_PE_sittingAt_23 rfl ?_
          refine wp_iload_n d_PE_sittingAt_24 rfl ?_
          refine wp_ishl d_PE_sittingAt_25 ?_
          refine wp_ior d_PE_sittingAt_26 ?_
          refine wz_top (y := zI (sitN σ p (i + 1))) ?_ ?_
          · rw [show zI 1 = zI ((1 : Nat) : Int) from rfl, zI_shl (by omega) (by omega), zI_or, sitN, if_pos (by omega), Nat.one_mul]
          · refine wp_istore_n (lv' := [_, _, _, _]) d_PE_sittingAt_27 (by decide) rfl ?_
            refine wz_iinc (lv' := [_, _, _, _]) d_PE_sittingAt_28 rfl (by decide) rfl ?_
            refine wp_goto (tgt := 4) d_PE_sittingAt_31 (by decide) ?_
            exact ih (i + 1) (by omega)
  refine ct_intro (lv := [_, _, _, _]) (by decide +kernel) (Nat.le_of_ble_eq_true rfl) rfl ?_
  refine wp_iconst (v := zI 0) d_PE_sittingAt_0 rfl ?_
  refine wp_istore_n (lv' := [_, _, _, _]) d_PE_sittingAt_1 (by decide) rfl ?_
  refine wp_iconst (v := zI 0) d_PE_sittingAt_2 rfl ?_
  refine wp_istore_n (lv' := [_, _, _, _]) d_PE_sittingAt_3 (by decide) rfl ?_
  exact loop (nM σ) 0 (by omega)
theorem forN_le (ok : Ok σ) (set : Nat) : ∀ n, n ≤ nM σ → forN σ set n ≤ 3 * n
  | 0, _ => by simp [forN]
  | n + 1, h => by
    have h1 := forN_le ok set n (by omega)
    have h2 := ok.m (m := n) (by omega)
    rw [forN]
    split <;> omega
theorem ct_PE_forceOf {set : Nat} (d : Nat) (ok : Ok σ) (hp : PV σ hi) (hs : set < 2 ^ 12) : Ct M_PE_forceOf d [.ref 6, .int (zI set)] hi hl (ans (zI (forS σ set)) hi hl) := by
  have hn := ok.nums
  have loop : ∀ k i, i + k = nM σ → Wp M_PE_forceOf d (ans (zI (forS σ set)) hi hl) 4 [some (.ref 6), some (.int (zI set)), some (.int (zI (forN σ set i))), some (.int (zI i))] [] hi hl := by
    intro k
    induction k with
    | zero =>
      intro i hik
      refine wp_iload_n d_PE_forceOf_4 rfl ?_
      refine wp_aload_n d_PE_forceOf_5 rfl ?_
      refine wz_getI (hp.n) d_PE_forceOf_6 f_PE_34 (by decide) rfl rfl ?_
      refine wz_icmp_ge (tgt := 36) d_PE_forceOf_9 (by decide) (by omega) (by omega) (fun h9 => ?_) (fun h9 => ?_)
      · refine wp_iload_n d_PE_forceOf_36 rfl ?_
        exact wp_iret d_PE_forceOf_37 (Or.inl rfl) (ans_of (by rw [forS, ← hik]; rfl))
      · exact absurd h9 (by omega)
    | succ k ih =>
      intro i hik
      have hmm := ok.m (m := i) (by omega)
      have hfl := forN_le ok set i (by omega)
      refine wp_iload_n d_PE_forceOf_4 rfl ?_
      refine wp_aload_n d_PE_forceOf_5 rfl ?_
      refine wz_getI (hp.n) d_PE_forceOf_6 f_PE_34 (by decide) rfl rfl ?_
      refine wz_icmp_ge (tgt := 36) d_PE_forceOf_9 (by decide) (by omega) (by omega) (fun h9 => ?_) (fun h9 => ?_)
      · exact absurd h9 (by omega)
      · refine wp_iload_n d_PE_forceOf_12 rfl ?_
        refine wp_iload_n d_PE_forceOf_13 rfl ?_
        refine wp_ishr d_PE_forceOf_14 ?_
        refine wp_iconst (v := zI 1) d_PE_forceOf_15 rfl ?_
        refine wp_iand d_PE_forceOf_16 ?_
        rw [zI_bit (by omega) (by omega)]
        refine wp_iconst (v := zI 1) d_PE_forceOf_17 rfl ?_
        refine wp_icmp_ne (tgt := 30) d_PE_forceOf_18 (by decide) (fun h18 => ?_) (fun h18 => ?_)
        · refine wz_iinc (lv' := [_, _, _, _]) d_PE_forceOf_30 rfl (by decide) rfl ?_
          refine wp_goto (tgt := 4) d_PE_forceOf_33 (by decide) ?_
          have e : forN σ set (i + 1) = forN σ set i := by rw [forN, if_neg (fun q => h18 (bI_t q)), Nat.add_zero]
          have := ih (i + 1) (by omega)
          rw [e] at this
          exact this
        · refine wp_iload_n d_PE_forceOf_21 rfl ?_
          refine wp_aload_n d_PE_forceOf_22 rfl ?_
          refine wp_getR d_PE_forceOf_23 f_PE_15 (by decide) rfl rfl ?_
          refine wp_iload_n d_PE_forceOf_26 rfl ?_
          refine wz_iald (hp.fo (m := i) (by omega)) (rfl) ((by omega)) d_PE_forceOf_27 (by decide) rfl (by decide) ?_
          refine wz_iadd d_PE_forceOf_28 ?_
          refine wp_istore_n (lv' := [_, _, _, _]) d_PE_forceOf_29 (by decide) rfl ?_
          refine wz_iinc (lv' := [_, _, _, _]) d_PE_forceOf_30 rfl (by decide) rfl ?_
          refine wp_goto (tgt := 4) d_PE_forceOf_33 (by decide) ?_
          have q : set.testBit i = true := Decidable.byContradiction fun q => by rw [bI_f q] at h18; exact absurd h18 (by decide)
          have e : forN σ set (i + 1) = forN σ set i + fo σ i := by rw [forN, if_pos q]
          have := ih (i + 1) (by omega)
          rw [e] at this
          exact this
  refine ct_intro (lv := [_, _, _, _]) (by decide +kernel) (Nat.le_of_ble_eq_true rfl) rfl ?_
  refine wp_iconst (v := zI 0) d_PE_forceOf_0 rfl ?_
  refine wp_istore_n (lv' := [_, _, _, _]) d_PE_forceOf_1 (by decide) rfl ?_
  refine wp_iconst (v := zI 0) d_PE_forceOf_2 rfl ?_
  refine wp_istore_n (lv' := [_, _, _, _]) d_PE_forceOf_3 (by decide) rfl ?_
  exact loop (nM σ) 0 (by omega)
theorem brN_le (ok : Ok σ) : ∀ n, n ≤ nM σ → brN σ n ≤ n
  | 0, _ => by simp [brN]
  | n + 1, h => by
    have h1 := brN_le ok n (by omega)
    have h2 := ok.m (m := n) (by omega)
    rw [brN]
    omega
theorem ct_PE_bribedOnes (d : Nat) (ok : Ok σ) (hp : PV σ hi) : Ct M_PE_bribedOnes d [.ref 6] hi hl (ans (zI (brN σ (nM σ))) hi hl) := by
  have hn := ok.nums
  have loop : ∀ k i, i + k = nM σ → Wp M_PE_bribedOnes d (ans (zI (brN σ (nM σ))) hi hl) 4 [some (.ref 6), some (.int (zI (brN σ i))), some (.int (zI i))] [] hi hl := by
    intro k
    induction k with
    | zero =>
      intro i hik
      refine wp_iload_n d_PE_bribedOnes_4 rfl ?_
      refine wp_aload_n d_PE_bribedOnes_5 rfl ?_
      refine wz_getI (hp.n) d_PE_bribedOnes_6 f_PE_34 (by decide) rfl rfl ?_
      refine wz_icmp_ge (tgt := 30) d_PE_bribedOnes_9 (by decide) (by omega) (by omega) (fun h9 => ?_) (fun h9 => ?_)
      · refine wp_iload_n d_PE_bribedOnes_30 rfl ?_
        exact wp_iret d_PE_bribedOnes_31 (Or.inl rfl) (ans_of (by rw [← hik]; rfl))
      · exact absurd h9 (by omega)
    | succ k ih =>
      intro i hik
      have hmm := ok.m (m := i) (by omega)
      have hfl := brN_le ok i (by omega)
      refine wp_iload_n d_PE_bribedOnes_4 rfl ?_
      refine wp_aload_n d_PE_bribedOnes_5 rfl ?_
      refine wz_getI (hp.n) d_PE_bribedOnes_6 f_PE_34 (by decide) rfl rfl ?_
      refine wz_icmp_ge (tgt := 30) d_PE_bribedOnes_9 (by decide) (by omega) (by omega) (fun h9 => ?_) (fun h9 => ?_)
      · exact absurd h9 (by omega)
      · refine wp_aload_n d_PE_bribedOnes_12 rfl ?_
        refine wp_getR d_PE_bribedOnes_13 f_PE_24 (by decide) rfl rfl ?_
        refine wp_iload_n d_PE_bribedOnes_16 rfl ?_
        refine wz_zald (hp.br (m := i) (by omega)) (rfl) ((by omega)) d_PE_bribedOnes_17 (by decide) rfl (by decide) ?_
        refine wz_if_eq (tgt := 24) d_PE_bribedOnes_18 (by decide) (by omega) (fun h18 => ?_) (fun h18 => ?_)
        · refine wz_iinc (lv' := [_, _, _]) d_PE_bribedOnes_24 rfl (by decide) rfl ?_
          refine wp_goto (tgt := 4) d_PE_bribedOnes_27 (by decide) ?_
          have e : brN σ (i + 1) = brN σ i := by rw [brN]; omega
          have := ih (i + 1) (by omega)
          rw [e] at this
          exact this
        · refine wz_iinc (lv' := [_, _, _]) d_PE_bribedOnes_21 rfl (by decide) rfl ?_
          refine wz_iinc (lv' := [_, _, _]) d_PE_bribedOnes_24 rfl (by decide) rfl ?_
          refine wp_goto (tgt := 4) d_PE_bribedOnes_27 (by decide) ?_
          have e : brN σ (i + 1) = brN σ i + 1 := by rw [brN]; omega
          have := ih (i + 1) (by omega)
          rw [e] at this
          exact this
  refine ct_intro (lv := [_, _, _]) (by decide +kernel) (Nat.le_of_ble_eq_true rfl) rfl ?_
  refine wp_iconst (v := zI 0) d_PE_bribedOnes_0 rfl ?_
  refine wp_istore_n (lv' := [_, _, _]) d_PE_bribedOnes_1 (by decide) rfl ?_
  refine wp_iconst (v := zI 0) d_PE_bribedOnes_2 rfl ?_
  refine wp_istore_n (lv' := [_, _, _]) d_PE_bribedOnes_3 (by decide) rfl ?_
  exact loop (nM σ) 0 (by omega)
theorem ct_PI_has {z : Int} (d : Nat) (ok : Ok σ) (hv : IV σ hi) (hz : inR z) : Ct M_PI_has d [.ref 3, .int (zI z)] hi hl (ans (bI (0 ≤ z ∧ z < nP σ)) hi hl) := by
  have hn := ok.nums
  refine ct_intro (lv := [_, _]) (by decide +kernel) (Nat.le_of_ble_eq_true rfl) rfl ?_
  refine wp_iload_n d_PI_has_0 rfl ?_
  refine wz_if_lt (tgt := 16) d_PI_has_1 (by decide) (by omega) (fun h1 => ?_) (fun h1 => ?_)
  · refine wp_iconst (v := zI 0) d_PI_has_16 rfl ?_
    exact wp_iret d_PI_has_17 (Or.inr ⟨rfl, by first | exact bI_01 _ | exact Or.inl rfl | exact Or.inr rfl⟩) (ans_f (by omega))
  · refine wp_iload_n d_PI_has_4 rfl ?_
    refine wp_aload_n d_PI_has_5 rfl ?_
    refine wz_getI (hv.np) d_PI_has_6 f_PI_18 (by decide) rfl rfl ?_
    refine wz_icmp_ge (tgt := 16) d_PI_has_9 (by decide) (by omega) (by omega) (fun h9 => ?_) (fun h9 => ?_)
    · refine wp_iconst (v := zI 0) d_PI_has_16 rfl ?_
      exact wp_iret d_PI_has_17 (Or.inr ⟨rfl, by first | exact bI_01 _ | exact Or.inl rfl | exact Or.inr rfl⟩) (ans_f (by omega))
    · refine wp_iconst (v := zI 1) d_PI_has_12 rfl ?_
      refine wp_goto (tgt := 17) d_PI_has_13 (by decide) ?_
      exact wp_iret d_PI_has_17 (Or.inr ⟨rfl, by first | exact bI_01 _ | exact Or.inl rfl | exact Or.inr rfl⟩) (ans_t (by omega))
theorem ct_PI_hasBeat {z : Int} (d : Nat) (ok : Ok σ) (hv : IV σ hi) (hz : inR z) : Ct M_PI_hasBeat d [.ref 3, .int (zI z)] hi hl (ans (bI (0 ≤ z ∧ z < nB σ)) hi hl) := by
  have hn := ok.nums
  refine ct_intro (lv := [_, _]) (by decide +kernel) (Nat.le_of_ble_eq_true rfl) rfl ?_
  refine wp_iload_n d_PI_hasBeat_0 rfl ?_
  refine wz_if_lt (tgt := 16) d_PI_hasBeat_1 (by decide) (by omega) (fun h1 => ?_) (fun h1 => ?_)
  · refine wp_iconst (v := zI 0) d_PI_hasBeat_16 rfl ?_
    exact wp_iret d_PI_hasBeat_17 (Or.inr ⟨rfl, by first | exact bI_01 _ | exact Or.inl rfl | exact Or.inr rfl⟩) (ans_f (by omega))
  · refine wp_iload_n d_PI_hasBeat_4 rfl ?_
    refine wp_aload_n d_PI_hasBeat_5 rfl ?_
    refine wz_getI (hv.nb) d_PI_hasBeat_6 f_PI_30 (by decide) rfl rfl ?_
    refine wz_icmp_ge (tgt := 16) d_PI_hasBeat_9 (by decide) (by omega) (by omega) (fun h9 => ?_) (fun h9 => ?_)
    · refine wp_iconst (v := zI 0) d_PI_hasBeat_16 rfl ?_
      exact wp_iret d_PI_hasBeat_17 (Or.inr ⟨rfl, by first | exact bI_01 _ | exact Or.inl rfl | exact Or.inr rfl⟩) (ans_f (by omega))
    · refine wp_iconst (v := zI 1) d_PI_hasBeat_12 rfl ?_
      refine wp_goto (tgt := 17) d_PI_hasBeat_13 (by decide) ?_
      exact wp_iret d_PI_hasBeat_17 (Or.inr ⟨rfl, by first | exact bI_01 _ | exact Or.inl rfl | exact Or.inr rfl⟩) (ans_t (by omega))
theorem ct_PI_hasBoth {z w : Int} (ok : Ok σ) (hv : IV σ hi) (hz : inR z) (hw : inR w) : Ct M_PI_hasBoth 1 [.ref 3, .int (zI z), .int (zI w)] hi hl (ans (bI ((0 ≤ z ∧ z < nP σ) ∧ (0 ≤ w ∧ w < nB σ))) hi hl) := by
  refine ct_intro (lv := [_, _, _]) (by decide +kernel) (Nat.le_of_ble_eq_true rfl) rfl ?_
  refine wp_aload_n d_PI_hasBoth_0 rfl ?_
  refine wp_iload_n d_PI_hasBoth_1 rfl ?_
  refine wp_callV (ct_PI_has 0 ok hv hz) d_PI_hasBoth_2 k_PI_40 (by decide) rfl rfl rfl rfl (Nat.le_of_ble_eq_true rfl) (by omega) ?_
  rintro _ _ _ ⟨rfl, rfl, rfl⟩
  refine wz_if_eqB (tgt := 20) d_PI_hasBoth_5 (by decide) (fun h5 => ?_) (fun h5 => ?_)
  · refine wp_iconst (v := zI 0) d_PI_hasBoth_20 rfl ?_
    exact wp_iret d_PI_hasBoth_21 (Or.inr ⟨rfl, by first | exact bI_01 _ | exact Or.inl rfl | exact Or.inr rfl⟩) (ans_f (fun q => h5 q.1))
  · refine wp_aload_n d_PI_hasBoth_8 rfl ?_
    refine wp_iload_n d_PI_hasBoth_9 rfl ?_
    refine wp_callV (ct_PI_hasBeat 0 ok hv hw) d_PI_hasBoth_10 k_PI_44 (by decide) rfl rfl rfl rfl (Nat.le_of_ble_eq_true rfl) (by omega) ?_
    rintro _ _ _ ⟨rfl, rfl, rfl⟩
    refine wz_if_eqB (tgt := 20) d_PI_hasBoth_13 (by decide) (fun h13 => ?_) (fun h13 => ?_)
    · refine wp_iconst (v := zI 0) d_PI_hasBoth_20 rfl ?_
      exact wp_iret d_PI_hasBoth_21 (Or.inr ⟨rfl, by first | exact bI_01 _ | exact Or.inl rfl | exact Or.inr rfl⟩) (ans_f (fun q => h13 q.2))
    · refine wp_iconst (v := zI 1) d_PI_hasBoth_16 rfl ?_
      refine wp_goto (tgt := 21) d_PI_hasBoth_17 (by decide) ?_
      exact wp_iret d_PI_hasBoth_21 (Or.inr ⟨rfl, by first | exact bI_01 _ | exact Or.inl rfl | exact Or.inr rfl⟩) (ans_t ⟨h5, h13⟩)
theorem ct_PI_isSounding {p j : Nat} (d : Nat) (ok : Ok σ) (hv : IV σ hi) (hpp : p < 32) (hj : j < nB σ) : Ct M_PI_isSounding d [.ref 3, .int (zI p), .int (zI j)] hi hl (ans (bI ((sn σ j).testBit p = true)) hi hl) := by
  have hn := ok.nums
  have hs := ok.sn hj
  refine ct_intro (lv := [_, _, _]) (by decide +kernel) (Nat.le_of_ble_eq_true rfl) rfl ?_
  refine wp_aload_n d_PI_isSounding_0 rfl ?_
  refine wp_getR d_PI_isSounding_1 f_PI_15 (by decide) rfl rfl ?_
  refine wp_iload_n d_PI_isSounding_4 rfl ?_
  refine wz_iald (hv.sn hj) (rfl) ((by omega)) d_PI_isSounding_5 (by decide) rfl (by decide) ?_
  refine wp_iload_n d_PI_isSounding_6 rfl ?_
  refine wp_ishr d_PI_isSounding_7 ?_
  refine wp_iconst (v := zI 1) d_PI_isSounding_8 rfl ?_
  refine wp_iand d_PI_isSounding_9 ?_
  rw [zI_bit (by omega) hpp]
  refine wp_iconst (v := zI 1) d_PI_isSounding_10 rfl ?_
  refine wp_icmp_ne (tgt := 18) d_PI_isSounding_11 (by decide) (fun h11 => ?_) (fun h11 => ?_)
  · refine wp_iconst (v := zI 0) d_PI_isSounding_18 rfl ?_
    exact wp_iret d_PI_isSounding_19 (Or.inr ⟨rfl, by first | exact bI_01 _ | exact Or.inl rfl | exact Or.inr rfl⟩) (ans_f (fun q => h11 (bI_t q)))
  · refine wp_iconst (v := zI 1) d_PI_isSounding_14 rfl ?_
    refine wp_goto (tgt := 19) d_PI_isSounding_15 (by decide) ?_
    exact wp_iret d_PI_isSounding_19 (Or.inr ⟨rfl, by first | exact bI_01 _ | exact Or.inl rfl | exact Or.inr rfl⟩) (ans_t (Decidable.byContradiction fun q => by rw [bI_f q] at h11; exact absurd h11 (by decide)))
end PEOPLE
end
section
/-! Math, and Mass: the wind, and how a pipe plays by it -/
section MATHS
variable {hi : HI} {hl : HL}
theorem ct_MT_max {a b : Int} (d : Nat) (ha : inR a) (hb : inR b) : Ct M_MT_max d [.int (zI a), .int (zI b)] hi hl (ans (zI (max a b)) hi hl) := by
  refine ct_intro (lv := [_, _]) (by decide +kernel) (Nat.le_of_ble_eq_true rfl) rfl ?_
  refine wp_iload_n d_MT_max_0 rfl ?_
  refine wp_iload_n d_MT_max_1 rfl ?_
  refine wz_icmp_lt (tgt := 9) d_MT_max_2 (by decide) (by omega) (by omega) (fun h2 => ?_) (fun h2 => ?_)
  · refine wp_iload_n d_MT_max_9 rfl ?_
    exact wp_iret d_MT_max_10 (Or.inl rfl) (ans_of (by rw [Int.max_eq_right (by omega)]))
  · refine wp_iload_n d_MT_max_5 rfl ?_
    refine wp_goto (tgt := 10) d_MT_max_6 (by decide) ?_
    exact wp_iret d_MT_max_10 (Or.inl rfl) (ans_of (by rw [Int.max_eq_left (by omega)]))
theorem ct_MT_min {a b : Int} (d : Nat) (ha : inR a) (hb : inR b) : Ct M_MT_min d [.int (zI a), .int (zI b)] hi hl (ans (zI (min a b)) hi hl) := by
  refine ct_intro (lv := [_, _]) (by decide +kernel) (Nat.le_of_ble_eq_true rfl) rfl ?_
  refine wp_iload_n d_MT_min_0 rfl ?_
  refine wp_iload_n d_MT_min_1 rfl ?_
  refine wz_icmp_gt (tgt := 9) d_MT_min_2 (by decide) (by omega) (by omega) (fun h2 => ?_) (fun h2 => ?_)
  · refine wp_iload_n d_MT_min_9 rfl ?_
    exact wp_iret d_MT_min_10 (Or.inl rfl) (ans_of (by rw [Int.min_eq_right (by omega)]))
  · refine wp_iload_n d_MT_min_5 rfl ?_
    refine wp_goto (tgt := 10) d_MT_min_6 (by decide) ?_
    exact wp_iret d_MT_min_10 (Or.inl rfl) (ans_of (by rw [Int.min_eq_left (by omega)]))
theorem xor_sign (x y : Int32) : 0 ≤ x ^^^ y ↔ (0 ≤ x.toInt ↔ 0 ≤ y.toInt) := by
  rw [Int32.le_iff_toInt_le]
  have h : ∀ z : Int32, z.toBitVec.msb = decide (z.toInt < 0) := fun z => BitVec.msb_eq_toInt
  have h1 : (x ^^^ y).toBitVec.msb = (x.toBitVec.msb ^^ y.toBitVec.msb) := by rw [Int32.toBitVec_xor, BitVec.msb_xor]
  rw [h, h, h] at h1
  have h0 : (0 : Int32).toInt = 0 := rfl
  rw [h0]
  by_cases a : x.toInt < 0 <;> by_cases b : y.toInt < 0 <;> simp [a, b] at h1 <;> omega
theorem ct_MT_floorMod {a b : Int} (d : Nat) (ha : inR a) (hm : -2147483648 < a) (hb : inR b) (h : 0 < b) : Ct M_MT_floorMod d [.int (zI a), .int (zI b)] hi hl (ans (zI (a % b)) hi hl) := by
  have hx : 0 ≤ zI a ^^^ zI b ↔ 0 ≤ a := by
    rw [xor_sign, zI_toInt ha, zI_toInt hb]
    omega
  have h1 := Int.emod_nonneg a (show b ≠ 0 by omega)
  have h2 := Int.emod_lt_of_pos a h
  have hT : a.tmod b = if 0 ≤ a ∨ a % b = 0 then a % b else a % b - b := by
    rw [Int.tmod_eq_emod]
    by_cases q : 0 ≤ a ∨ b ∣ a
    · rw [if_pos q, if_pos (q.imp id Int.emod_eq_zero_of_dvd)]
      omega
    · rw [if_neg q, if_neg (fun z => q (z.imp id Int.dvd_of_emod_eq_zero))]
      omega
  refine ct_intro (lv := [_, _, _]) (by decide +kernel) (Nat.le_of_ble_eq_true rfl) rfl ?_
  refine wp_iload_n d_MT_floorMod_0 rfl ?_
  refine wp_iload_n d_MT_floorMod_1 rfl ?_
  refine wz_iremT d_MT_floorMod_2 ha hm hb h ?_
  refine wp_istore_n (lv' := [_, _, _]) d_MT_floorMod_3 (by decide) rfl ?_
  refine wp_iload_n d_MT_floorMod_4 rfl ?_
  refine wp_iload_n d_MT_floorMod_5 rfl ?_
  refine wp_ixor d_MT_floorMod_6 ?_
  refine wp_if_ge (tgt := 18) d_MT_floorMod_7 (by decide) (fun h7 => ?_) (fun h7 => ?_)
  · refine wp_iload_n d_MT_floorMod_18 rfl ?_
    exact wp_iret d_MT_floorMod_19 (Or.inl rfl) (ans_of (by rw [hT, if_pos (Or.inl (hx.mp h7))]))
  · have hneg : ¬ 0 ≤ a := fun q => h7 (hx.mpr q)
    have hr : inR (a.tmod b) := by
      rw [hT]
      split <;> omega
    refine wp_iload_n d_MT_floorMod_10 rfl ?_
    refine wz_if_eq (tgt := 18) d_MT_floorMod_11 (by decide) hr (fun h11 => ?_) (fun h11 => ?_)
    · refine wp_iload_n d_MT_floorMod_18 rfl ?_
      have e : a.tmod b = a % b := by
        rw [hT] at h11 ⊢
        split at h11
        · rw [if_pos (by assumption)]
        · omega
      exact wp_iret d_MT_floorMod_19 (Or.inl rfl) (ans_of (by rw [e]))
    · refine wp_iload_n d_MT_floorMod_14 rfl ?_
      refine wp_iload_n d_MT_floorMod_15 rfl ?_
      refine wz_iadd d_MT_floorMod_16 ?_
      have e : a.tmod b + b = a % b := by
        rw [hT] at h11 ⊢
        split at h11
        · omega
        · rw [if_neg (by assumption)]
          omega
      exact wp_iret d_MT_floorMod_17 (Or.inl rfl) (ans_of (by rw [e]))
end MATHS
/-! how a pipe plays: c the store's room, dn what it drinks at each beat (0: silent), w the wind -/
def stA (c : Int) (dn w : Nat → Int) : Nat → Int
  | 0 => 0
  | j + 1 => max 0 (min (stA c dn w j + w j - dn j) c)
def lfA (c : Int) (dn w : Nat → Int) (j : Nat) : Int := stA c dn w j + w j - dn j
def msA (c : Int) (dn w : Nat → Int) (j : Nat) : Int := max 0 (-(lfA c dn w j))
def smA (c : Int) (dn w : Nat → Int) : Nat → Int
  | 0 => 0
  | n + 1 => smA c dn w n + msA c dn w n
theorem stA_b {c : Int} (hc : 0 ≤ c) (dn w : Nat → Int) : ∀ j, 0 ≤ stA c dn w j ∧ stA c dn w j ≤ c
  | 0 => by simp [stA, hc]
  | j + 1 => by rw [stA]; omega
theorem msA_b {c : Int} (hc : 0 ≤ c) {dn w : Nat → Int} {j : Nat} (hd : 0 ≤ dn j ∧ dn j ≤ 9) (hw : -2000 ≤ w j ∧ w j ≤ 2000) : 0 ≤ msA c dn w j ∧ msA c dn w j ≤ 2009 := by
  have := stA_b hc dn w j
  unfold msA lfA
  omega
theorem smA_b {c : Int} (hc : 0 ≤ c) {dn w : Nat → Int} : ∀ n, (∀ j, j < n → (0 ≤ dn j ∧ dn j ≤ 9) ∧ (-2000 ≤ w j ∧ w j ≤ 2000)) → 0 ≤ smA c dn w n ∧ smA c dn w n ≤ 2009 * n
  | 0, _ => by simp [smA]
  | n + 1, h => by
    have h1 := smA_b hc n (fun j hj => h j (by omega))
    have h2 := msA_b hc (h n (by omega)).1 (h n (by omega)).2
    rw [smA]
    omega
theorem stA_cong {c : Int} {dn w w' : Nat → Int} : ∀ j, (∀ i, i < j → w i = w' i) → stA c dn w j = stA c dn w' j
  | 0, _ => rfl
  | j + 1, h => by rw [stA, stA, stA_cong j (fun i hi => h i (by omega)), h j (by omega)]
theorem msA_cong {c : Int} {dn w w' : Nat → Int} (j : Nat) (h : ∀ i, i < j + 1 → w i = w' i) : msA c dn w j = msA c dn w' j := by
  rw [msA, msA, lfA, lfA, stA_cong j (fun i hi => h i (by omega)), h j (by omega)]
theorem smA_cong {c : Int} {dn w w' : Nat → Int} : ∀ n, (∀ i, i < n → w i = w' i) → smA c dn w n = smA c dn w' n
  | 0, _ => rfl
  | n + 1, h => by rw [smA, smA, smA_cong n (fun i hi => h i (by omega)), msA_cong n h]
/-- what the pipe p drinks at the beat j -/
def dnS (σ : SG) (p j : Nat) : Int := if (sn σ j).testBit p = true then (dr σ p : Int) else 0
/-- what the first n people of a set give at the beat j, by k late -/
def airN (σ : SG) (set k j : Nat) : Nat → Nat
  | 0 => 0
  | n + 1 => airN σ set k j n + (if set.testBit n = true then gv σ n (j + k) else 0)
def airS (σ : SG) (set k j : Nat) : Nat := airN σ set k j (nM σ)
def wnd (σ : SG) (set k : Nat) (j : Nat) : Int := (airS σ set k j : Int)
/-- the sags of a pipe by a set of people, together -/
def sag (σ : SG) (p set k : Nat) : Int := smA (rm σ) (dnS σ p) (wnd σ set k) (nB σ)
section MASS
variable {σ : SG} {hi : HI} {hl : HL}
theorem gv_le (ok : Ok σ) {m t : Nat} (hm : m < nM σ) : gv σ m t ≤ 3 := by
  have := ok.m hm
  unfold gv
  split <;> omega
theorem airN_le (ok : Ok σ) (set k j : Nat) : ∀ n, n ≤ nM σ → airN σ set k j n ≤ 3 * n
  | 0, _ => by simp [airN]
  | n + 1, h => by
    have h1 := airN_le ok set k j n (by omega)
    have h2 := gv_le ok (m := n) (t := j + k) (by omega)
    rw [airN]
    split <;> omega
theorem dnS_b (ok : Ok σ) {p : Nat} (hp : p < nP σ) (j : Nat) : 0 ≤ dnS σ p j ∧ dnS σ p j ≤ 9 := by
  have := ok.dr hp
  unfold dnS
  split <;> omega
theorem wnd_b (ok : Ok σ) (set k j : Nat) : 0 ≤ wnd σ set k j ∧ wnd σ set k j ≤ 36 := by
  have h1 := airN_le ok set k j (nM σ) (Nat.le_refl _)
  have := ok.nums
  unfold wnd airS
  omega
theorem ct_MA_fill {x : Int32} (d : Nat) (ok : Ok σ) (hv : IV σ hi) : Ct M_MA_fill d [.ref 24, .int x] hi hl (fun r hi' hl' => r = none ∧ hl = hl' ∧ (∀ c, c ≠ 25 → hi' c = hi c) ∧ ∀ j, j < nB σ → hi' 25 j = x) := by
  have hn := ok.nums
  have loop : ∀ k i, i + k = nB σ → ∀ h : HI, (∀ c, c ≠ 25 → h c = hi c) → (∀ j, j < i → h 25 j = x) → Wp M_MA_fill d (fun r hi' hl' => r = none ∧ hl = hl' ∧ (∀ c, c ≠ 25 → hi' c = hi c) ∧ ∀ j, j < nB σ → hi' 25 j = x) 2 [some (.ref 24), some (.int x), some (.int (zI i))] [] h hl := by
    intro k
    induction k with
    | zero =>
      intro i hik h he hw
      have hv' : IV σ h := hv.keep (fun c _ _ => he c (by omega))
      refine wp_iload_n d_MA_fill_2 rfl ?_
      refine wp_aload_n d_MA_fill_3 rfl ?_
      refine wp_getR d_MA_fill_4 f_MA_9 (by decide) rfl rfl ?_
      refine wz_getI (hv'.nb) d_MA_fill_7 f_MA_39 (by decide) rfl rfl ?_
      refine wz_icmp_ge (tgt := 26) d_MA_fill_10 (by decide) (by omega) (by omega) (fun h10 => ?_) (fun h10 => ?_)
      · exact wp_vret d_MA_fill_26 rfl (⟨rfl, rfl, he, fun j hj => hw j (by omega)⟩)
      · exact absurd h10 (by omega)
    | succ k ih =>
      intro i hik h he hw
      have hv' : IV σ h := hv.keep (fun c _ _ => he c (by omega))
      refine wp_iload_n d_MA_fill_2 rfl ?_
      refine wp_aload_n d_MA_fill_3 rfl ?_
      refine wp_getR d_MA_fill_4 f_MA_9 (by decide) rfl rfl ?_
      refine wz_getI (hv'.nb) d_MA_fill_7 f_MA_39 (by decide) rfl rfl ?_
      refine wz_icmp_ge (tgt := 26) d_MA_fill_10 (by decide) (by omega) (by omega) (fun h10 => ?_) (fun h10 => ?_)
      · exact absurd h10 (by omega)
      · refine wp_aload_n d_MA_fill_13 rfl ?_
        refine wp_getR d_MA_fill_14 f_MA_19 (by decide) rfl rfl ?_
        refine wp_iload_n d_MA_fill_17 rfl ?_
        refine wp_iload_n d_MA_fill_18 rfl ?_
        refine wz_iast (rfl) ((by omega)) d_MA_fill_19 (by decide) rfl (by decide) ?_
        refine wz_iinc (lv' := [_, _, _]) d_MA_fill_20 rfl (by decide) rfl ?_
        refine wp_goto (tgt := 2) d_MA_fill_23 (by decide) ?_
        refine ih (i + 1) (by omega) _ (fun c hc => by rw [setI_ne _ _ _ hc, he c hc]) (fun j hj => ?_)
        by_cases e : j = i
        · rw [e, setI_at]
        · rw [setI_at_ne _ _ _ e]; exact hw j (by omega)
  refine ct_intro (lv := [_, _, _]) (by decide +kernel) (Nat.le_of_ble_eq_true rfl) rfl ?_
  refine wp_iconst (v := zI 0) d_MA_fill_0 rfl ?_
  refine wp_istore_n (lv' := [_, _, _]) d_MA_fill_1 (by decide) rfl ?_
  exact loop (nB σ) 0 (by omega) hi (fun _ _ => rfl) (fun j hj => absurd hj (by omega))
theorem ct_MA_gather {set k : Nat} (ok : Ok σ) (hp : PV σ hi) (hv : IV σ hi) (hs : set < 2 ^ 12) (hk : k ≤ 200) : Ct M_MA_gather 1 [.ref 24, .int (zI set), .int (zI k)] hi hl (fun r hi' hl' => r = none ∧ hl = hl' ∧ (∀ c, c ≠ 25 → hi' c = hi c) ∧ ∀ j, j < nB σ → hi' 25 j = zI (wnd σ set k j)) := by
  have hn := ok.nums
  have inner : ∀ i, i < nM σ → set.testBit i = true → (∀ h : HI, (∀ c, c ≠ 25 → h c = hi c) → (∀ j, j < nB σ → h 25 j = zI (airN σ set k j (i + 1))) → Wp M_MA_gather 1 (fun r hi' hl' => r = none ∧ hl = hl' ∧ (∀ c, c ≠ 25 → hi' c = hi c) ∧ ∀ j, j < nB σ → hi' 25 j = zI (wnd σ set k j)) 72 [some (.ref 24), some (.int (zI set)), some (.int (zI k)), some (.int (zI i)), none] [] h hl) →
      ∀ q j, j + q = nB σ → ∀ h : HI, (∀ c, c ≠ 25 → h c = hi c) → (∀ a, a < nB σ → h 25 a = zI (airN σ set k a (if a < j then i + 1 else i))) → Wp M_MA_gather 1 (fun r hi' hl' => r = none ∧ hl = hl' ∧ (∀ c, c ≠ 25 → hi' c = hi c) ∧ ∀ j, j < nB σ → hi' 25 j = zI (wnd σ set k j)) 32 [some (.ref 24), some (.int (zI set)), some (.int (zI k)), some (.int (zI i)), some (.int (zI j))] [] h hl := by
    intro i hi' hbit hexit q
    induction q with
    | zero =>
      intro j hjq h he hw
      have hv' : IV σ h := hv.keep (fun c _ _ => he c (by omega))
      refine wp_iload d_MA_gather_32 rfl ?_
      refine wp_aload_n d_MA_gather_34 rfl ?_
      refine wp_getR d_MA_gather_35 f_MA_9 (by decide) rfl rfl ?_
      refine wz_getI (hv'.nb) d_MA_gather_38 f_MA_39 (by decide) rfl rfl ?_
      refine wz_icmp_ge (tgt := 72) d_MA_gather_41 (by decide) (by omega) (by omega) (fun h41 => ?_) (fun h41 => ?_)
      · refine wp_drop (lv' := [some _, some _, some _, some _, none]) ⟨rfl, rfl, rfl, rfl, trivial⟩ ?_
        refine hexit h he (fun a ha => ?_)
        rw [hw a ha, if_pos (by omega)]
      · exact absurd h41 (by omega)
    | succ q ih =>
      intro j hjq h he hw
      have hv' : IV σ h := hv.keep (fun c _ _ => he c (by omega))
      have hp' : PV σ h := hp.keep (fun c _ _ => he c (by omega))
      have hwj : h 25 j = zI (airN σ set k j i) := by rw [hw j (by omega), if_neg (by omega)]
      refine wp_iload d_MA_gather_32 rfl ?_
      refine wp_aload_n d_MA_gather_34 rfl ?_
      refine wp_getR d_MA_gather_35 f_MA_9 (by decide) rfl rfl ?_
      refine wz_getI (hv'.nb) d_MA_gather_38 f_MA_39 (by decide) rfl rfl ?_
      refine wz_icmp_ge (tgt := 72) d_MA_gather_41 (by decide) (by omega) (by omega) (fun h41 => ?_) (fun h41 => ?_)
      · exact absurd h41 (by omega)
      · refine wp_aload_n d_MA_gather_44 rfl ?_
        refine wp_getR d_MA_gather_45 f_MA_19 (by decide) rfl rfl ?_
        refine wp_iload d_MA_gather_48 rfl ?_
        refine wp_dup2 d_MA_gather_50 rfl rfl ?_
        refine wz_iald (hwj) (rfl) ((by omega)) d_MA_gather_51 (by decide) rfl (by decide) ?_
        refine wp_aload_n d_MA_gather_52 rfl ?_
        refine wp_getR d_MA_gather_53 f_MA_15 (by decide) rfl rfl ?_
        refine wp_iload_n d_MA_gather_56 rfl ?_
        refine wp_iload d_MA_gather_57 rfl ?_
        refine wp_iload_n d_MA_gather_59 rfl ?_
        refine wz_iadd d_MA_gather_60 ?_
        refine wp_callV (ct_PE_givenAt (m := i) (t := j + k) 0 ok hp' hi' (by omega)) d_MA_gather_61 k_MA_44 (by decide) rfl rfl rfl rfl (Nat.le_of_ble_eq_true rfl) (by omega) ?_
        rintro _ _ _ ⟨rfl, rfl, rfl⟩
        refine wz_iadd d_MA_gather_64 ?_
        refine wz_iast (rfl) ((by omega)) d_MA_gather_65 (by decide) rfl (by decide) ?_
        refine wz_iinc (lv' := [_, _, _, _, _]) d_MA_gather_66 rfl (by decide) rfl ?_
        refine wp_goto (tgt := 32) d_MA_gather_69 (by decide) ?_
        refine ih (j + 1) (by omega) _ (fun c hc => by rw [setI_ne _ _ _ hc, he c hc]) (fun a ha => ?_)
        by_cases e : a = j
        · subst e
          rw [setI_at, if_pos (by omega), airN, if_pos hbit]
          rfl
        · rw [setI_at_ne _ _ _ e, hw a ha]
          by_cases hlt : a < j
          · rw [if_pos hlt, if_pos (by omega)]
          · rw [if_neg hlt, if_neg (by omega)]
  have outer : ∀ q i, i + q = nM σ → ∀ h : HI, (∀ c, c ≠ 25 → h c = hi c) → (∀ j, j < nB σ → h 25 j = zI (airN σ set k j i)) → Wp M_MA_gather 1 (fun r hi' hl' => r = none ∧ hl = hl' ∧ (∀ c, c ≠ 25 → hi' c = hi c) ∧ ∀ j, j < nB σ → hi' 25 j = zI (wnd σ set k j)) 7 [some (.ref 24), some (.int (zI set)), some (.int (zI k)), some (.int (zI i)), none] [] h hl := by
    intro q
    induction q with
    | zero =>
      intro i hiq h he hw
      have hp' : PV σ h := hp.keep (fun c _ _ => he c (by omega))
      refine wp_iload_n d_MA_gather_7 rfl ?_
      refine wp_aload_n d_MA_gather_8 rfl ?_
      refine wp_getR d_MA_gather_9 f_MA_15 (by decide) rfl rfl ?_
      refine wz_getI (hp'.n) d_MA_gather_12 f_MA_33 (by decide) rfl rfl ?_
      refine wz_icmp_ge (tgt := 78) d_MA_gather_15 (by decide) (by omega) (by omega) (fun h15 => ?_) (fun h15 => ?_)
      · exact wp_vret d_MA_gather_78 rfl (⟨rfl, rfl, he, fun j hj => by rw [hw j hj, wnd, airS, ← hiq]; rfl⟩)
      · exact absurd h15 (by omega)
    | succ q ih =>
      intro i hiq h he hw
      have hp' : PV σ h := hp.keep (fun c _ _ => he c (by omega))
      refine wp_iload_n d_MA_gather_7 rfl ?_
      refine wp_aload_n d_MA_gather_8 rfl ?_
      refine wp_getR d_MA_gather_9 f_MA_15 (by decide) rfl rfl ?_
      refine wz_getI (hp'.n) d_MA_gather_12 f_MA_33 (by decide) rfl rfl ?_
      refine wz_icmp_ge (tgt := 78) d_MA_gather_15 (by decide) (by omega) (by omega) (fun h15 => ?_) (fun h15 => ?_)
      · exact absurd h15 (by omega)
      · refine wp_iload_n d_MA_gather_18 rfl ?_
        refine wp_iload_n d_MA_gather_19 rfl ?_
        refine wp_ishr d_MA_gather_20 ?_
        refine wp_iconst (v := zI 1) d_MA_gather_21 rfl ?_
        refine wp_iand d_MA_gather_22 ?_
        rw [zI_bit (by omega) (by omega)]
        refine wz_if_neB (tgt := 29) d_MA_gather_23 (by decide) (fun h23 => ?_) (fun h23 => ?_)
        · refine wp_iconst (v := zI 0) d_MA_gather_29 rfl ?_
          refine wp_istore (lv' := [_, _, _, _, _]) d_MA_gather_30 (by decide) rfl ?_
          refine inner i (by omega) h23 (fun h' he' hw' => ?_) (nB σ) 0 (by omega) h he (fun a ha => by rw [hw a ha, if_neg (by omega)])
          refine wz_iinc (lv' := [_, _, _, _, _]) d_MA_gather_72 rfl (by decide) rfl ?_
          refine wp_goto (tgt := 7) d_MA_gather_75 (by decide) ?_
          exact ih (i + 1) (by omega) h' he' hw'
        · refine wp_goto (tgt := 72) d_MA_gather_26 (by decide) ?_
          refine wz_iinc (lv' := [_, _, _, _, _]) d_MA_gather_72 rfl (by decide) rfl ?_
          refine wp_goto (tgt := 7) d_MA_gather_75 (by decide) ?_
          refine ih (i + 1) (by omega) h he (fun j hj => ?_)
          rw [hw j hj, airN, if_neg h23, Nat.add_zero]
  refine ct_intro (lv := [_, _, _, _, _]) (by decide +kernel) (Nat.le_of_ble_eq_true rfl) rfl ?_
  refine wp_aload_n d_MA_gather_0 rfl ?_
  refine wp_iconst (v := zI 0) d_MA_gather_1 rfl ?_
  refine wp_callV (ct_MA_fill 0 ok hv) d_MA_gather_2 k_MA_29 (by decide) rfl rfl rfl rfl (Nat.le_of_ble_eq_true rfl) (by omega) ?_
  rintro _ h _ ⟨rfl, rfl, he, hw⟩
  refine wp_iconst (v := zI 0) d_MA_gather_5 rfl ?_
  refine wp_istore_n (lv' := [_, _, _, _, _]) d_MA_gather_6 (by decide) rfl ?_
  exact outer (nM σ) 0 (by omega) h he (fun j hj => hw j hj)
theorem ct_MA_blow {p : Nat} {w : Nat → Int} (ok : Ok σ) (hp : PV σ hi) (hv : IV σ hi) (hpp : p < nP σ) (hw : ∀ j, j < nB σ → hi 25 j = zI (w j)) (hwb : ∀ j, j < nB σ → -2000 ≤ w j ∧ w j ≤ 2000) : Ct M_MA_blow 1 [.ref 24, .int (zI p)] hi hl (fun r hi' hl' => r = some (.int (zI (smA (rm σ) (dnS σ p) w (nB σ)))) ∧ hl = hl' ∧ (∀ c, c ≠ 26 → c ≠ 27 → hi' c = hi c) ∧ (∀ j, j < nB σ → hi' 26 j = zI (stA (rm σ) (dnS σ p) w (j + 1))) ∧ (∀ j, j < nB σ → hi' 27 j = zI (msA (rm σ) (dnS σ p) w j))) := by
  have hn := ok.nums
  have hr0 : (0 : Int) ≤ (rm σ : Int) := by omega
  have loop : ∀ k i, i + k = nB σ → ∀ h : HI, (∀ c, c ≠ 26 → c ≠ 27 → h c = hi c) → (∀ j, j < i → h 26 j = zI (stA (rm σ) (dnS σ p) w (j + 1))) → (∀ j, j < i → h 27 j = zI (msA (rm σ) (dnS σ p) w j)) →
      Wp M_MA_blow 1 (fun r hi' hl' => r = some (.int (zI (smA (rm σ) (dnS σ p) w (nB σ)))) ∧ hl = hl' ∧ (∀ c, c ≠ 26 → c ≠ 27 → hi' c = hi c) ∧ (∀ j, j < nB σ → hi' 26 j = zI (stA (rm σ) (dnS σ p) w (j + 1))) ∧ (∀ j, j < nB σ → hi' 27 j = zI (msA (rm σ) (dnS σ p) w j))) 7 [some (.ref 24), some (.int (zI p)), some (.int (zI (stA (rm σ) (dnS σ p) w i))), some (.int (zI (smA (rm σ) (dnS σ p) w i))), some (.int (zI i)), none] [] h hl := by
    intro k
    induction k with
    | zero =>
      intro i hik h he h26 h27
      have hv' : IV σ h := hv.keep (fun c _ _ => he c (by omega) (by omega))
      refine wp_iload d_MA_blow_7 rfl ?_
      refine wp_aload_n d_MA_blow_9 rfl ?_
      refine wp_getR d_MA_blow_10 f_MA_9 (by decide) rfl rfl ?_
      refine wz_getI (hv'.nb) d_MA_blow_13 f_MA_39 (by decide) rfl rfl ?_
      refine wz_icmp_ge (tgt := 112) d_MA_blow_16 (by decide) (by omega) (by omega) (fun h16 => ?_) (fun h16 => ?_)
      · refine wp_iload_n d_MA_blow_112 rfl ?_
        exact wp_iret d_MA_blow_113 (Or.inl rfl) (⟨by rw [← hik]; rfl, rfl, he, fun j hj => h26 j (by omega), fun j hj => h27 j (by omega)⟩)
      · exact absurd h16 (by omega)
    | succ k ih =>
      intro i hik h he h26 h27
      have hv' : IV σ h := hv.keep (fun c _ _ => he c (by omega) (by omega))
      have hp' : PV σ h := hp.keep (fun c _ _ => he c (by omega) (by omega))
      have hwi : h 25 i = zI (w i) := by rw [he 25 (by omega) (by omega)]; exact hw i (by omega)
      have b1 := stA_b hr0 (dnS σ p) w i
      have b2 := hwb i (by omega)
      have b3 := dnS_b ok hpp i
      have b4 := smA_b hr0 (dn := dnS σ p) (w := w) i (fun j hj => ⟨dnS_b ok hpp j, hwb j (by omega)⟩)
      have b5 := ok.dr hpp
      have b6 := msA_b hr0 b3 b2
      have tail : Wp M_MA_blow 1 (fun r hi' hl' => r = some (.int (zI (smA (rm σ) (dnS σ p) w (nB σ)))) ∧ hl = hl' ∧ (∀ c, c ≠ 26 → c ≠ 27 → hi' c = hi c) ∧ (∀ j, j < nB σ → hi' 26 j = zI (stA (rm σ) (dnS σ p) w (j + 1))) ∧ (∀ j, j < nB σ → hi' 27 j = zI (msA (rm σ) (dnS σ p) w j))) 57 [some (.ref 24), some (.int (zI p)), some (.int (zI (stA (rm σ) (dnS σ p) w i))), some (.int (zI (smA (rm σ) (dnS σ p) w i))), some (.int (zI i)), some (.int (zI (lfA (rm σ) (dnS σ p) w i)))] [] h hl := by
        have b7 : lfA (rm σ) (dnS σ p) w i = stA (rm σ) (dnS σ p) w i + w i - dnS σ p i := rfl
        refine wp_iconst (v := zI 0) d_MA_blow_57 rfl ?_
        refine wp_iload d_MA_blow_58 rfl ?_
        refine wp_aload_n d_MA_blow_60 rfl ?_
        refine wp_getR d_MA_blow_61 f_MA_15 (by decide) rfl rfl ?_
        refine wz_getI (hp'.room) d_MA_blow_64 f_MA_66 (by decide) rfl rfl ?_
        refine wp_callS (ct_MT_min (a := lfA (rm σ) (dnS σ p) w i) (b := rm σ) 0 (by omega) (by omega)) d_MA_blow_67 k_MA_69 rfl rfl (Nat.le_of_ble_eq_true rfl) (by omega) ?_
        rintro _ _ _ ⟨rfl, rfl, rfl⟩
        refine wp_callS (ct_MT_max (a := 0) (b := min (lfA (rm σ) (dnS σ p) w i) (rm σ)) 0 (by omega) (by omega)) d_MA_blow_70 k_MA_72 rfl rfl (Nat.le_of_ble_eq_true rfl) (by omega) ?_
        rintro _ _ _ ⟨rfl, rfl, rfl⟩
        refine wp_istore_n (lv' := [_, _, _, _, _, _]) d_MA_blow_73 (by decide) rfl ?_
        refine wp_aload_n d_MA_blow_74 rfl ?_
        refine wp_getR d_MA_blow_75 f_MA_23 (by decide) rfl rfl ?_
        refine wp_iload d_MA_blow_78 rfl ?_
        refine wp_iload_n d_MA_blow_80 rfl ?_
        refine wz_iast (rfl) ((by omega)) d_MA_blow_81 (by decide) rfl (by decide) ?_
        refine wp_aload_n d_MA_blow_82 rfl ?_
        refine wp_getR d_MA_blow_83 f_MA_26 (by decide) rfl rfl ?_
        refine wp_iload d_MA_blow_86 rfl ?_
        refine wp_iconst (v := zI 0) d_MA_blow_88 rfl ?_
        refine wp_iload d_MA_blow_89 rfl ?_
        refine wz_ineg d_MA_blow_91 ?_
        refine wp_callS (ct_MT_max (a := 0) (b := -(lfA (rm σ) (dnS σ p) w i)) 0 (by omega) (by omega)) d_MA_blow_92 k_MA_72 rfl rfl (Nat.le_of_ble_eq_true rfl) (by omega) ?_
        rintro _ _ _ ⟨rfl, rfl, rfl⟩
        refine wz_iast (rfl) ((by omega)) d_MA_blow_95 (by decide) rfl (by decide) ?_
        refine wp_iload_n d_MA_blow_96 rfl ?_
        refine wp_aload_n d_MA_blow_97 rfl ?_
        refine wp_getR d_MA_blow_98 f_MA_26 (by decide) rfl rfl ?_
        refine wp_iload d_MA_blow_101 rfl ?_
        refine wz_iald ((setI_at _ _ _ _)) (rfl) ((by omega)) d_MA_blow_103 (by decide) rfl (by decide) ?_
        refine wz_iadd d_MA_blow_104 ?_
        refine wp_istore_n (lv' := [_, _, _, _, _, _]) d_MA_blow_105 (by decide) rfl ?_
        refine wz_iinc (lv' := [_, _, _, _, _, _]) d_MA_blow_106 rfl (by decide) rfl ?_
        refine wp_goto (tgt := 7) d_MA_blow_109 (by decide) ?_
        refine wp_drop (lv' := [some _, some _, some _, some _, some _, none]) ⟨rfl, rfl, rfl, rfl, rfl, trivial⟩ ?_
        refine ih (i + 1) (by omega) _ (fun c hc1 hc2 => ?_) (fun j hj => ?_) (fun j hj => ?_)
        · rw [setI_ne _ _ _ hc2, setI_ne _ _ _ hc1, he c hc1 hc2]
        · rw [setI_ne _ _ _ (by decide)]
          by_cases e : j = i
          · rw [e, setI_at]; rfl
          · rw [setI_at_ne _ _ _ e]; exact h26 j (by omega)
        · by_cases e : j = i
          · rw [e, setI_at]; rfl
          · rw [setI_at_ne _ _ _ e, setI_ne _ _ _ (by decide)]; exact h27 j (by omega)
      refine wp_iload d_MA_blow_7 rfl ?_
      refine wp_aload_n d_MA_blow_9 rfl ?_
      refine wp_getR d_MA_blow_10 f_MA_9 (by decide) rfl rfl ?_
      refine wz_getI (hv'.nb) d_MA_blow_13 f_MA_39 (by decide) rfl rfl ?_
      refine wz_icmp_ge (tgt := 112) d_MA_blow_16 (by decide) (by omega) (by omega) (fun h16 => ?_) (fun h16 => ?_)
      · exact absurd h16 (by omega)
      · refine wp_iload_n d_MA_blow_19 rfl ?_
        refine wp_aload_n d_MA_blow_20 rfl ?_
        refine wp_getR d_MA_blow_21 f_MA_19 (by decide) rfl rfl ?_
        refine wp_iload d_MA_blow_24 rfl ?_
        refine wz_iald (hwi) (rfl) ((by omega)) d_MA_blow_26 (by decide) rfl (by decide) ?_
        refine wz_iadd d_MA_blow_27 ?_
        refine wp_istore (lv' := [_, _, _, _, _, _]) d_MA_blow_28 (by decide) rfl ?_
        refine wp_aload_n d_MA_blow_30 rfl ?_
        refine wp_getR d_MA_blow_31 f_MA_9 (by decide) rfl rfl ?_
        refine wp_iload_n d_MA_blow_34 rfl ?_
        refine wp_iload d_MA_blow_35 rfl ?_
        refine wp_callV (ct_PI_isSounding (p := p) (j := i) 0 ok hv' (by omega) (by omega)) d_MA_blow_37 k_MA_59 (by decide) rfl rfl rfl rfl (Nat.le_of_ble_eq_true rfl) (by omega) ?_
        rintro _ _ _ ⟨rfl, rfl, rfl⟩
        refine wz_if_eqB (tgt := 57) d_MA_blow_40 (by decide) (fun h40 => ?_) (fun h40 => ?_)
        · have e : stA (rm σ) (dnS σ p) w i + w i = lfA (rm σ) (dnS σ p) w i := by rw [lfA, dnS, if_neg h40]; omega
          rw [e]
          exact tail
        · refine wp_iload d_MA_blow_43 rfl ?_
          refine wp_aload_n d_MA_blow_45 rfl ?_
          refine wp_getR d_MA_blow_46 f_MA_9 (by decide) rfl rfl ?_
          refine wp_getR d_MA_blow_49 f_MA_63 (by decide) rfl rfl ?_
          refine wp_iload_n d_MA_blow_52 rfl ?_
          refine wz_iald (hv'.dr hpp) (rfl) ((by omega)) d_MA_blow_53 (by decide) rfl (by decide) ?_
          refine wz_isub d_MA_blow_54 ?_
          refine wp_istore (lv' := [_, _, _, _, _, _]) d_MA_blow_55 (by decide) rfl ?_
          have e : stA (rm σ) (dnS σ p) w i + w i - (dr σ p : Int) = lfA (rm σ) (dnS σ p) w i := by rw [lfA, dnS, if_pos h40]
          rw [e]
          exact tail
  refine ct_intro (lv := [_, _, _, _, _, _]) (by decide +kernel) (Nat.le_of_ble_eq_true rfl) rfl ?_
  refine wp_iconst (v := zI 0) d_MA_blow_0 rfl ?_
  refine wp_istore_n (lv' := [_, _, _, _, _, _]) d_MA_blow_1 (by decide) rfl ?_
  refine wp_iconst (v := zI 0) d_MA_blow_2 rfl ?_
  refine wp_istore_n (lv' := [_, _, _, _, _, _]) d_MA_blow_3 (by decide) rfl ?_
  refine wp_iconst (v := zI 0) d_MA_blow_4 rfl ?_
  refine wp_istore (lv' := [_, _, _, _, _, _]) d_MA_blow_5 (by decide) rfl ?_
  exact loop (nB σ) 0 (by omega) hi (fun _ _ _ => rfl) (fun j hj => absurd hj (by omega)) (fun j hj => absurd hj (by omega))
end MASS
end
section
/-! Mass: breaths, a pipe's own people, all pipes, the first beat that sags -/
/-- whether PERSON m would breathe in at the beat j by the phase s -/
def brt (σ : SG) (m s j : Nat) : Prop := (j + lt σ + s) % (lu σ m + 1) = lu σ m
def totN (σ : SG) (k : Nat) : Nat → Int
  | 0 => 0
  | n + 1 => totN σ k n + sag σ n (sit σ n) k
def tot (σ : SG) (k : Nat) : Int := totN σ k (nP σ)
def fpos (f : Nat → Int) : Nat → Nat → Int
  | 0, _ => -9
  | k + 1, j => if 0 < f j then (j : Int) else fpos f k (j + 1)
section MASS2
variable {σ : SG} {hi : HI} {hl : HL}
theorem sit_lt (ok : Ok σ) (p : Nat) : sit σ p < 2 ^ 12 := Nat.lt_of_lt_of_le (sitN_lt σ p (nM σ)) (Nat.pow_le_pow_right (by omega) ok.nums.2.2.1)
theorem sag_b (ok : Ok σ) {p : Nat} (hp : p < nP σ) (set k : Nat) : 0 ≤ sag σ p set k ∧ sag σ p set k ≤ 48216 := by
  have hn := ok.nums
  have := smA_b (c := rm σ) (by omega) (dn := dnS σ p) (w := wnd σ set k) (nB σ) (fun j hj => ⟨dnS_b ok hp j, by have := wnd_b ok set k j; omega⟩)
  unfold sag
  omega
theorem totN_b (ok : Ok σ) (k : Nat) : ∀ n, n ≤ nP σ → 0 ≤ totN σ k n ∧ totN σ k n ≤ 48216 * n
  | 0, _ => by simp [totN]
  | n + 1, h => by
    have h1 := totN_b ok k n (by omega)
    have h2 := sag_b ok (p := n) (by omega) (sit σ n) k
    rw [totN]
    omega
theorem brt_iff (σ : SG) (m s j : Nat) : brt σ m s j ↔ ((j % (lu σ m + 1) : Nat) : Int) = ((lu σ m : Int) - s - lt σ) % ((lu σ m : Int) + 1) := by
  have h0 : (0 : Int) ≤ lu σ m := by omega
  have e1 : (lu σ m : Int) % ((lu σ m : Int) + 1) = lu σ m := Int.emod_eq_of_lt h0 (by omega)
  unfold brt
  have e2 : ((j + lt σ + s) % (lu σ m + 1) = lu σ m) ↔ (((j : Int) + lt σ + s) % ((lu σ m : Int) + 1) = (lu σ m : Int) % ((lu σ m : Int) + 1)) := by
    rw [e1]
    constructor
    · intro h
      have := congrArg (fun n : Nat => (n : Int)) h
      simpa using this
    · intro h
      have : (((j + lt σ + s) % (lu σ m + 1) : Nat) : Int) = (lu σ m : Int) := by simpa using h
      exact Int.ofNat.inj this
  rw [e2, Int.emod_eq_emod_iff_emod_sub_eq_zero]
  have e3 : ((j % (lu σ m + 1) : Nat) : Int) = (j : Int) % ((lu σ m : Int) + 1) := by simp
  rw [e3, Int.emod_eq_emod_iff_emod_sub_eq_zero]
  rw [show (j : Int) + lt σ + s - lu σ m = (j : Int) - ((lu σ m : Int) - s - lt σ) by omega]
theorem mod_gap {T a j : Nat} (hT : 2 ≤ T ∧ T ≤ 10) (h1 : j < a) (h2 : a < j + T) : ¬ a % T = j % T := by
  have : T = 2 ∨ T = 3 ∨ T = 4 ∨ T = 5 ∨ T = 6 ∨ T = 7 ∨ T = 8 ∨ T = 9 ∨ T = 10 := by omega
  rcases this with rfl | rfl | rfl | rfl | rfl | rfl | rfl | rfl | rfl <;> omega
theorem ct_MA_addAtBreaths {m s : Nat} {x : Int} {w : Nat → Int} (ok : Ok σ) (hp : PV σ hi) (hv : IV σ hi) (hm : m < nM σ) (hs : s ≤ 9) (hw : ∀ j, j < nB σ → hi 25 j = zI (w j)) : Ct M_MA_addAtBreaths 1 [.ref 24, .int (zI m), .int (zI s), .int (zI x)] hi hl (fun r hi' hl' => r = none ∧ hl = hl' ∧ (∀ c, c ≠ 25 → hi' c = hi c) ∧ ∀ j, j < nB σ → ∃ b : Bool, (b = true ↔ brt σ m s j) ∧ hi' 25 j = zI (w j + (if b then x else 0))) := by
  have hn := ok.nums
  have hmm := ok.m hm
  obtain ⟨S, hS⟩ : ∃ S : Nat, ((lu σ m : Int) - s - lt σ) % ((lu σ m : Int) + 1) = (S : Int) := ⟨_, (Int.toNat_of_nonneg (Int.emod_nonneg _ (by omega))).symm⟩
  have hSl : S < lu σ m + 1 := by
    have := Int.emod_lt_of_pos ((lu σ m : Int) - s - lt σ) (show (0 : Int) < (lu σ m : Int) + 1 by omega)
    omega
  have hb : ∀ j, brt σ m s j ↔ j % (lu σ m + 1) = S := fun j => by
    rw [brt_iff, hS]
    exact ⟨fun h => Int.ofNat.inj h, fun h => by rw [h]⟩
  have loop : ∀ k j, nB σ ≤ j + k → j ≤ 1000 → j % (lu σ m + 1) = S → ∀ h : HI, (∀ c, c ≠ 25 → h c = hi c) → (∀ a, a < nB σ → h 25 a = zI (w a + (if a < j ∧ a % (lu σ m + 1) = S then x else 0))) → (∀ a, a < j → a % (lu σ m + 1) = S → True) →
      Wp M_MA_addAtBreaths 1 (fun r hi' hl' => r = none ∧ hl = hl' ∧ (∀ c, c ≠ 25 → hi' c = hi c) ∧ ∀ j, j < nB σ → ∃ b : Bool, (b = true ↔ brt σ m s j) ∧ hi' 25 j = zI (w j + (if b then x else 0))) 43 [some (.ref 24), some (.int (zI m)), some (.int (zI s)), some (.int (zI x)), some (.int (zI ((lu σ m : Int) + 1))), some (.int (zI S)), some (.int (zI j))] [] h hl := by
    intro k
    induction k with
    | zero =>
      intro j hjk hj1 hjS h he hh _
      have hv' : IV σ h := hv.keep (fun c _ _ => he c (by omega))
      refine wp_iload d_MA_addAtBreaths_43 rfl ?_
      refine wp_aload_n d_MA_addAtBreaths_45 rfl ?_
      refine wp_getR d_MA_addAtBreaths_46 f_MA_9 (by decide) rfl rfl ?_
      refine wz_getI (hv'.nb) d_MA_addAtBreaths_49 f_MA_39 (by decide) rfl rfl ?_
      refine wz_icmp_ge (tgt := 76) d_MA_addAtBreaths_52 (by decide) (by omega) (by omega) (fun h52 => ?_) (fun h52 => ?_)
      · exact wp_vret d_MA_addAtBreaths_76 rfl (⟨rfl, rfl, he, fun a ha => ⟨decide (a % (lu σ m + 1) = S), by rw [hb]; simp, by rw [hh a ha]; congr 2; by_cases q : a % (lu σ m + 1) = S <;> simp [q] <;> omega⟩⟩)
      · exact absurd h52 (by omega)
    | succ k ih =>
      intro j hjk hj1 hjS h he hh _
      have hv' : IV σ h := hv.keep (fun c _ _ => he c (by omega))
      refine wp_iload d_MA_addAtBreaths_43 rfl ?_
      refine wp_aload_n d_MA_addAtBreaths_45 rfl ?_
      refine wp_getR d_MA_addAtBreaths_46 f_MA_9 (by decide) rfl rfl ?_
      refine wz_getI (hv'.nb) d_MA_addAtBreaths_49 f_MA_39 (by decide) rfl rfl ?_
      refine wz_icmp_ge (tgt := 76) d_MA_addAtBreaths_52 (by decide) (by omega) (by omega) (fun h52 => ?_) (fun h52 => ?_)
      · exact wp_vret d_MA_addAtBreaths_76 rfl (⟨rfl, rfl, he, fun a ha => ⟨decide (a % (lu σ m + 1) = S), by rw [hb]; simp, by rw [hh a ha]; congr 2; by_cases q : a % (lu σ m + 1) = S <;> simp [q] <;> omega⟩⟩)
      · refine wp_aload_n d_MA_addAtBreaths_55 rfl ?_
        refine wp_getR d_MA_addAtBreaths_56 f_MA_19 (by decide) rfl rfl ?_
        refine wp_iload d_MA_addAtBreaths_59 rfl ?_
        refine wp_dup2 d_MA_addAtBreaths_61 rfl rfl ?_
        refine wz_iald ((hh j (by omega))) (rfl) ((by omega)) d_MA_addAtBreaths_62 (by decide) rfl (by decide) ?_
        refine wp_iload_n d_MA_addAtBreaths_63 rfl ?_
        refine wz_iadd d_MA_addAtBreaths_64 ?_
        refine wz_iast (rfl) ((by omega)) d_MA_addAtBreaths_65 (by decide) rfl (by decide) ?_
        refine wp_iload d_MA_addAtBreaths_66 rfl ?_
        refine wp_iload d_MA_addAtBreaths_68 rfl ?_
        refine wz_iadd d_MA_addAtBreaths_70 ?_
        refine wp_istore (lv' := [_, _, _, _, _, _, _]) d_MA_addAtBreaths_71 (by decide) rfl ?_
        refine wp_goto (tgt := 43) d_MA_addAtBreaths_73 (by decide) ?_
        refine ih (j + (lu σ m + 1)) (by omega) (by omega) (by rw [Nat.add_mod_right]; exact hjS) _ (fun c hc => by rw [setI_ne _ _ _ hc, he c hc]) (fun a ha => ?_) (fun _ _ _ => trivial)
        by_cases e : a = j
        · subst e
          rw [setI_at, if_neg (by omega), if_pos ⟨by omega, hjS⟩]
          congr 1
          omega
        · rw [setI_at_ne _ _ _ e, hh a ha]
          congr 2
          by_cases q : a % (lu σ m + 1) = S
          · have : a < j ∨ j + (lu σ m + 1) ≤ a := by
              rcases Nat.lt_or_ge a j with z | z
              · exact Or.inl z
              · refine Or.inr (Nat.le_of_not_lt fun z2 => ?_)
                exact mod_gap (T := lu σ m + 1) (by omega) (show j < a by omega) z2 (by rw [q, hjS])
            rcases this with z | z
            · rw [if_pos ⟨z, q⟩, if_pos ⟨by omega, q⟩]
            · rw [if_neg (fun y => by omega), if_neg (fun y => by omega)]
          · rw [if_neg (fun y => q y.2), if_neg (fun y => q y.2)]
  refine ct_intro (lv := [_, _, _, _, _, _, _]) (by decide +kernel) (Nat.le_of_ble_eq_true rfl) rfl ?_
  refine wp_aload_n d_MA_addAtBreaths_0 rfl ?_
  refine wp_getR d_MA_addAtBreaths_1 f_MA_15 (by decide) rfl rfl ?_
  refine wp_getR d_MA_addAtBreaths_4 f_MA_48 (by decide) rfl rfl ?_
  refine wp_iload_n d_MA_addAtBreaths_7 rfl ?_
  refine wz_iald (hp.lu hm) (rfl) ((by omega)) d_MA_addAtBreaths_8 (by decide) rfl (by decide) ?_
  refine wp_iconst (v := zI 1) d_MA_addAtBreaths_9 rfl ?_
  refine wz_iadd d_MA_addAtBreaths_10 ?_
  refine wp_istore (lv' := [_, _, _, _, _, _, _]) d_MA_addAtBreaths_11 (by decide) rfl ?_
  refine wp_aload_n d_MA_addAtBreaths_13 rfl ?_
  refine wp_getR d_MA_addAtBreaths_14 f_MA_15 (by decide) rfl rfl ?_
  refine wp_getR d_MA_addAtBreaths_17 f_MA_48 (by decide) rfl rfl ?_
  refine wp_iload_n d_MA_addAtBreaths_20 rfl ?_
  refine wz_iald (hp.lu hm) (rfl) ((by omega)) d_MA_addAtBreaths_21 (by decide) rfl (by decide) ?_
  refine wp_iload_n d_MA_addAtBreaths_22 rfl ?_
  refine wz_isub d_MA_addAtBreaths_23 ?_
  refine wp_aload_n d_MA_addAtBreaths_24 rfl ?_
  refine wp_getR d_MA_addAtBreaths_25 f_MA_15 (by decide) rfl rfl ?_
  refine wz_getI (hp.late) d_MA_addAtBreaths_28 f_MA_51 (by decide) rfl rfl ?_
  refine wz_isub d_MA_addAtBreaths_31 ?_
  refine wp_iload d_MA_addAtBreaths_32 rfl ?_
  refine wp_callS (ct_MT_floorMod (a := (lu σ m : Int) - s - lt σ) (b := (lu σ m : Int) + 1) 0 (by omega) (by omega) (by omega) (by omega)) d_MA_addAtBreaths_34 k_MA_54 rfl rfl (Nat.le_of_ble_eq_true rfl) (by omega) ?_
  rintro _ _ _ ⟨rfl, rfl, rfl⟩
  rw [hS]
  refine wp_istore (lv' := [_, _, _, _, _, _, _]) d_MA_addAtBreaths_37 (by decide) rfl ?_
  refine wp_iload d_MA_addAtBreaths_39 rfl ?_
  refine wp_istore (lv' := [_, _, _, _, _, _, _]) d_MA_addAtBreaths_41 (by decide) rfl ?_
  refine loop (nB σ) S (by omega) (by omega) (Nat.mod_eq_of_lt hSl) hi (fun _ _ => rfl) (fun a ha => ?_) (fun _ _ _ => trivial)
  rw [hw a ha, if_neg (fun q => ?_), Int.add_zero]
  have := Nat.mod_le a (lu σ m + 1)
  omega
theorem ct_MA_play {p k : Nat} (ok : Ok σ) (hp : PV σ hi) (hv : IV σ hi) (hpp : p < nP σ) (hk : k ≤ 200) : Ct M_MA_play 2 [.ref 24, .int (zI p), .int (zI k)] hi hl (fun r hi' hl' => r = some (.int (zI (sag σ p (sit σ p) k))) ∧ hl = hl' ∧ (∀ c, c ≠ 25 → c ≠ 26 → c ≠ 27 → hi' c = hi c) ∧ (∀ j, j < nB σ → hi' 26 j = zI (stA (rm σ) (dnS σ p) (wnd σ (sit σ p) k) (j + 1))) ∧ (∀ j, j < nB σ → hi' 27 j = zI (msA (rm σ) (dnS σ p) (wnd σ (sit σ p) k) j))) := by
  have hn := ok.nums
  refine ct_intro (lv := [_, _, _]) (by decide +kernel) (Nat.le_of_ble_eq_true rfl) rfl ?_
  refine wp_aload_n d_MA_play_0 rfl ?_
  refine wp_aload_n d_MA_play_1 rfl ?_
  refine wp_getR d_MA_play_2 f_MA_15 (by decide) rfl rfl ?_
  refine wp_iload_n d_MA_play_5 rfl ?_
  refine wp_callV (ct_PE_sittingAt (p := p) 0 ok hp (by omega)) d_MA_play_6 k_MA_75 (by decide) rfl rfl rfl rfl (Nat.le_of_ble_eq_true rfl) (by omega) ?_
  rintro _ _ _ ⟨rfl, rfl, rfl⟩
  refine wp_iload_n d_MA_play_9 rfl ?_
  refine wp_callV (ct_MA_gather (set := sit σ p) (k := k) ok hp hv (sit_lt ok p) hk) d_MA_play_10 k_MA_79 (by decide) rfl rfl rfl rfl (Nat.le_of_ble_eq_true rfl) (by omega) ?_
  rintro _ h _ ⟨rfl, rfl, he, hw⟩
  refine wp_aload_n d_MA_play_13 rfl ?_
  refine wp_iload_n d_MA_play_14 rfl ?_
  have hp' : PV σ h := hp.keep (fun c _ _ => he c (by omega))
  have hv' : IV σ h := hv.keep (fun c _ _ => he c (by omega))
  refine wp_callV (ct_MA_blow (p := p) (w := wnd σ (sit σ p) k) ok hp' hv' hpp hw (fun j _ => by have := wnd_b ok (sit σ p) k j; omega)) d_MA_play_15 k_MA_83 (by decide) rfl rfl rfl rfl (Nat.le_of_ble_eq_true rfl) (by omega) ?_
  rintro _ h2 _ ⟨rfl, rfl, he2, h26, h27⟩
  exact wp_iret d_MA_play_18 (Or.inl rfl) (⟨rfl, rfl, fun c h1 h2 h3 => by rw [he2 c h2 h3, he c h1], h26, h27⟩)
theorem ct_MA_playAll {k : Nat} (ok : Ok σ) (hp : PV σ hi) (hv : IV σ hi) (hk : k ≤ 200) : Ct M_MA_playAll 3 [.ref 24, .int (zI k)] hi hl (fun r hi' hl' => r = some (.int (zI (tot σ k))) ∧ hl = hl' ∧ (∀ c, c ≠ 25 → c ≠ 26 → c ≠ 27 → hi' c = hi c)) := by
  have hn := ok.nums
  have loop : ∀ q i, i + q = nP σ → ∀ h : HI, (∀ c, c ≠ 25 → c ≠ 26 → c ≠ 27 → h c = hi c) → Wp M_MA_playAll 3 (fun r hi' hl' => r = some (.int (zI (tot σ k))) ∧ hl = hl' ∧ (∀ c, c ≠ 25 → c ≠ 26 → c ≠ 27 → hi' c = hi c)) 4 [some (.ref 24), some (.int (zI k)), some (.int (zI (totN σ k i))), some (.int (zI i))] [] h hl := by
    intro q
    induction q with
    | zero =>
      intro i hiq h he
      have hv' : IV σ h := hv.keep (fun c _ _ => he c (by omega) (by omega) (by omega))
      refine wp_iload_n d_MA_playAll_4 rfl ?_
      refine wp_aload_n d_MA_playAll_5 rfl ?_
      refine wp_getR d_MA_playAll_6 f_MA_9 (by decide) rfl rfl ?_
      refine wz_getI (hv'.np) d_MA_playAll_9 f_MA_86 (by decide) rfl rfl ?_
      refine wz_icmp_ge (tgt := 30) d_MA_playAll_12 (by decide) (by omega) (by omega) (fun h12 => ?_) (fun h12 => ?_)
      · refine wp_iload_n d_MA_playAll_30 rfl ?_
        exact wp_iret d_MA_playAll_31 (Or.inl rfl) (⟨by rw [tot, ← hiq]; rfl, rfl, he⟩)
      · exact absurd h12 (by omega)
    | succ q ih =>
      intro i hiq h he
      have hv' : IV σ h := hv.keep (fun c _ _ => he c (by omega) (by omega) (by omega))
      have hp' : PV σ h := hp.keep (fun c _ _ => he c (by omega) (by omega) (by omega))
      refine wp_iload_n d_MA_playAll_4 rfl ?_
      refine wp_aload_n d_MA_playAll_5 rfl ?_
      refine wp_getR d_MA_playAll_6 f_MA_9 (by decide) rfl rfl ?_
      refine wz_getI (hv'.np) d_MA_playAll_9 f_MA_86 (by decide) rfl rfl ?_
      refine wz_icmp_ge (tgt := 30) d_MA_playAll_12 (by decide) (by omega) (by omega) (fun h12 => ?_) (fun h12 => ?_)
      · exact absurd h12 (by omega)
      · refine wp_iload_n d_MA_playAll_15 rfl ?_
        refine wp_aload_n d_MA_playAll_16 rfl ?_
        refine wp_iload_n d_MA_playAll_17 rfl ?_
        refine wp_iload_n d_MA_playAll_18 rfl ?_
        refine wp_callV (ct_MA_play (p := i) (k := k) ok hp' hv' (by omega) hk) d_MA_playAll_19 k_MA_87 (by decide) rfl rfl rfl rfl (Nat.le_of_ble_eq_true rfl) (by omega) ?_
        rintro _ h2 _ ⟨rfl, rfl, he2, -, -⟩
        refine wz_iadd d_MA_playAll_22 ?_
        refine wp_istore_n (lv' := [_, _, _, _]) d_MA_playAll_23 (by decide) rfl ?_
        refine wz_iinc (lv' := [_, _, _, _]) d_MA_playAll_24 rfl (by decide) rfl ?_
        refine wp_goto (tgt := 4) d_MA_playAll_27 (by decide) ?_
        exact ih (i + 1) (by omega) h2 (fun c h1 h2 h3 => by rw [he2 c h1 h2 h3, he c h1 h2 h3])
  refine ct_intro (lv := [_, _, _, _]) (by decide +kernel) (Nat.le_of_ble_eq_true rfl) rfl ?_
  refine wp_iconst (v := zI 0) d_MA_playAll_0 rfl ?_
  refine wp_istore_n (lv' := [_, _, _, _]) d_MA_playAll_1 (by decide) rfl ?_
  refine wp_iconst (v := zI 0) d_MA_playAll_2 rfl ?_
  refine wp_istore_n (lv' := [_, _, _, _]) d_MA_playAll_3 (by decide) rfl ?_
  exact loop (nP σ) 0 (by omega) hi (fun _ _ _ _ => rfl)
theorem ct_MA_firstMissing {f : Nat → Int} (d : Nat) (ok : Ok σ) (hv : IV σ hi) (hf : ∀ j, j < nB σ → hi 27 j = zI (f j)) (hb : ∀ j, j < nB σ → inR (f j)) : Ct M_MA_firstMissing d [.ref 24] hi hl (ans (zI (fpos f (nB σ) 0)) hi hl) := by
  have hn := ok.nums
  have loop : ∀ k i, i + k = nB σ → fpos f (nB σ) 0 = fpos f k i → Wp M_MA_firstMissing d (ans (zI (fpos f (nB σ) 0)) hi hl) 2 [some (.ref 24), some (.int (zI i))] [] hi hl := by
    intro k
    induction k with
    | zero =>
      intro i hik e
      refine wp_iload_n d_MA_firstMissing_2 rfl ?_
      refine wp_aload_n d_MA_firstMissing_3 rfl ?_
      refine wp_getR d_MA_firstMissing_4 f_MA_9 (by decide) rfl rfl ?_
      refine wz_getI (hv.nb) d_MA_firstMissing_7 f_MA_39 (by decide) rfl rfl ?_
      refine wz_icmp_ge (tgt := 30) d_MA_firstMissing_10 (by decide) (by omega) (by omega) (fun h10 => ?_) (fun h10 => ?_)
      · refine wp_bipush (v := zI (-9)) d_MA_firstMissing_30 rfl ?_
        exact wp_iret d_MA_firstMissing_32 (Or.inl rfl) (ans_of (by rw [e]; rfl))
      · exact absurd h10 (by omega)
    | succ k ih =>
      intro i hik e
      have hbi := hb i (by omega)
      refine wp_iload_n d_MA_firstMissing_2 rfl ?_
      refine wp_aload_n d_MA_firstMissing_3 rfl ?_
      refine wp_getR d_MA_firstMissing_4 f_MA_9 (by decide) rfl rfl ?_
      refine wz_getI (hv.nb) d_MA_firstMissing_7 f_MA_39 (by decide) rfl rfl ?_
      refine wz_icmp_ge (tgt := 30) d_MA_firstMissing_10 (by decide) (by omega) (by omega) (fun h10 => ?_) (fun h10 => ?_)
      · exact absurd h10 (by omega)
      · refine wp_aload_n d_MA_firstMissing_13 rfl ?_
        refine wp_getR d_MA_firstMissing_14 f_MA_26 (by decide) rfl rfl ?_
        refine wp_iload_n d_MA_firstMissing_17 rfl ?_
        refine wz_iald (hf i (by omega)) (rfl) ((by omega)) d_MA_firstMissing_18 (by decide) rfl (by decide) ?_
        refine wz_if_le (tgt := 24) d_MA_firstMissing_19 (by decide) (by omega) (fun h19 => ?_) (fun h19 => ?_)
        · refine wz_iinc (lv' := [_, _]) d_MA_firstMissing_24 rfl (by decide) rfl ?_
          refine wp_goto (tgt := 2) d_MA_firstMissing_27 (by decide) ?_
          exact ih (i + 1) (by omega) (by rw [e, fpos, if_neg (by omega)])
        · refine wp_iload_n d_MA_firstMissing_22 rfl ?_
          exact wp_iret d_MA_firstMissing_23 (Or.inl rfl) (ans_of (by rw [e, fpos, if_pos h19]))
  refine ct_intro (lv := [_, _]) (by decide +kernel) (Nat.le_of_ble_eq_true rfl) rfl ?_
  refine wp_iconst (v := zI 0) d_MA_firstMissing_0 rfl ?_
  refine wp_istore_n (lv' := [_, _]) d_MA_firstMissing_1 (by decide) rfl ?_
  exact loop (nB σ) 0 (by omega) rfl
end MASS2
end
section
/-! one number of the state anew: the views and the limits -/
section UPD
variable {σ : SG} {hi hi' : HI}
theorem kf_up {σ : SG} {f i v : Nat} (hf : f < 20) (s g m : Nat) : kf (up σ f i v) s g m = kf σ s g m := by
  unfold kf up
  rw [if_neg (by omega)]
theorem TV.keep (h : TV σ hi) (e1 : hi' 1 1 = hi 1 1) (e2 : hi' 2 = hi 2) : TV σ hi' := by
  unfold TV at h ⊢
  rw [e1, e2]
  exact h
theorem KV.keep (h : KV σ hi) (e : ∀ c, 12 ≤ c → c ≤ 23 → hi' c = hi c) (e4 : hi' 40 = hi 40) : KV σ hi' := by
  intro s hs
  obtain ⟨h1, h2⟩ := h s hs
  refine ⟨by rw [e4]; exact h1, fun hk => ?_⟩
  rw [e (12 + 6 * s) (by omega) (by omega), e (13 + 6 * s) (by omega) (by omega), e (14 + 6 * s) (by omega) (by omega), e (15 + 6 * s) (by omega) (by omega), e (16 + 6 * s) (by omega) (by omega), e (17 + 6 * s) (by omega) (by omega)]
  exact h2 hk
theorem KV.anew (h : KV σ hi) {f i v : Nat} (hf : f ≤ 8) (h0 : f = 0 → i ≠ 1) : KV (up σ f i v) hi := by
  have e1 : nM (up σ f i v) = nM σ := by
    unfold nM up
    rw [if_neg (by omega)]
  have e2 : ∀ s, kp (up σ f i v) s = kp σ s := fun s => by unfold kp up; rw [if_neg (by omega)]
  have e3 : ∀ s, klt (up σ f i v) s = klt σ s := fun s => by unfold klt up; rw [if_neg (by omega)]
  have e4 : ∀ s, krm (up σ f i v) s = krm σ s := fun s => by unfold krm up; rw [if_neg (by omega)]
  intro s hs
  have := h s hs
  rw [e1, e2, e3, e4]
  simp only [kf_up (show f < 20 by omega)]
  exact this
theorem AX.keep (h : AX σ hi) (e : ∀ c, c < 24 ∨ c = 40 → hi' c = hi c) : AX σ hi' :=
  ⟨h.1.keep (fun c _ _ => e c (by omega)), h.2.1.keep (fun c _ _ => e c (by omega)), h.2.2.1.keep (by rw [e 1 (by omega)]) (e 2 (by omega)), h.2.2.2.keep (fun c _ _ => e c (by omega)) (e 40 (by omega))⟩
theorem AMk.keep (h : AMk σ hi) (e1 : hi' 58 = hi 58) (e2 : hi' 59 = hi 59) (e3 : hi' 60 = hi 60) : AMk σ hi' := by
  unfold AMk at h ⊢
  rw [e1, e2, e3]
  exact h
theorem AMk.anew (h : AMk σ hi) {f i v : Nat} (hf : f ≤ 8) (h0 : f = 0 → i ≠ 1) : AMk (up σ f i v) hi := by
  have e1 : nM (up σ f i v) = nM σ := by
    unfold nM up
    rw [if_neg (by omega)]
  have e2 : ∀ s, kp (up σ f i v) s = kp σ s := fun s => by unfold kp up; rw [if_neg (by omega)]
  have e3 : ∀ s, klt (up σ f i v) s = klt σ s := fun s => by unfold klt up; rw [if_neg (by omega)]
  have e4 : ∀ s, krm (up σ f i v) s = krm σ s := fun s => by unfold krm up; rw [if_neg (by omega)]
  intro s hs
  have := h s hs
  rw [e1, e2, e3, e4]
  simp only [kf_up (show f < 20 by omega)]
  exact this
/-- the reference's cells that are no scratch -/
theorem AM.keep (h : AM σ hi) (e0 : ∀ f, 9 ≤ f → f ≤ 15 → hi' 41 f = hi 41 f) (e : ∀ c, (45 ≤ c ∧ c ≤ 48) ∨ 58 ≤ c → hi' c = hi c) : AM σ hi' := by
  obtain ⟨h1, h2, h3, h4⟩ := h
  refine ⟨?_, ?_, ?_, h4.keep (e 58 (by omega)) (e 59 (by omega)) (e 60 (by omega))⟩
  · unfold AMp at h1 ⊢
    rw [e0 10 (by omega) (by omega), e0 12 (by omega) (by omega), e0 13 (by omega) (by omega), e 46 (by omega)]
    exact h1
  · unfold AMi at h2 ⊢
    rw [e0 9 (by omega) (by omega), e0 11 (by omega) (by omega), e 45 (by omega), e 47 (by omega)]
    exact h2
  · unfold AMt at h3 ⊢
    rw [e0 15 (by omega) (by omega), e 48 (by omega)]
    exact h3
theorem okM_up {σ : SG} {f i v : Nat} (h : f = 0 → i ≠ 0) {l g p q b : Nat} (h2 : okM σ l g p q b) : okM (up σ f i v) l g p q b := by
  have : nP (up σ f i v) = nP σ := by
    unfold nP up
    rw [if_neg (by omega)]
  unfold okM at h2 ⊢
  rw [this]
  exact h2
theorem okK_up {σ : SG} {f i v : Nat} (hf : f ≤ 8) (h0 : f = 0 → i ≠ 1) (h1 : f = 0 → i ≠ 0) (h : ∀ s, s < 2 → kp σ s ≤ 1 ∧ (kp σ s = 1 → klt σ s ≤ 99 ∧ krm σ s ≤ 9 ∧ ∀ m, m < nM σ → okM σ (kf σ s 3 m) (kf σ s 4 m) (kf σ s 5 m) (kf σ s 6 m) (kf σ s 7 m))) :
    ∀ s, s < 2 → kp (up σ f i v) s ≤ 1 ∧ (kp (up σ f i v) s = 1 → klt (up σ f i v) s ≤ 99 ∧ krm (up σ f i v) s ≤ 9 ∧ ∀ m, m < nM (up σ f i v) → okM (up σ f i v) (kf (up σ f i v) s 3 m) (kf (up σ f i v) s 4 m) (kf (up σ f i v) s 5 m) (kf (up σ f i v) s 6 m) (kf (up σ f i v) s 7 m)) := by
  have e1 : nM (up σ f i v) = nM σ := by
    unfold nM up
    rw [if_neg (by omega)]
  have e2 : ∀ s, kp (up σ f i v) s = kp σ s := fun s => by unfold kp up; rw [if_neg (by omega)]
  have e3 : ∀ s, klt (up σ f i v) s = klt σ s := fun s => by unfold klt up; rw [if_neg (by omega)]
  have e4 : ∀ s, krm (up σ f i v) s = krm σ s := fun s => by unfold krm up; rw [if_neg (by omega)]
  intro s hs
  have := h s hs
  rw [e1, e2, e3, e4]
  simp only [kf_up (show f < 20 by omega)]
  exact ⟨this.1, fun k => ⟨(this.2 k).1, (this.2 k).2.1, fun m hm => okM_up h1 ((this.2 k).2.2 m hm)⟩⟩
theorem AX_3 (h : AX σ hi) {m v : Nat} : AX (up σ 3 m v) (setI hi 7 m (zI v)) := by
  obtain ⟨⟨a1, a2, a3, a4, a5, a6, a7, a8⟩, hI, hT, hK⟩ := h
  refine ⟨⟨a1, a2, a3, ?_, a5, a6, a7, a8⟩, hI, hT, (hK.keep (fun c h1 h2 => setI_ne _ _ _ (by omega)) rfl).anew (by omega) (by omega)⟩
  intro m' hm'
  show setI hi 7 m (zI v) 7 m' = zI ((if 3 = 3 ∧ m' = m then v else σ 3 m' : Nat) : Int)
  by_cases e : m' = m
  · subst e
    rw [setI_at]
    simp
  · rw [setI_at_ne _ _ _ e, if_neg (fun q => e q.2)]
    exact a4 m' hm'
theorem AM_3 (h : AM σ hi) {m v : Nat} : AM (up σ 3 m v) (setI hi 46 (5 * m + 0) (zI v)) := by
  obtain ⟨⟨a1, a2, a3, a4, a5, a6, a7, a8⟩, hI, hT, hK⟩ := h
  refine ⟨⟨a1, a2, a3, ?_, ?_, ?_, ?_, ?_⟩, hI, hT, (hK.keep rfl rfl rfl).anew (by omega) (by omega)⟩
  · intro m' hm'
    show setI hi 46 (5 * m + 0) (zI v) 46 (5 * m' + 0) = zI ((if 3 = 3 ∧ m' = m then v else σ 3 m' : Nat) : Int)
    by_cases e : m' = m
    · subst e
      rw [setI_at]
      simp
    · rw [setI_at_ne _ _ _ (by omega), if_neg (fun q => e q.2)]
      exact a4 m' hm'
  · intro m' hm'
    have := a5 m' hm'
    rw [setI_at_ne _ _ _ (by omega)]
    exact this
  · intro m' hm'
    have := a6 m' hm'
    rw [setI_at_ne _ _ _ (by omega)]
    exact this
  · intro m' hm'
    have := a7 m' hm'
    rw [setI_at_ne _ _ _ (by omega)]
    exact this
  · intro m' hm'
    have := a8 m' hm'
    rw [setI_at_ne _ _ _ (by omega)]
    exact this
theorem Ok_3 (h : Ok σ) {m v : Nat} (hv : ph σ m ≤ v ∧ 1 ≤ v ∧ v ≤ 9) : Ok (up σ 3 m v) := by
  obtain ⟨h0, h1, h2, h3, h4, h5⟩ := h
  refine ⟨h0, h1, h2, fun m' hm' => ?_, h4, okK_up (by omega) (by omega) (by omega) h5⟩
  have h6 := h3 m' hm'
  by_cases e : m' = m
  · subst e
    have e1 : lu (up σ 3 m' v) m' = v := by unfold lu up; simp
    unfold okM at h6 ⊢
    rw [e1]
    show _
    first | exact ⟨hv.2.1, hv.2.2, h6.2.2.1, h6.2.2.2.1, h6.2.2.2.2.1, hv.1, h6.2.2.2.2.2.2⟩ | exact ⟨h6.1, h6.2.1, h6.2.2.1, h6.2.2.2.1, hv, h6.2.2.2.2.2⟩ | exact ⟨h6.1, h6.2.1, h6.2.2.1, h6.2.2.2.1, h6.2.2.2.2.1, hv, h6.2.2.2.2.2.2⟩ | exact ⟨h6.1, h6.2.1, h6.2.2.1, h6.2.2.2.1, h6.2.2.2.2.1, h6.2.2.2.2.2.1, hv⟩
  · have e1 : lu (up σ 3 m v) m' = lu σ m' := by unfold lu up; simp [e]
    rw [e1]
    exact h6
theorem AX_5 (h : AX σ hi) {m v : Nat} : AX (up σ 5 m v) (setI hi 9 m (zI v)) := by
  obtain ⟨⟨a1, a2, a3, a4, a5, a6, a7, a8⟩, hI, hT, hK⟩ := h
  refine ⟨⟨a1, a2, a3, a4, a5, ?_, a7, a8⟩, hI, hT, (hK.keep (fun c h1 h2 => setI_ne _ _ _ (by omega)) rfl).anew (by omega) (by omega)⟩
  intro m' hm'
  show setI hi 9 m (zI v) 9 m' = zI ((if 5 = 5 ∧ m' = m then v else σ 5 m' : Nat) : Int)
  by_cases e : m' = m
  · subst e
    rw [setI_at]
    simp
  · rw [setI_at_ne _ _ _ e, if_neg (fun q => e q.2)]
    exact a6 m' hm'
theorem AM_5 (h : AM σ hi) {m v : Nat} : AM (up σ 5 m v) (setI hi 46 (5 * m + 2) (zI v)) := by
  obtain ⟨⟨a1, a2, a3, a4, a5, a6, a7, a8⟩, hI, hT, hK⟩ := h
  refine ⟨⟨a1, a2, a3, ?_, ?_, ?_, ?_, ?_⟩, hI, hT, (hK.keep rfl rfl rfl).anew (by omega) (by omega)⟩
  · intro m' hm'
    have := a4 m' hm'
    rw [setI_at_ne _ _ _ (by omega)]
    exact this
  · intro m' hm'
    have := a5 m' hm'
    rw [setI_at_ne _ _ _ (by omega)]
    exact this
  · intro m' hm'
    show setI hi 46 (5 * m + 2) (zI v) 46 (5 * m' + 2) = zI ((if 5 = 5 ∧ m' = m then v else σ 5 m' : Nat) : Int)
    by_cases e : m' = m
    · subst e
      rw [setI_at]
      simp
    · rw [setI_at_ne _ _ _ (by omega), if_neg (fun q => e q.2)]
      exact a6 m' hm'
  · intro m' hm'
    have := a7 m' hm'
    rw [setI_at_ne _ _ _ (by omega)]
    exact this
  · intro m' hm'
    have := a8 m' hm'
    rw [setI_at_ne _ _ _ (by omega)]
    exact this
theorem Ok_5 (h : Ok σ) {m v : Nat} (hv : v < nP σ) : Ok (up σ 5 m v) := by
  obtain ⟨h0, h1, h2, h3, h4, h5⟩ := h
  refine ⟨h0, h1, h2, fun m' hm' => ?_, h4, okK_up (by omega) (by omega) (by omega) h5⟩
  have h6 := h3 m' hm'
  by_cases e : m' = m
  · subst e
    have e1 : pl (up σ 5 m' v) m' = v := by unfold pl up; simp
    unfold okM at h6 ⊢
    rw [e1]
    show _
    first | exact ⟨hv.2.1, hv.2.2, h6.2.2.1, h6.2.2.2.1, h6.2.2.2.2.1, hv.1, h6.2.2.2.2.2.2⟩ | exact ⟨h6.1, h6.2.1, h6.2.2.1, h6.2.2.2.1, hv, h6.2.2.2.2.2⟩ | exact ⟨h6.1, h6.2.1, h6.2.2.1, h6.2.2.2.1, h6.2.2.2.2.1, hv, h6.2.2.2.2.2.2⟩ | exact ⟨h6.1, h6.2.1, h6.2.2.1, h6.2.2.2.1, h6.2.2.2.2.1, h6.2.2.2.2.2.1, hv⟩
  · have e1 : pl (up σ 5 m v) m' = pl σ m' := by unfold pl up; simp [e]
    rw [e1]
    exact h6
theorem AX_6 (h : AX σ hi) {m v : Nat} : AX (up σ 6 m v) (setI hi 10 m (zI v)) := by
  obtain ⟨⟨a1, a2, a3, a4, a5, a6, a7, a8⟩, hI, hT, hK⟩ := h
  refine ⟨⟨a1, a2, a3, a4, a5, a6, ?_, a8⟩, hI, hT, (hK.keep (fun c h1 h2 => setI_ne _ _ _ (by omega)) rfl).anew (by omega) (by omega)⟩
  intro m' hm'
  show setI hi 10 m (zI v) 10 m' = zI ((if 6 = 6 ∧ m' = m then v else σ 6 m' : Nat) : Int)
  by_cases e : m' = m
  · subst e
    rw [setI_at]
    simp
  · rw [setI_at_ne _ _ _ e, if_neg (fun q => e q.2)]
    exact a7 m' hm'
theorem AM_6 (h : AM σ hi) {m v : Nat} : AM (up σ 6 m v) (setI hi 46 (5 * m + 3) (zI v)) := by
  obtain ⟨⟨a1, a2, a3, a4, a5, a6, a7, a8⟩, hI, hT, hK⟩ := h
  refine ⟨⟨a1, a2, a3, ?_, ?_, ?_, ?_, ?_⟩, hI, hT, (hK.keep rfl rfl rfl).anew (by omega) (by omega)⟩
  · intro m' hm'
    have := a4 m' hm'
    rw [setI_at_ne _ _ _ (by omega)]
    exact this
  · intro m' hm'
    have := a5 m' hm'
    rw [setI_at_ne _ _ _ (by omega)]
    exact this
  · intro m' hm'
    have := a6 m' hm'
    rw [setI_at_ne _ _ _ (by omega)]
    exact this
  · intro m' hm'
    show setI hi 46 (5 * m + 3) (zI v) 46 (5 * m' + 3) = zI ((if 6 = 6 ∧ m' = m then v else σ 6 m' : Nat) : Int)
    by_cases e : m' = m
    · subst e
      rw [setI_at]
      simp
    · rw [setI_at_ne _ _ _ (by omega), if_neg (fun q => e q.2)]
      exact a7 m' hm'
  · intro m' hm'
    have := a8 m' hm'
    rw [setI_at_ne _ _ _ (by omega)]
    exact this
theorem Ok_6 (h : Ok σ) {m v : Nat} (hv : v ≤ lu σ m) : Ok (up σ 6 m v) := by
  obtain ⟨h0, h1, h2, h3, h4, h5⟩ := h
  refine ⟨h0, h1, h2, fun m' hm' => ?_, h4, okK_up (by omega) (by omega) (by omega) h5⟩
  have h6 := h3 m' hm'
  by_cases e : m' = m
  · subst e
    have e1 : ph (up σ 6 m' v) m' = v := by unfold ph up; simp
    unfold okM at h6 ⊢
    rw [e1]
    show _
    first | exact ⟨hv.2.1, hv.2.2, h6.2.2.1, h6.2.2.2.1, h6.2.2.2.2.1, hv.1, h6.2.2.2.2.2.2⟩ | exact ⟨h6.1, h6.2.1, h6.2.2.1, h6.2.2.2.1, hv, h6.2.2.2.2.2⟩ | exact ⟨h6.1, h6.2.1, h6.2.2.1, h6.2.2.2.1, h6.2.2.2.2.1, hv, h6.2.2.2.2.2.2⟩ | exact ⟨h6.1, h6.2.1, h6.2.2.1, h6.2.2.2.1, h6.2.2.2.2.1, h6.2.2.2.2.2.1, hv⟩
  · have e1 : ph (up σ 6 m v) m' = ph σ m' := by unfold ph up; simp [e]
    rw [e1]
    exact h6
theorem AX_7 (h : AX σ hi) {m v : Nat} : AX (up σ 7 m v) (setI hi 11 m (zI v)) := by
  obtain ⟨⟨a1, a2, a3, a4, a5, a6, a7, a8⟩, hI, hT, hK⟩ := h
  refine ⟨⟨a1, a2, a3, a4, a5, a6, a7, ?_⟩, hI, hT, (hK.keep (fun c h1 h2 => setI_ne _ _ _ (by omega)) rfl).anew (by omega) (by omega)⟩
  intro m' hm'
  show setI hi 11 m (zI v) 11 m' = zI ((if 7 = 7 ∧ m' = m then v else σ 7 m' : Nat) : Int)
  by_cases e : m' = m
  · subst e
    rw [setI_at]
    simp
  · rw [setI_at_ne _ _ _ e, if_neg (fun q => e q.2)]
    exact a8 m' hm'
theorem AM_7 (h : AM σ hi) {m v : Nat} : AM (up σ 7 m v) (setI hi 46 (5 * m + 4) (zI v)) := by
  obtain ⟨⟨a1, a2, a3, a4, a5, a6, a7, a8⟩, hI, hT, hK⟩ := h
  refine ⟨⟨a1, a2, a3, ?_, ?_, ?_, ?_, ?_⟩, hI, hT, (hK.keep rfl rfl rfl).anew (by omega) (by omega)⟩
  · intro m' hm'
    have := a4 m' hm'
    rw [setI_at_ne _ _ _ (by omega)]
    exact this
  · intro m' hm'
    have := a5 m' hm'
    rw [setI_at_ne _ _ _ (by omega)]
    exact this
  · intro m' hm'
    have := a6 m' hm'
    rw [setI_at_ne _ _ _ (by omega)]
    exact this
  · intro m' hm'
    have := a7 m' hm'
    rw [setI_at_ne _ _ _ (by omega)]
    exact this
  · intro m' hm'
    show setI hi 46 (5 * m + 4) (zI v) 46 (5 * m' + 4) = zI ((if 7 = 7 ∧ m' = m then v else σ 7 m' : Nat) : Int)
    by_cases e : m' = m
    · subst e
      rw [setI_at]
      simp
    · rw [setI_at_ne _ _ _ (by omega), if_neg (fun q => e q.2)]
      exact a8 m' hm'
theorem Ok_7 (h : Ok σ) {m v : Nat} (hv : v ≤ 1) : Ok (up σ 7 m v) := by
  obtain ⟨h0, h1, h2, h3, h4, h5⟩ := h
  refine ⟨h0, h1, h2, fun m' hm' => ?_, h4, okK_up (by omega) (by omega) (by omega) h5⟩
  have h6 := h3 m' hm'
  by_cases e : m' = m
  · subst e
    have e1 : br (up σ 7 m' v) m' = v := by unfold br up; simp
    unfold okM at h6 ⊢
    rw [e1]
    show _
    first | exact ⟨hv.2.1, hv.2.2, h6.2.2.1, h6.2.2.2.1, h6.2.2.2.2.1, hv.1, h6.2.2.2.2.2.2⟩ | exact ⟨h6.1, h6.2.1, h6.2.2.1, h6.2.2.2.1, hv, h6.2.2.2.2.2⟩ | exact ⟨h6.1, h6.2.1, h6.2.2.1, h6.2.2.2.1, h6.2.2.2.2.1, hv, h6.2.2.2.2.2.2⟩ | exact ⟨h6.1, h6.2.1, h6.2.2.1, h6.2.2.2.1, h6.2.2.2.2.1, h6.2.2.2.2.2.1, hv⟩
  · have e1 : br (up σ 7 m v) m' = br σ m' := by unfold br up; simp [e]
    rw [e1]
    exact h6
theorem AX_03 (h : AX σ hi) {v : Nat} : AX (up σ 0 3 v) (setI hi 6 1 (zI v)) := by
  obtain ⟨⟨a1, a2, a3, a4, a5, a6, a7, a8⟩, hI, hT, hK⟩ := h
  exact ⟨⟨a1, rfl, a3, a4, a5, a6, a7, a8⟩, hI, hT, (hK.keep (fun c h1 h2 => setI_ne _ _ _ (by omega)) rfl).anew (by omega) (by omega)⟩
theorem AM_03 (h : AM σ hi) {v : Nat} : AM (up σ 0 3 v) (setI hi 41 12 (zI v)) := by
  obtain ⟨⟨a1, a2, a3, a4, a5, a6, a7, a8⟩, hI, hT, hK⟩ := h
  exact ⟨⟨a1, rfl, a3, a4, a5, a6, a7, a8⟩, hI, hT, (hK.keep rfl rfl rfl).anew (by omega) (by omega)⟩
theorem Ok_03 (h : Ok σ) {v : Nat} (hv : v ≤ 99) : Ok (up σ 0 3 v) := by
  obtain ⟨⟨b1, b2, b3, b4, b5, b6, b7⟩, h1, h2, h3, h4, h5⟩ := h
  exact ⟨⟨b1, b2, b3, b4, hv, b6, b7⟩, h1, h2, h3, h4, okK_up (by omega) (by omega) (by omega) h5⟩
theorem AX_04 (h : AX σ hi) {v : Nat} : AX (up σ 0 4 v) (setI hi 6 2 (zI v)) := by
  obtain ⟨⟨a1, a2, a3, a4, a5, a6, a7, a8⟩, hI, hT, hK⟩ := h
  exact ⟨⟨a1, a2, rfl, a4, a5, a6, a7, a8⟩, hI, hT, (hK.keep (fun c h1 h2 => setI_ne _ _ _ (by omega)) rfl).anew (by omega) (by omega)⟩
theorem AM_04 (h : AM σ hi) {v : Nat} : AM (up σ 0 4 v) (setI hi 41 13 (zI v)) := by
  obtain ⟨⟨a1, a2, a3, a4, a5, a6, a7, a8⟩, hI, hT, hK⟩ := h
  exact ⟨⟨a1, a2, rfl, a4, a5, a6, a7, a8⟩, hI, hT, (hK.keep rfl rfl rfl).anew (by omega) (by omega)⟩
theorem Ok_04 (h : Ok σ) {v : Nat} (hv : v ≤ 9) : Ok (up σ 0 4 v) := by
  obtain ⟨⟨b1, b2, b3, b4, b5, b6, b7⟩, h1, h2, h3, h4, h5⟩ := h
  exact ⟨⟨b1, b2, b3, b4, b5, hv, b7⟩, h1, h2, h3, h4, okK_up (by omega) (by omega) (by omega) h5⟩
end UPD
/-- what a call of the class (the reference) answers, the state behind it, and that the other side's cells stay -/
def pX (σ' : SG) (x : Int32) (hi : HI) : Option Value → HI → HL → Prop := fun r hi' _ => r = some (.int x) ∧ AX σ' hi' ∧ ∀ c, 41 ≤ c → hi' c = hi c
def pM (σ' : SG) (x : Int32) (hi : HI) : Option Value → HI → HL → Prop := fun r hi' _ => r = some (.int x) ∧ AM σ' hi' ∧ ∀ c, c < 41 → hi' c = hi c
def pXl (σ' : SG) (x : Int64) (hi : HI) : Option Value → HI → HL → Prop := fun r hi' _ => r = some (.long x) ∧ AX σ' hi' ∧ ∀ c, 41 ≤ c → hi' c = hi c
def pMl (σ' : SG) (x : Int64) (hi : HI) : Option Value → HI → HL → Prop := fun r hi' _ => r = some (.long x) ∧ AM σ' hi' ∧ ∀ c, c < 41 → hi' c = hi c
theorem pX_of {σ : SG} {x y : Int32} {hi : HI} {hl : HL} (h : AX σ hi) (e : y = x) : pX σ x hi (some (.int y)) hi hl := ⟨by rw [e], h, fun _ _ => rfl⟩
theorem pM_of {σ : SG} {x y : Int32} {hi : HI} {hl : HL} (h : AM σ hi) (e : y = x) : pM σ x hi (some (.int y)) hi hl := ⟨by rw [e], h, fun _ _ => rfl⟩
/-! the answers -/
abbrev inP (σ : SG) (a : Int) : Prop := 0 ≤ a ∧ a < nP σ
abbrev inM (σ : SG) (a : Int) : Prop := 0 ≤ a ∧ a < nM σ
abbrev inB (σ : SG) (a : Int) : Prop := 0 ≤ a ∧ a < nB σ
def r_drinks (σ : SG) (a : Int) : Int := if inP σ a then dr σ a.toNat else -1
def r_sounds (σ : SG) (a b : Int) : Int := if inP σ a ∧ inB σ b then (if (sn σ b.toNat).testBit a.toNat = true then 1 else 0) else -1
def r_person (σ : SG) (a b : Int) : Int := if inM σ a then (if 0 ≤ b ∧ b ≤ 4 then σ (3 + b.toNat) a.toNat else -2) else -1
def r_seat (σ : SG) (a b : Int) : Int := if inM σ a ∧ inP σ b then pl σ a.toNat else -1
def sx_seat (σ : SG) (a b : Int) : SG := if inM σ a ∧ inP σ b then up σ 5 a.toNat b.toNat else σ
def r_phase (σ : SG) (a b : Int) : Int := if inM σ a then (if 0 ≤ b ∧ b ≤ lu σ a.toNat then ph σ a.toNat else -2) else -1
def sx_phase (σ : SG) (a b : Int) : SG := if inM σ a ∧ 0 ≤ b ∧ b ≤ lu σ a.toNat then up σ 6 a.toNat b.toNat else σ
def r_bribe (σ : SG) (a : Int) (b : Nat) : Int := if inM σ a then (if br σ a.toNat = b then 0 else 1) else -1
def sx_bribe (σ : SG) (a : Int) (b : Nat) : SG := if inM σ a then up σ 7 a.toNat b else σ
def r_grow (σ : SG) (a : Int) : Int := if inM σ a then (if lu σ a.toNat = 9 then -3 else lu σ a.toNat + 1) else -1
def sx_grow (σ : SG) (a : Int) : SG := if inM σ a ∧ lu σ a.toNat ≠ 9 then up σ 3 a.toNat (lu σ a.toNat + 1) else σ
def r_store (σ : SG) (a : Int) : Int := if 0 ≤ a ∧ a ≤ 9 then rm σ else -2
def sx_store (σ : SG) (a : Int) : SG := if 0 ≤ a ∧ a ≤ 9 then up σ 0 4 a.toNat else σ
def r_late (σ : SG) (a : Int) : Int := if 0 ≤ a ∧ a ≤ 99 then lt σ else -2
def sx_late (σ : SG) (a : Int) : SG := if 0 ≤ a ∧ a ≤ 99 then up σ 0 3 a.toNat else σ
def r_gives (σ : SG) (a b : Int) : Int := if inM σ a ∧ inB σ b then gv σ a.toNat (b.toNat + lt σ) else -1
def r_air (σ : SG) (a b : Int) : Int := if inP σ a ∧ inB σ b then wnd σ (sit σ a.toNat) (lt σ) b.toNat else -1
def r_stored (σ : SG) (a b : Int) : Int := if inP σ a ∧ inB σ b then stA (rm σ) (dnS σ a.toNat) (wnd σ (sit σ a.toNat) (lt σ)) (b.toNat + 1) else -1
def r_sags (σ : SG) (a b : Int) : Int := if inP σ a ∧ inB σ b then msA (rm σ) (dnS σ a.toNat) (wnd σ (sit σ a.toNat) (lt σ)) b.toNat else -1
def r_count (σ : SG) (a : Int) : Int := if a = 0 then tl σ else if a = 1 then nP σ else if a = 2 then nM σ else if a = 3 then nB σ else if a = 4 then brN σ (nM σ) else if a = 5 then lt σ else if a = 6 then rm σ else -2
theorem toN {a : Int} {n : Nat} (h : 0 ≤ a ∧ a < n) : ∃ p : Nat, a = p ∧ p < n := ⟨a.toNat, by omega, by omega⟩
end
section
/-! The class's calls: the organ, told, a mass -/
theorem nC (n : Nat) : ((n : Int)).toNat = n := Int.toNat_natCast n
section CLASSA
variable {σ : SG} {hi : HI} {hl : HL} {a b : Int}
theorem AX.keepS {σ : SG} {hi hi' : HI} (h : AX σ hi) (e : ∀ c, c ≠ 25 → c ≠ 26 → c ≠ 27 → hi' c = hi c) : AX σ hi' := h.keep (fun c _ => e c (by omega) (by omega) (by omega))
theorem cx_drinks (ok : Ok σ) (hA : AX σ hi) (ha : inR a) : Ct M_BB_drinks 9 [.ref 0, .int (zI a)] hi hl (pX σ (zI (r_drinks σ a)) hi) := by
  have hn := ok.nums
  refine ct_intro (lv := [_, _]) (by decide +kernel) (Nat.le_of_ble_eq_true rfl) rfl ?_
  refine wp_aload_n d_BB_drinks_0 rfl ?_
  refine wp_getR d_BB_drinks_1 f_BB_19 (by decide) rfl rfl ?_
  refine wp_iload_n d_BB_drinks_4 rfl ?_
  refine wp_callV (ct_PI_has 0 ok hA.2.1 ha) d_BB_drinks_5 k_BB_104 (by decide) rfl rfl rfl rfl (Nat.le_of_ble_eq_true rfl) (by omega) ?_
  rintro _ _ _ ⟨rfl, rfl, rfl⟩
  refine wz_if_eqB (tgt := 23) d_BB_drinks_8 (by decide) (fun h8 => ?_) (fun h8 => ?_)
  · refine wp_iconst (v := zI (-1)) d_BB_drinks_23 rfl ?_
    exact wp_iret d_BB_drinks_24 (Or.inl rfl) (pX_of hA (by rw [r_drinks, if_neg h8]))
  · obtain ⟨p, rfl, hpp⟩ := toN h8
    refine wp_aload_n d_BB_drinks_11 rfl ?_
    refine wp_getR d_BB_drinks_12 f_BB_19 (by decide) rfl rfl ?_
    refine wp_getR d_BB_drinks_15 f_BB_107 (by decide) rfl rfl ?_
    refine wp_iload_n d_BB_drinks_18 rfl ?_
    refine wz_iald (hA.2.1.dr hpp) (rfl) ((by omega)) d_BB_drinks_19 (by decide) rfl (by decide) ?_
    refine wp_goto (tgt := 24) d_BB_drinks_20 (by decide) ?_
    exact wp_iret d_BB_drinks_24 (Or.inl rfl) (pX_of hA (by rw [r_drinks, if_pos h8, nC]))
theorem cx_sounds (ok : Ok σ) (hA : AX σ hi) (ha : inR a) (hb : inR b) : Ct M_BB_sounds 9 [.ref 0, .int (zI a), .int (zI b)] hi hl (pX σ (zI (r_sounds σ a b)) hi) := by
  have hn := ok.nums
  refine ct_intro (lv := [_, _, _]) (by decide +kernel) (Nat.le_of_ble_eq_true rfl) rfl ?_
  refine wp_aload_n d_BB_sounds_0 rfl ?_
  refine wp_getR d_BB_sounds_1 f_BB_19 (by decide) rfl rfl ?_
  refine wp_iload_n d_BB_sounds_4 rfl ?_
  refine wp_iload_n d_BB_sounds_5 rfl ?_
  refine wp_callV (ct_PI_hasBoth ok hA.2.1 ha hb) d_BB_sounds_6 k_BB_111 (by decide) rfl rfl rfl rfl (Nat.le_of_ble_eq_true rfl) (by omega) ?_
  rintro _ _ _ ⟨rfl, rfl, rfl⟩
  refine wz_if_neB (tgt := 14) d_BB_sounds_9 (by decide) (fun h9 => ?_) (fun h9 => ?_)
  · obtain ⟨p, rfl, hpp⟩ := toN h9.1
    obtain ⟨j, rfl, hj⟩ := toN h9.2
    refine wp_aload_n d_BB_sounds_14 rfl ?_
    refine wp_getR d_BB_sounds_15 f_BB_19 (by decide) rfl rfl ?_
    refine wp_iload_n d_BB_sounds_18 rfl ?_
    refine wp_iload_n d_BB_sounds_19 rfl ?_
    refine wp_callV (ct_PI_isSounding (p := p) (j := j) 0 ok hA.2.1 (by omega) hj) d_BB_sounds_20 k_BB_115 (by decide) rfl rfl rfl rfl (Nat.le_of_ble_eq_true rfl) (by omega) ?_
    rintro _ _ _ ⟨rfl, rfl, rfl⟩
    refine wz_if_eqB (tgt := 30) d_BB_sounds_23 (by decide) (fun h23 => ?_) (fun h23 => ?_)
    · refine wp_iconst (v := zI 0) d_BB_sounds_30 rfl ?_
      exact wp_iret d_BB_sounds_31 (Or.inl rfl) (pX_of hA (by rw [r_sounds, if_pos h9, nC, nC, if_neg h23]))
    · refine wp_iconst (v := zI 1) d_BB_sounds_26 rfl ?_
      refine wp_goto (tgt := 31) d_BB_sounds_27 (by decide) ?_
      exact wp_iret d_BB_sounds_31 (Or.inl rfl) (pX_of hA (by rw [r_sounds, if_pos h9, nC, nC, if_pos h23]))
  · refine wp_iconst (v := zI (-1)) d_BB_sounds_12 rfl ?_
    exact wp_iret d_BB_sounds_13 (Or.inl rfl) (pX_of hA (by rw [r_sounds, if_neg h9]))
theorem cx_person (ok : Ok σ) (hA : AX σ hi) (ha : inR a) (hb : inR b) : Ct M_BB_person 9 [.ref 0, .int (zI a), .int (zI b)] hi hl (pX σ (zI (r_person σ a b)) hi) := by
  have hn := ok.nums
  refine ct_intro (lv := [_, _, _]) (by decide +kernel) (Nat.le_of_ble_eq_true rfl) rfl ?_
  refine wp_aload_n d_BB_person_0 rfl ?_
  refine wp_getR d_BB_person_1 f_BB_26 (by decide) rfl rfl ?_
  refine wp_iload_n d_BB_person_4 rfl ?_
  refine wp_callV (ct_PE_has 0 ok hA.1 ha) d_BB_person_5 k_BB_118 (by decide) rfl rfl rfl rfl (Nat.le_of_ble_eq_true rfl) (by omega) ?_
  rintro _ _ _ ⟨rfl, rfl, rfl⟩
  refine wz_if_neB (tgt := 13) d_BB_person_8 (by decide) (fun h8 => ?_) (fun h8 => ?_)
  · obtain ⟨m, rfl, hm⟩ := toN h8
    have hmm := ok.m hm
    refine wp_iload_n d_BB_person_13 rfl ?_
    by_cases hin : 0 ≤ b ∧ b ≤ 4
    · obtain ⟨f, rfl, hf⟩ := toN (show 0 ≤ b ∧ b < (5 : Nat) by omega)
      have hx : (zI (f : Int)).toInt = f := zI_toInt hb
      have e : r_person σ (m : Int) (f : Int) = σ (3 + f) m := by rw [r_person, if_pos h8, if_pos (by omega), nC, nC]
      rw [e]
      rcases (show f = 0 ∨ f = 1 ∨ f = 2 ∨ f = 3 ∨ f = 4 by omega) with rfl | rfl | rfl | rfl | rfl
      · refine wp_switchIn (off := 34) (tgt := 48) d_BB_person_14 (by rw [hx]; decide) (by rw [hx]; decide) rfl (by decide) ?_
        refine wp_aload_n d_BB_person_48 rfl ?_
        refine wp_getR d_BB_person_49 f_BB_26 (by decide) rfl rfl ?_
        refine wp_getR d_BB_person_52 f_BB_119 (by decide) rfl rfl ?_
        refine wp_iload_n d_BB_person_55 rfl ?_
        refine wz_iald (hA.1.lu hm) (rfl) ((by omega)) d_BB_person_56 (by decide) rfl (by decide) ?_
        exact wp_iret d_BB_person_57 (Or.inl rfl) (pX_of hA rfl)
      · refine wp_switchIn (off := 44) (tgt := 58) d_BB_person_14 (by rw [hx]; decide) (by rw [hx]; decide) rfl (by decide) ?_
        refine wp_aload_n d_BB_person_58 rfl ?_
        refine wp_getR d_BB_person_59 f_BB_26 (by decide) rfl rfl ?_
        refine wp_getR d_BB_person_62 f_BB_122 (by decide) rfl rfl ?_
        refine wp_iload_n d_BB_person_65 rfl ?_
        refine wz_iald (hA.1.fo hm) (rfl) ((by omega)) d_BB_person_66 (by decide) rfl (by decide) ?_
        exact wp_iret d_BB_person_67 (Or.inl rfl) (pX_of hA rfl)
      · refine wp_switchIn (off := 54) (tgt := 68) d_BB_person_14 (by rw [hx]; decide) (by rw [hx]; decide) rfl (by decide) ?_
        refine wp_aload_n d_BB_person_68 rfl ?_
        refine wp_getR d_BB_person_69 f_BB_26 (by decide) rfl rfl ?_
        refine wp_getR d_BB_person_72 f_BB_125 (by decide) rfl rfl ?_
        refine wp_iload_n d_BB_person_75 rfl ?_
        refine wz_iald (hA.1.pl hm) (rfl) ((by omega)) d_BB_person_76 (by decide) rfl (by decide) ?_
        exact wp_iret d_BB_person_77 (Or.inl rfl) (pX_of hA rfl)
      · refine wp_switchIn (off := 64) (tgt := 78) d_BB_person_14 (by rw [hx]; decide) (by rw [hx]; decide) rfl (by decide) ?_
        refine wp_aload_n d_BB_person_78 rfl ?_
        refine wp_getR d_BB_person_79 f_BB_26 (by decide) rfl rfl ?_
        refine wp_getR d_BB_person_82 f_BB_128 (by decide) rfl rfl ?_
        refine wp_iload_n d_BB_person_85 rfl ?_
        refine wz_iald (hA.1.ph hm) (rfl) ((by omega)) d_BB_person_86 (by decide) rfl (by decide) ?_
        exact wp_iret d_BB_person_87 (Or.inl rfl) (pX_of hA rfl)
      · refine wp_switchIn (off := 74) (tgt := 88) d_BB_person_14 (by rw [hx]; decide) (by rw [hx]; decide) rfl (by decide) ?_
        refine wp_aload_n d_BB_person_88 rfl ?_
        refine wp_getR d_BB_person_89 f_BB_26 (by decide) rfl rfl ?_
        refine wp_getR d_BB_person_92 f_BB_131 (by decide) rfl rfl ?_
        refine wp_iload_n d_BB_person_95 rfl ?_
        refine wz_zald (hA.1.br hm) (rfl) ((by omega)) d_BB_person_96 (by decide) rfl (by decide) ?_
        refine wz_if_eq (tgt := 104) d_BB_person_97 (by decide) (by omega) (fun h97 => ?_) (fun h97 => ?_)
        · refine wp_iconst (v := zI 0) d_BB_person_104 rfl ?_
          exact wp_iret d_BB_person_105 (Or.inl rfl) (pX_of hA (by show _ = zI (br σ m); rw [h97]))
        · refine wp_iconst (v := zI 1) d_BB_person_100 rfl ?_
          refine wp_goto (tgt := 105) d_BB_person_101 (by decide) ?_
          exact wp_iret d_BB_person_105 (Or.inl rfl) (pX_of hA (by show _ = zI (br σ m); rw [show br σ m = 1 by omega]; rfl))
    · have hx : (zI b).toInt = b := zI_toInt hb
      refine wp_switchOut (tgt := 106) d_BB_person_14 (by rw [hx]; omega) (by decide) ?_
      refine wp_bipush (v := zI (-2)) d_BB_person_106 rfl ?_
      exact wp_iret d_BB_person_108 (Or.inl rfl) (pX_of hA (by rw [r_person, if_pos h8, if_neg hin]))
  · refine wp_iconst (v := zI (-1)) d_BB_person_11 rfl ?_
    exact wp_iret d_BB_person_12 (Or.inl rfl) (pX_of hA (by rw [r_person, if_neg h8]))
theorem cx_seat (ok : Ok σ) (hA : AX σ hi) (ha : inR a) (hb : inR b) : Ct M_BB_seat 9 [.ref 0, .int (zI a), .int (zI b)] hi hl (pX (sx_seat σ a b) (zI (r_seat σ a b)) hi) := by
  have hn := ok.nums
  refine ct_intro (lv := [_, _, _, _]) (by decide +kernel) (Nat.le_of_ble_eq_true rfl) rfl ?_
  refine wp_aload_n d_BB_seat_0 rfl ?_
  refine wp_getR d_BB_seat_1 f_BB_26 (by decide) rfl rfl ?_
  refine wp_iload_n d_BB_seat_4 rfl ?_
  refine wp_callV (ct_PE_has 0 ok hA.1 ha) d_BB_seat_5 k_BB_118 (by decide) rfl rfl rfl rfl (Nat.le_of_ble_eq_true rfl) (by omega) ?_
  rintro _ _ _ ⟨rfl, rfl, rfl⟩
  refine wz_if_eqB (tgt := 22) d_BB_seat_8 (by decide) (fun h8 => ?_) (fun h8 => ?_)
  · refine wp_iconst (v := zI (-1)) d_BB_seat_22 rfl ?_
    have e : ¬ (inM σ a ∧ inP σ b) := fun q => h8 q.1
    rw [r_seat, sx_seat, if_neg e, if_neg e]
    exact wp_iret d_BB_seat_23 (Or.inl rfl) (pX_of hA rfl)
  · refine wp_aload_n d_BB_seat_11 rfl ?_
    refine wp_getR d_BB_seat_12 f_BB_19 (by decide) rfl rfl ?_
    refine wp_iload_n d_BB_seat_15 rfl ?_
    refine wp_callV (ct_PI_has 0 ok hA.2.1 hb) d_BB_seat_16 k_BB_104 (by decide) rfl rfl rfl rfl (Nat.le_of_ble_eq_true rfl) (by omega) ?_
    rintro _ _ _ ⟨rfl, rfl, rfl⟩
    refine wz_if_neB (tgt := 24) d_BB_seat_19 (by decide) (fun h19 => ?_) (fun h19 => ?_)
    · obtain ⟨m, rfl, hm⟩ := toN h8
      obtain ⟨p, rfl, hpp⟩ := toN h19
      rw [r_seat, sx_seat, if_pos ⟨h8, h19⟩, if_pos ⟨h8, h19⟩, nC, nC]
      refine wp_aload_n d_BB_seat_24 rfl ?_
      refine wp_getR d_BB_seat_25 f_BB_26 (by decide) rfl rfl ?_
      refine wp_getR d_BB_seat_28 f_BB_125 (by decide) rfl rfl ?_
      refine wp_iload_n d_BB_seat_31 rfl ?_
      refine wz_iald (hA.1.pl hm) (rfl) ((by omega)) d_BB_seat_32 (by decide) rfl (by decide) ?_
      refine wp_istore_n (lv' := [_, _, _, _]) d_BB_seat_33 (by decide) rfl ?_
      refine wp_aload_n d_BB_seat_34 rfl ?_
      refine wp_getR d_BB_seat_35 f_BB_26 (by decide) rfl rfl ?_
      refine wp_getR d_BB_seat_38 f_BB_125 (by decide) rfl rfl ?_
      refine wp_iload_n d_BB_seat_41 rfl ?_
      refine wp_iload_n d_BB_seat_42 rfl ?_
      refine wz_iast (rfl) ((by omega)) d_BB_seat_43 (by decide) rfl (by decide) ?_
      refine wp_iload_n d_BB_seat_44 rfl ?_
      exact wp_iret d_BB_seat_45 (Or.inl rfl) (⟨rfl, AX_5 hA, fun c hc => setI_ne _ _ _ (by omega)⟩)
    · refine wp_iconst (v := zI (-1)) d_BB_seat_22 rfl ?_
      have e : ¬ (inM σ a ∧ inP σ b) := fun q => h19 q.2
      rw [r_seat, sx_seat, if_neg e, if_neg e]
      exact wp_iret d_BB_seat_23 (Or.inl rfl) (pX_of hA rfl)
theorem cx_phase (ok : Ok σ) (hA : AX σ hi) (ha : inR a) (hb : inR b) : Ct M_BB_phase 9 [.ref 0, .int (zI a), .int (zI b)] hi hl (pX (sx_phase σ a b) (zI (r_phase σ a b)) hi) := by
  have hn := ok.nums
  refine ct_intro (lv := [_, _, _, _]) (by decide +kernel) (Nat.le_of_ble_eq_true rfl) rfl ?_
  refine wp_aload_n d_BB_phase_0 rfl ?_
  refine wp_getR d_BB_phase_1 f_BB_26 (by decide) rfl rfl ?_
  refine wp_iload_n d_BB_phase_4 rfl ?_
  refine wp_callV (ct_PE_has 0 ok hA.1 ha) d_BB_phase_5 k_BB_118 (by decide) rfl rfl rfl rfl (Nat.le_of_ble_eq_true rfl) (by omega) ?_
  rintro _ _ _ ⟨rfl, rfl, rfl⟩
  refine wz_if_neB (tgt := 13) d_BB_phase_8 (by decide) (fun h8 => ?_) (fun h8 => ?_)
  · obtain ⟨m, rfl, hm⟩ := toN h8
    have hmm := ok.m hm
    rw [r_phase, if_pos h8, sx_phase, nC]
    refine wp_iload_n d_BB_phase_13 rfl ?_
    refine wz_if_lt (tgt := 30) d_BB_phase_14 (by decide) (by omega) (fun h14 => ?_) (fun h14 => ?_)
    · refine wp_bipush (v := zI (-2)) d_BB_phase_30 rfl ?_
      rw [if_neg (by omega), if_neg (by omega)]
      exact wp_iret d_BB_phase_32 (Or.inl rfl) (pX_of hA rfl)
    · refine wp_iload_n d_BB_phase_17 rfl ?_
      refine wp_aload_n d_BB_phase_18 rfl ?_
      refine wp_getR d_BB_phase_19 f_BB_26 (by decide) rfl rfl ?_
      refine wp_getR d_BB_phase_22 f_BB_119 (by decide) rfl rfl ?_
      refine wp_iload_n d_BB_phase_25 rfl ?_
      refine wz_iald (hA.1.lu hm) (rfl) ((by omega)) d_BB_phase_26 (by decide) rfl (by decide) ?_
      refine wz_icmp_le (tgt := 33) d_BB_phase_27 (by decide) (by omega) (by omega) (fun h27 => ?_) (fun h27 => ?_)
      · obtain ⟨s, rfl, hs⟩ := toN (show 0 ≤ b ∧ b < (lu σ m + 1 : Nat) by omega)
        rw [if_pos ⟨h8, h14, h27⟩, if_pos ⟨h14, h27⟩, nC]
        refine wp_aload_n d_BB_phase_33 rfl ?_
        refine wp_getR d_BB_phase_34 f_BB_26 (by decide) rfl rfl ?_
        refine wp_getR d_BB_phase_37 f_BB_128 (by decide) rfl rfl ?_
        refine wp_iload_n d_BB_phase_40 rfl ?_
        refine wz_iald (hA.1.ph hm) (rfl) ((by omega)) d_BB_phase_41 (by decide) rfl (by decide) ?_
        refine wp_istore_n (lv' := [_, _, _, _]) d_BB_phase_42 (by decide) rfl ?_
        refine wp_aload_n d_BB_phase_43 rfl ?_
        refine wp_getR d_BB_phase_44 f_BB_26 (by decide) rfl rfl ?_
        refine wp_getR d_BB_phase_47 f_BB_128 (by decide) rfl rfl ?_
        refine wp_iload_n d_BB_phase_50 rfl ?_
        refine wp_iload_n d_BB_phase_51 rfl ?_
        refine wz_iast (rfl) ((by omega)) d_BB_phase_52 (by decide) rfl (by decide) ?_
        refine wp_iload_n d_BB_phase_53 rfl ?_
        exact wp_iret d_BB_phase_54 (Or.inl rfl) (⟨rfl, AX_6 hA, fun c hc => setI_ne _ _ _ (by omega)⟩)
      · refine wp_bipush (v := zI (-2)) d_BB_phase_30 rfl ?_
        rw [if_neg (by omega), if_neg (by omega)]
        exact wp_iret d_BB_phase_32 (Or.inl rfl) (pX_of hA rfl)
  · refine wp_iconst (v := zI (-1)) d_BB_phase_11 rfl ?_
    rw [r_phase, if_neg h8, sx_phase, if_neg (fun q => h8 q.1)]
    exact wp_iret d_BB_phase_12 (Or.inl rfl) (pX_of hA rfl)
theorem cx_bribe {n : Nat} (ok : Ok σ) (hA : AX σ hi) (ha : inR a) (hb : n ≤ 1) : Ct M_BB_bribe 9 [.ref 0, .int (zI a), .int (zI n)] hi hl (pX (sx_bribe σ a n) (zI (r_bribe σ a n)) hi) := by
  have hn := ok.nums
  refine ct_intro (lv := [_, _, _, _]) (by decide +kernel) (Nat.le_of_ble_eq_true rfl) rfl ?_
  refine wp_aload_n d_BB_bribe_0 rfl ?_
  refine wp_getR d_BB_bribe_1 f_BB_26 (by decide) rfl rfl ?_
  refine wp_iload_n d_BB_bribe_4 rfl ?_
  refine wp_callV (ct_PE_has 0 ok hA.1 ha) d_BB_bribe_5 k_BB_118 (by decide) rfl rfl rfl rfl (Nat.le_of_ble_eq_true rfl) (by omega) ?_
  rintro _ _ _ ⟨rfl, rfl, rfl⟩
  refine wz_if_neB (tgt := 13) d_BB_bribe_8 (by decide) (fun h8 => ?_) (fun h8 => ?_)
  · obtain ⟨m, rfl, hm⟩ := toN h8
    have hmm := ok.m hm
    have h01 : zI (n : Int) = 0 ∨ zI (n : Int) = 1 := by
      rcases (show n = 0 ∨ n = 1 by omega) with rfl | rfl
      · exact Or.inl rfl
      · exact Or.inr rfl
    rw [r_bribe, if_pos h8, sx_bribe, if_pos h8, nC]
    refine wp_aload_n d_BB_bribe_13 rfl ?_
    refine wp_getR d_BB_bribe_14 f_BB_26 (by decide) rfl rfl ?_
    refine wp_getR d_BB_bribe_17 f_BB_131 (by decide) rfl rfl ?_
    refine wp_iload_n d_BB_bribe_20 rfl ?_
    refine wz_zald (hA.1.br hm) (rfl) ((by omega)) d_BB_bribe_21 (by decide) rfl (by decide) ?_
    refine wp_istore_n (lv' := [_, _, _, _]) d_BB_bribe_22 (by decide) rfl ?_
    refine wp_aload_n d_BB_bribe_23 rfl ?_
    refine wp_getR d_BB_bribe_24 f_BB_26 (by decide) rfl rfl ?_
    refine wp_getR d_BB_bribe_27 f_BB_131 (by decide) rfl rfl ?_
    refine wp_iload_n d_BB_bribe_30 rfl ?_
    refine wp_iload_n d_BB_bribe_31 rfl ?_
    refine wz_zast (rfl) ((by omega)) (h01) d_BB_bribe_32 (by decide) rfl (by decide) ?_
    refine wp_iload_n d_BB_bribe_33 rfl ?_
    refine wp_iload_n d_BB_bribe_34 rfl ?_
    refine wz_icmp_ne (tgt := 42) d_BB_bribe_35 (by decide) (by omega) (by omega) (fun h35 => ?_) (fun h35 => ?_)
    · refine wp_iconst (v := zI 1) d_BB_bribe_42 rfl ?_
      rw [if_neg (by omega)]
      exact wp_iret d_BB_bribe_43 (Or.inl rfl) (⟨rfl, AX_7 hA, fun c hc => setI_ne _ _ _ (by omega)⟩)
    · refine wp_iconst (v := zI 0) d_BB_bribe_38 rfl ?_
      refine wp_goto (tgt := 43) d_BB_bribe_39 (by decide) ?_
      rw [if_pos (by omega)]
      exact wp_iret d_BB_bribe_43 (Or.inl rfl) (⟨rfl, AX_7 hA, fun c hc => setI_ne _ _ _ (by omega)⟩)
  · refine wp_iconst (v := zI (-1)) d_BB_bribe_11 rfl ?_
    rw [r_bribe, if_neg h8, sx_bribe, if_neg h8]
    exact wp_iret d_BB_bribe_12 (Or.inl rfl) (pX_of hA rfl)
theorem cx_grow (ok : Ok σ) (hA : AX σ hi) (ha : inR a) : Ct M_BB_grow 9 [.ref 0, .int (zI a)] hi hl (pX (sx_grow σ a) (zI (r_grow σ a)) hi) := by
  have hn := ok.nums
  refine ct_intro (lv := [_, _]) (by decide +kernel) (Nat.le_of_ble_eq_true rfl) rfl ?_
  refine wp_aload_n d_BB_grow_0 rfl ?_
  refine wp_getR d_BB_grow_1 f_BB_26 (by decide) rfl rfl ?_
  refine wp_iload_n d_BB_grow_4 rfl ?_
  refine wp_callV (ct_PE_has 0 ok hA.1 ha) d_BB_grow_5 k_BB_118 (by decide) rfl rfl rfl rfl (Nat.le_of_ble_eq_true rfl) (by omega) ?_
  rintro _ _ _ ⟨rfl, rfl, rfl⟩
  refine wz_if_neB (tgt := 13) d_BB_grow_8 (by decide) (fun h8 => ?_) (fun h8 => ?_)
  · obtain ⟨m, rfl, hm⟩ := toN h8
    have hmm := ok.m hm
    rw [r_grow, if_pos h8, sx_grow, nC]
    refine wp_aload_n d_BB_grow_13 rfl ?_
    refine wp_getR d_BB_grow_14 f_BB_26 (by decide) rfl rfl ?_
    refine wp_getR d_BB_grow_17 f_BB_119 (by decide) rfl rfl ?_
    refine wp_iload_n d_BB_grow_20 rfl ?_
    refine wz_iald (hA.1.lu hm) (rfl) ((by omega)) d_BB_grow_21 (by decide) rfl (by decide) ?_
    refine wp_bipush (v := zI 9) d_BB_grow_22 rfl ?_
    refine wz_icmp_lt (tgt := 30) d_BB_grow_24 (by decide) (by omega) (by omega) (fun h24 => ?_) (fun h24 => ?_)
    · rw [if_pos ⟨h8, by omega⟩, if_neg (by omega)]
      refine wp_aload_n d_BB_grow_30 rfl ?_
      refine wp_getR d_BB_grow_31 f_BB_26 (by decide) rfl rfl ?_
      refine wp_getR d_BB_grow_34 f_BB_119 (by decide) rfl rfl ?_
      refine wp_iload_n d_BB_grow_37 rfl ?_
      refine wp_dup2 d_BB_grow_38 rfl rfl ?_
      refine wz_iald (hA.1.lu hm) (rfl) ((by omega)) d_BB_grow_39 (by decide) rfl (by decide) ?_
      refine wp_iconst (v := zI 1) d_BB_grow_40 rfl ?_
      refine wz_iadd d_BB_grow_41 ?_
      refine wz_iast (rfl) ((by omega)) d_BB_grow_42 (by decide) rfl (by decide) ?_
      refine wp_aload_n d_BB_grow_43 rfl ?_
      refine wp_getR d_BB_grow_44 f_BB_26 (by decide) rfl rfl ?_
      refine wp_getR d_BB_grow_47 f_BB_119 (by decide) rfl rfl ?_
      refine wp_iload_n d_BB_grow_50 rfl ?_
      refine wz_iald ((setI_at _ _ _ _)) (rfl) ((by omega)) d_BB_grow_51 (by decide) rfl (by decide) ?_
      exact wp_iret d_BB_grow_52 (Or.inl rfl) (⟨rfl, AX_3 (v := lu σ m + 1) hA, fun c hc => setI_ne _ _ _ (by omega)⟩)
    · refine wp_bipush (v := zI (-3)) d_BB_grow_27 rfl ?_
      rw [if_neg (by omega), if_pos (by omega)]
      exact wp_iret d_BB_grow_29 (Or.inl rfl) (pX_of hA rfl)
  · refine wp_iconst (v := zI (-1)) d_BB_grow_11 rfl ?_
    rw [r_grow, if_neg h8, sx_grow, if_neg (fun q => h8 q.1)]
    exact wp_iret d_BB_grow_12 (Or.inl rfl) (pX_of hA rfl)
theorem cx_store (ok : Ok σ) (hA : AX σ hi) (ha : inR a) : Ct M_BB_store 9 [.ref 0, .int (zI a)] hi hl (pX (sx_store σ a) (zI (r_store σ a)) hi) := by
  have hn := ok.nums
  refine ct_intro (lv := [_, _, _]) (by decide +kernel) (Nat.le_of_ble_eq_true rfl) rfl ?_
  refine wp_iload_n d_BB_store_0 rfl ?_
  refine wz_if_lt (tgt := 10) d_BB_store_1 (by decide) (by omega) (fun h1 => ?_) (fun h1 => ?_)
  · refine wp_bipush (v := zI (-2)) d_BB_store_10 rfl ?_
    rw [r_store, sx_store, if_neg (by omega), if_neg (by omega)]
    exact wp_iret d_BB_store_12 (Or.inl rfl) (pX_of hA rfl)
  · refine wp_iload_n d_BB_store_4 rfl ?_
    refine wp_bipush (v := zI 9) d_BB_store_5 rfl ?_
    refine wz_icmp_le (tgt := 13) d_BB_store_7 (by decide) (by omega) (by omega) (fun h7 => ?_) (fun h7 => ?_)
    · obtain ⟨v, rfl, hv⟩ := toN (show 0 ≤ a ∧ a < (10 : Nat) by omega)
      rw [r_store, sx_store, if_pos ⟨h1, h7⟩, if_pos ⟨h1, h7⟩, nC]
      refine wp_aload_n d_BB_store_13 rfl ?_
      refine wp_getR d_BB_store_14 f_BB_26 (by decide) rfl rfl ?_
      refine wz_getI (hA.1.room) d_BB_store_17 f_BB_134 (by decide) rfl rfl ?_
      refine wp_istore_n (lv' := [_, _, _]) d_BB_store_20 (by decide) rfl ?_
      refine wp_aload_n d_BB_store_21 rfl ?_
      refine wp_getR d_BB_store_22 f_BB_26 (by decide) rfl rfl ?_
      refine wp_iload_n d_BB_store_25 rfl ?_
      refine wp_putI d_BB_store_26 f_BB_134 pk_PE_2 (by decide) rfl rfl ?_
      refine wp_iload_n d_BB_store_29 rfl ?_
      exact wp_iret d_BB_store_30 (Or.inl rfl) (⟨rfl, AX_04 hA, fun c hc => setI_ne _ _ _ (by omega)⟩)
    · refine wp_bipush (v := zI (-2)) d_BB_store_10 rfl ?_
      rw [r_store, sx_store, if_neg (by omega), if_neg (by omega)]
      exact wp_iret d_BB_store_12 (Or.inl rfl) (pX_of hA rfl)
theorem cx_late (ok : Ok σ) (hA : AX σ hi) (ha : inR a) : Ct M_BB_late 9 [.ref 0, .int (zI a)] hi hl (pX (sx_late σ a) (zI (r_late σ a)) hi) := by
  have hn := ok.nums
  refine ct_intro (lv := [_, _, _]) (by decide +kernel) (Nat.le_of_ble_eq_true rfl) rfl ?_
  refine wp_iload_n d_BB_late_0 rfl ?_
  refine wz_if_lt (tgt := 10) d_BB_late_1 (by decide) (by omega) (fun h1 => ?_) (fun h1 => ?_)
  · refine wp_bipush (v := zI (-2)) d_BB_late_10 rfl ?_
    rw [r_late, sx_late, if_neg (by omega), if_neg (by omega)]
    exact wp_iret d_BB_late_12 (Or.inl rfl) (pX_of hA rfl)
  · refine wp_iload_n d_BB_late_4 rfl ?_
    refine wp_bipush (v := zI 99) d_BB_late_5 rfl ?_
    refine wz_icmp_le (tgt := 13) d_BB_late_7 (by decide) (by omega) (by omega) (fun h7 => ?_) (fun h7 => ?_)
    · obtain ⟨v, rfl, hv⟩ := toN (show 0 ≤ a ∧ a < (100 : Nat) by omega)
      rw [r_late, sx_late, if_pos ⟨h1, h7⟩, if_pos ⟨h1, h7⟩, nC]
      refine wp_aload_n d_BB_late_13 rfl ?_
      refine wp_getR d_BB_late_14 f_BB_26 (by decide) rfl rfl ?_
      refine wz_getI (hA.1.late) d_BB_late_17 f_BB_137 (by decide) rfl rfl ?_
      refine wp_istore_n (lv' := [_, _, _]) d_BB_late_20 (by decide) rfl ?_
      refine wp_aload_n d_BB_late_21 rfl ?_
      refine wp_getR d_BB_late_22 f_BB_26 (by decide) rfl rfl ?_
      refine wp_iload_n d_BB_late_25 rfl ?_
      refine wp_putI d_BB_late_26 f_BB_137 pk_PE_1 (by decide) rfl rfl ?_
      refine wp_iload_n d_BB_late_29 rfl ?_
      exact wp_iret d_BB_late_30 (Or.inl rfl) (⟨rfl, AX_03 hA, fun c hc => setI_ne _ _ _ (by omega)⟩)
    · refine wp_bipush (v := zI (-2)) d_BB_late_10 rfl ?_
      rw [r_late, sx_late, if_neg (by omega), if_neg (by omega)]
      exact wp_iret d_BB_late_12 (Or.inl rfl) (pX_of hA rfl)
theorem cx_gives (ok : Ok σ) (hA : AX σ hi) (ha : inR a) (hb : inR b) : Ct M_BB_gives 9 [.ref 0, .int (zI a), .int (zI b)] hi hl (pX σ (zI (r_gives σ a b)) hi) := by
  have hn := ok.nums
  refine ct_intro (lv := [_, _, _]) (by decide +kernel) (Nat.le_of_ble_eq_true rfl) rfl ?_
  refine wp_aload_n d_BB_gives_0 rfl ?_
  refine wp_getR d_BB_gives_1 f_BB_26 (by decide) rfl rfl ?_
  refine wp_iload_n d_BB_gives_4 rfl ?_
  refine wp_callV (ct_PE_has 0 ok hA.1 ha) d_BB_gives_5 k_BB_118 (by decide) rfl rfl rfl rfl (Nat.le_of_ble_eq_true rfl) (by omega) ?_
  rintro _ _ _ ⟨rfl, rfl, rfl⟩
  refine wz_if_eqB (tgt := 22) d_BB_gives_8 (by decide) (fun h8 => ?_) (fun h8 => ?_)
  · refine wp_iconst (v := zI (-1)) d_BB_gives_22 rfl ?_
    exact wp_iret d_BB_gives_23 (Or.inl rfl) (pX_of hA (by rw [r_gives, if_neg (fun q => h8 q.1)]))
  · refine wp_aload_n d_BB_gives_11 rfl ?_
    refine wp_getR d_BB_gives_12 f_BB_19 (by decide) rfl rfl ?_
    refine wp_iload_n d_BB_gives_15 rfl ?_
    refine wp_callV (ct_PI_hasBeat 0 ok hA.2.1 hb) d_BB_gives_16 k_BB_140 (by decide) rfl rfl rfl rfl (Nat.le_of_ble_eq_true rfl) (by omega) ?_
    rintro _ _ _ ⟨rfl, rfl, rfl⟩
    refine wz_if_neB (tgt := 24) d_BB_gives_19 (by decide) (fun h19 => ?_) (fun h19 => ?_)
    · obtain ⟨m, rfl, hm⟩ := toN h8
      obtain ⟨j, rfl, hj⟩ := toN h19
      refine wp_aload_n d_BB_gives_24 rfl ?_
      refine wp_getR d_BB_gives_25 f_BB_26 (by decide) rfl rfl ?_
      refine wp_iload_n d_BB_gives_28 rfl ?_
      refine wp_iload_n d_BB_gives_29 rfl ?_
      refine wp_aload_n d_BB_gives_30 rfl ?_
      refine wp_getR d_BB_gives_31 f_BB_26 (by decide) rfl rfl ?_
      refine wz_getI (hA.1.late) d_BB_gives_34 f_BB_137 (by decide) rfl rfl ?_
      refine wz_iadd d_BB_gives_37 ?_
      refine wp_callV (ct_PE_givenAt (m := m) (t := j + lt σ) 0 ok hA.1 hm (by omega)) d_BB_gives_38 k_BB_143 (by decide) rfl rfl rfl rfl (Nat.le_of_ble_eq_true rfl) (by omega) ?_
      rintro _ _ _ ⟨rfl, rfl, rfl⟩
      exact wp_iret d_BB_gives_41 (Or.inl rfl) (pX_of hA (by rw [r_gives, if_pos ⟨h8, h19⟩, nC, nC]))
    · refine wp_iconst (v := zI (-1)) d_BB_gives_22 rfl ?_
      exact wp_iret d_BB_gives_23 (Or.inl rfl) (pX_of hA (by rw [r_gives, if_neg (fun q => h19 q.2)]))
theorem cx_air (ok : Ok σ) (hA : AX σ hi) (ha : inR a) (hb : inR b) : Ct M_BB_air 9 [.ref 0, .int (zI a), .int (zI b)] hi hl (pX σ (zI (r_air σ a b)) hi) := by
  have hn := ok.nums
  refine ct_intro (lv := [_, _, _]) (by decide +kernel) (Nat.le_of_ble_eq_true rfl) rfl ?_
  refine wp_aload_n d_BB_air_0 rfl ?_
  refine wp_getR d_BB_air_1 f_BB_19 (by decide) rfl rfl ?_
  refine wp_iload_n d_BB_air_4 rfl ?_
  refine wp_iload_n d_BB_air_5 rfl ?_
  refine wp_callV (ct_PI_hasBoth ok hA.2.1 ha hb) d_BB_air_6 k_BB_111 (by decide) rfl rfl rfl rfl (Nat.le_of_ble_eq_true rfl) (by omega) ?_
  rintro _ _ _ ⟨rfl, rfl, rfl⟩
  refine wz_if_neB (tgt := 14) d_BB_air_9 (by decide) (fun h9 => ?_) (fun h9 => ?_)
  · obtain ⟨p, rfl, hpp⟩ := toN h9.1
    obtain ⟨j, rfl, hj⟩ := toN h9.2
    refine wp_aload_n d_BB_air_14 rfl ?_
    refine wp_getR d_BB_air_15 f_BB_35 (by decide) rfl rfl ?_
    refine wp_aload_n d_BB_air_18 rfl ?_
    refine wp_getR d_BB_air_19 f_BB_26 (by decide) rfl rfl ?_
    refine wp_iload_n d_BB_air_22 rfl ?_
    refine wp_callV (ct_PE_sittingAt (p := p) 0 ok hA.1 (by omega)) d_BB_air_23 k_BB_147 (by decide) rfl rfl rfl rfl (Nat.le_of_ble_eq_true rfl) (by omega) ?_
    rintro _ _ _ ⟨rfl, rfl, rfl⟩
    refine wp_aload_n d_BB_air_26 rfl ?_
    refine wp_getR d_BB_air_27 f_BB_26 (by decide) rfl rfl ?_
    refine wz_getI (hA.1.late) d_BB_air_30 f_BB_137 (by decide) rfl rfl ?_
    refine wp_callV (ct_MA_gather (set := sit σ p) (k := lt σ) ok hA.1 hA.2.1 (sit_lt ok p) (by omega)) d_BB_air_33 k_BB_151 (by decide) rfl rfl rfl rfl (Nat.le_of_ble_eq_true rfl) (by omega) ?_
    rintro _ h _ ⟨rfl, rfl, he, hw⟩
    refine wp_aload_n d_BB_air_36 rfl ?_
    refine wp_getR d_BB_air_37 f_BB_35 (by decide) rfl rfl ?_
    refine wp_getR d_BB_air_40 f_BB_155 (by decide) rfl rfl ?_
    refine wp_iload_n d_BB_air_43 rfl ?_
    refine wz_iald (hw j hj) (rfl) ((by omega)) d_BB_air_44 (by decide) rfl (by decide) ?_
    exact wp_iret d_BB_air_45 (Or.inl rfl) (⟨by rw [r_air, if_pos h9, nC, nC], hA.keepS (fun c h1 _ _ => he c h1), fun c hc => he c (by omega)⟩)
  · refine wp_iconst (v := zI (-1)) d_BB_air_12 rfl ?_
    exact wp_iret d_BB_air_13 (Or.inl rfl) (pX_of hA (by rw [r_air, if_neg h9]))
theorem cx_stored (ok : Ok σ) (hA : AX σ hi) (ha : inR a) (hb : inR b) : Ct M_BB_stored 9 [.ref 0, .int (zI a), .int (zI b)] hi hl (pX σ (zI (r_stored σ a b)) hi) := by
  have hn := ok.nums
  refine ct_intro (lv := [_, _, _]) (by decide +kernel) (Nat.le_of_ble_eq_true rfl) rfl ?_
  refine wp_aload_n d_BB_stored_0 rfl ?_
  refine wp_getR d_BB_stored_1 f_BB_19 (by decide) rfl rfl ?_
  refine wp_iload_n d_BB_stored_4 rfl ?_
  refine wp_iload_n d_BB_stored_5 rfl ?_
  refine wp_callV (ct_PI_hasBoth ok hA.2.1 ha hb) d_BB_stored_6 k_BB_111 (by decide) rfl rfl rfl rfl (Nat.le_of_ble_eq_true rfl) (by omega) ?_
  rintro _ _ _ ⟨rfl, rfl, rfl⟩
  refine wz_if_neB (tgt := 14) d_BB_stored_9 (by decide) (fun h9 => ?_) (fun h9 => ?_)
  · obtain ⟨p, rfl, hpp⟩ := toN h9.1
    obtain ⟨j, rfl, hj⟩ := toN h9.2
    refine wp_aload_n d_BB_stored_14 rfl ?_
    refine wp_getR d_BB_stored_15 f_BB_35 (by decide) rfl rfl ?_
    refine wp_iload_n d_BB_stored_18 rfl ?_
    refine wp_aload_n d_BB_stored_19 rfl ?_
    refine wp_getR d_BB_stored_20 f_BB_26 (by decide) rfl rfl ?_
    refine wz_getI (hA.1.late) d_BB_stored_23 f_BB_137 (by decide) rfl rfl ?_
    refine wp_callV (ct_MA_play (p := p) (k := lt σ) ok hA.1 hA.2.1 hpp (by omega)) d_BB_stored_26 k_BB_158 (by decide) rfl rfl rfl rfl (Nat.le_of_ble_eq_true rfl) (by omega) ?_
    rintro _ h _ ⟨rfl, rfl, he, h26, h27⟩
    refine wp_pop d_BB_stored_29 rfl ?_
    refine wp_aload_n d_BB_stored_30 rfl ?_
    refine wp_getR d_BB_stored_31 f_BB_35 (by decide) rfl rfl ?_
    refine wp_getR d_BB_stored_34 f_BB_161 (by decide) rfl rfl ?_
    refine wp_iload_n d_BB_stored_37 rfl ?_
    refine wz_iald (h26 j hj) (rfl) ((by omega)) d_BB_stored_38 (by decide) rfl (by decide) ?_
    exact wp_iret d_BB_stored_39 (Or.inl rfl) (⟨by rw [r_stored, if_pos h9, nC, nC], hA.keepS he, fun c hc => he c (by omega) (by omega) (by omega)⟩)
  · refine wp_iconst (v := zI (-1)) d_BB_stored_12 rfl ?_
    exact wp_iret d_BB_stored_13 (Or.inl rfl) (pX_of hA (by rw [r_stored, if_neg h9]))
theorem cx_sags (ok : Ok σ) (hA : AX σ hi) (ha : inR a) (hb : inR b) : Ct M_BB_sags 9 [.ref 0, .int (zI a), .int (zI b)] hi hl (pX σ (zI (r_sags σ a b)) hi) := by
  have hn := ok.nums
  refine ct_intro (lv := [_, _, _]) (by decide +kernel) (Nat.le_of_ble_eq_true rfl) rfl ?_
  refine wp_aload_n d_BB_sags_0 rfl ?_
  refine wp_getR d_BB_sags_1 f_BB_19 (by decide) rfl rfl ?_
  refine wp_iload_n d_BB_sags_4 rfl ?_
  refine wp_iload_n d_BB_sags_5 rfl ?_
  refine wp_callV (ct_PI_hasBoth ok hA.2.1 ha hb) d_BB_sags_6 k_BB_111 (by decide) rfl rfl rfl rfl (Nat.le_of_ble_eq_true rfl) (by omega) ?_
  rintro _ _ _ ⟨rfl, rfl, rfl⟩
  refine wz_if_neB (tgt := 14) d_BB_sags_9 (by decide) (fun h9 => ?_) (fun h9 => ?_)
  · obtain ⟨p, rfl, hpp⟩ := toN h9.1
    obtain ⟨j, rfl, hj⟩ := toN h9.2
    refine wp_aload_n d_BB_sags_14 rfl ?_
    refine wp_getR d_BB_sags_15 f_BB_35 (by decide) rfl rfl ?_
    refine wp_iload_n d_BB_sags_18 rfl ?_
    refine wp_aload_n d_BB_sags_19 rfl ?_
    refine wp_getR d_BB_sags_20 f_BB_26 (by decide) rfl rfl ?_
    refine wz_getI (hA.1.late) d_BB_sags_23 f_BB_137 (by decide) rfl rfl ?_
    refine wp_callV (ct_MA_play (p := p) (k := lt σ) ok hA.1 hA.2.1 hpp (by omega)) d_BB_sags_26 k_BB_158 (by decide) rfl rfl rfl rfl (Nat.le_of_ble_eq_true rfl) (by omega) ?_
    rintro _ h _ ⟨rfl, rfl, he, h26, h27⟩
    refine wp_pop d_BB_sags_29 rfl ?_
    refine wp_aload_n d_BB_sags_30 rfl ?_
    refine wp_getR d_BB_sags_31 f_BB_35 (by decide) rfl rfl ?_
    refine wp_getR d_BB_sags_34 f_BB_164 (by decide) rfl rfl ?_
    refine wp_iload_n d_BB_sags_37 rfl ?_
    refine wz_iald (h27 j hj) (rfl) ((by omega)) d_BB_sags_38 (by decide) rfl (by decide) ?_
    exact wp_iret d_BB_sags_39 (Or.inl rfl) (⟨by rw [r_sags, if_pos h9, nC, nC], hA.keepS he, fun c hc => he c (by omega) (by omega) (by omega)⟩)
  · refine wp_iconst (v := zI (-1)) d_BB_sags_12 rfl ?_
    exact wp_iret d_BB_sags_13 (Or.inl rfl) (pX_of hA (by rw [r_sags, if_neg h9]))
theorem cx_total (ok : Ok σ) (hA : AX σ hi) : Ct M_BB_total 9 [.ref 0] hi hl (pX σ (zI (tot σ (lt σ))) hi) := by
  have hn := ok.nums
  refine ct_intro (lv := [_]) (by decide +kernel) (Nat.le_of_ble_eq_true rfl) rfl ?_
  refine wp_aload_n d_BB_total_0 rfl ?_
  refine wp_getR d_BB_total_1 f_BB_35 (by decide) rfl rfl ?_
  refine wp_aload_n d_BB_total_4 rfl ?_
  refine wp_getR d_BB_total_5 f_BB_26 (by decide) rfl rfl ?_
  refine wz_getI (hA.1.late) d_BB_total_8 f_BB_137 (by decide) rfl rfl ?_
  refine wp_callV (ct_MA_playAll (k := lt σ) ok hA.1 hA.2.1 (by omega)) d_BB_total_11 k_BB_167 (by decide) rfl rfl rfl rfl (Nat.le_of_ble_eq_true rfl) (by omega) ?_
  rintro _ h _ ⟨rfl, rfl, he⟩
  exact wp_iret d_BB_total_14 (Or.inl rfl) (⟨rfl, hA.keepS he, fun c hc => he c (by omega) (by omega) (by omega)⟩)
theorem cx_count (ok : Ok σ) (hA : AX σ hi) (ha : inR a) : Ct M_BB_count 9 [.ref 0, .int (zI a)] hi hl (pX σ (zI (r_count σ a)) hi) := by
  have hn := ok.nums
  refine ct_intro (lv := [_, _]) (by decide +kernel) (Nat.le_of_ble_eq_true rfl) rfl ?_
  refine wp_iload_n d_BB_count_0 rfl ?_
  by_cases hin : 0 ≤ a ∧ a ≤ 6
  · obtain ⟨f, rfl, hf⟩ := toN (show 0 ≤ a ∧ a < (7 : Nat) by omega)
    have hx : (zI (f : Int)).toInt = f := zI_toInt ha
    rcases (show f = 0 ∨ f = 1 ∨ f = 2 ∨ f = 3 ∨ f = 4 ∨ f = 5 ∨ f = 6 by omega) with rfl | rfl | rfl | rfl | rfl | rfl | rfl
    · refine wp_switchIn (off := 43) (tgt := 44) d_BB_count_1 (by rw [hx]; decide) (by rw [hx]; decide) rfl (by decide) ?_
      refine wp_aload_n d_BB_count_44 rfl ?_
      refine wp_getR d_BB_count_45 f_BB_10 (by decide) rfl rfl ?_
      refine wz_getI (hA.2.2.1.1) d_BB_count_48 f_BB_226 (by decide) rfl rfl ?_
      exact wp_iret d_BB_count_51 (Or.inl rfl) (pX_of hA rfl)
    · refine wp_switchIn (off := 51) (tgt := 52) d_BB_count_1 (by rw [hx]; decide) (by rw [hx]; decide) rfl (by decide) ?_
      refine wp_aload_n d_BB_count_52 rfl ?_
      refine wp_getR d_BB_count_53 f_BB_19 (by decide) rfl rfl ?_
      refine wz_getI (hA.2.1.np) d_BB_count_56 f_BB_99 (by decide) rfl rfl ?_
      exact wp_iret d_BB_count_59 (Or.inl rfl) (pX_of hA rfl)
    · refine wp_switchIn (off := 59) (tgt := 60) d_BB_count_1 (by rw [hx]; decide) (by rw [hx]; decide) rfl (by decide) ?_
      refine wp_aload_n d_BB_count_60 rfl ?_
      refine wp_getR d_BB_count_61 f_BB_26 (by decide) rfl rfl ?_
      refine wz_getI (hA.1.n) d_BB_count_64 f_BB_103 (by decide) rfl rfl ?_
      exact wp_iret d_BB_count_67 (Or.inl rfl) (pX_of hA rfl)
    · refine wp_switchIn (off := 67) (tgt := 68) d_BB_count_1 (by rw [hx]; decide) (by rw [hx]; decide) rfl (by decide) ?_
      refine wp_aload_n d_BB_count_68 rfl ?_
      refine wp_getR d_BB_count_69 f_BB_19 (by decide) rfl rfl ?_
      refine wz_getI (hA.2.1.nb) d_BB_count_72 f_BB_195 (by decide) rfl rfl ?_
      exact wp_iret d_BB_count_75 (Or.inl rfl) (pX_of hA rfl)
    · refine wp_switchIn (off := 75) (tgt := 76) d_BB_count_1 (by rw [hx]; decide) (by rw [hx]; decide) rfl (by decide) ?_
      refine wp_aload_n d_BB_count_76 rfl ?_
      refine wp_getR d_BB_count_77 f_BB_26 (by decide) rfl rfl ?_
      refine wp_callV (ct_PE_bribedOnes 0 ok hA.1) d_BB_count_80 k_BB_229 (by decide) rfl rfl rfl rfl (Nat.le_of_ble_eq_true rfl) (by omega) ?_
      rintro _ _ _ ⟨rfl, rfl, rfl⟩
      exact wp_iret d_BB_count_83 (Or.inl rfl) (pX_of hA rfl)
    · refine wp_switchIn (off := 83) (tgt := 84) d_BB_count_1 (by rw [hx]; decide) (by rw [hx]; decide) rfl (by decide) ?_
      refine wp_aload_n d_BB_count_84 rfl ?_
      refine wp_getR d_BB_count_85 f_BB_26 (by decide) rfl rfl ?_
      refine wz_getI (hA.1.late) d_BB_count_88 f_BB_137 (by decide) rfl rfl ?_
      exact wp_iret d_BB_count_91 (Or.inl rfl) (pX_of hA rfl)
    · refine wp_switchIn (off := 91) (tgt := 92) d_BB_count_1 (by rw [hx]; decide) (by rw [hx]; decide) rfl (by decide) ?_
      refine wp_aload_n d_BB_count_92 rfl ?_
      refine wp_getR d_BB_count_93 f_BB_26 (by decide) rfl rfl ?_
      refine wz_getI (hA.1.room) d_BB_count_96 f_BB_134 (by decide) rfl rfl ?_
      exact wp_iret d_BB_count_99 (Or.inl rfl) (pX_of hA rfl)
  · have hx : (zI a).toInt = a := zI_toInt ha
    refine wp_switchOut (tgt := 100) d_BB_count_1 (by rw [hx]; omega) (by decide) ?_
    refine wp_bipush (v := zI (-2)) d_BB_count_100 rfl ?_
    exact wp_iret d_BB_count_102 (Or.inl rfl) (pX_of hA (by rw [r_count, if_neg (by omega), if_neg (by omega), if_neg (by omega), if_neg (by omega), if_neg (by omega), if_neg (by omega), if_neg (by omega)]))
end CLASSA
end
