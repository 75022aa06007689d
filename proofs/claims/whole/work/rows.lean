section
-- ===== PART A: goes FIRST, ahead of the names: the tables' words, and 'selects' of the private methods out of them =====
/-- a private method of a class that the tables say can be made, by its rows of tables_1 -/
def lw_okq (q : MethodName × Nat) : Prop := (q.1.cls ≠ "java/lang/invoke/MethodHandle" ∧ q.1.cls ≠ "java/lang/invoke/VarHandle") ∧ Cond.instantiable q.1.cls q.2 ∈ tables_1 ∧ Cond.privateMethod q.1 ∈ tables_1 ∧ Cond.instanceMethod q.1 ∈ tables_1
theorem lw_p0 : lw_okq (⟨"RailPower$Line", "isAnyBeyond", "(I)Z"⟩, 6) := ⟨⟨by decide +kernel, by decide +kernel⟩, List.mem_of_getElem? (i := 21) (by decide +kernel), List.mem_of_getElem? (i := 309) (by decide +kernel), List.mem_of_getElem? (i := 310) (by decide +kernel)⟩
theorem lw_p1 : lw_okq (⟨"RailPower", "failed", "(I)I"⟩, 6) := ⟨⟨by decide +kernel, by decide +kernel⟩, List.mem_of_getElem? (i := 13) (by decide +kernel), List.mem_of_getElem? (i := 389) (by decide +kernel), List.mem_of_getElem? (i := 390) (by decide +kernel)⟩
theorem lw_p2 : lw_okq (⟨"RailPower", "mayRunBy", "(LRailPower$Sheet;II)Z"⟩, 6) := ⟨⟨by decide +kernel, by decide +kernel⟩, List.mem_of_getElem? (i := 13) (by decide +kernel), List.mem_of_getElem? (i := 393) (by decide +kernel), List.mem_of_getElem? (i := 394) (by decide +kernel)⟩
theorem lw_p3 : lw_okq (⟨"RailPower$Day", "takeLoads", "(I[I)Z"⟩, 13) := ⟨⟨by decide +kernel, by decide +kernel⟩, List.mem_of_getElem? (i := 105) (by decide +kernel), List.mem_of_getElem? (i := 432) (by decide +kernel), List.mem_of_getElem? (i := 433) (by decide +kernel)⟩
theorem lw_p4 : lw_okq (⟨"RailPower$Circuit", "pulledTogether", "()J"⟩, 12) := ⟨⟨by decide +kernel, by decide +kernel⟩, List.mem_of_getElem? (i := 130) (by decide +kernel), List.mem_of_getElem? (i := 453) (by decide +kernel), List.mem_of_getElem? (i := 454) (by decide +kernel)⟩
theorem lw_p5 : lw_okq (⟨"RailPower$Circuit", "weigh", "()V"⟩, 12) := ⟨⟨by decide +kernel, by decide +kernel⟩, List.mem_of_getElem? (i := 130) (by decide +kernel), List.mem_of_getElem? (i := 457) (by decide +kernel), List.mem_of_getElem? (i := 458) (by decide +kernel)⟩
theorem lw_p6 : lw_okq (⟨"RailPower$Circuit", "nextFeeding", "(I)I"⟩, 12) := ⟨⟨by decide +kernel, by decide +kernel⟩, List.mem_of_getElem? (i := 130) (by decide +kernel), List.mem_of_getElem? (i := 461) (by decide +kernel), List.mem_of_getElem? (i := 462) (by decide +kernel)⟩
theorem lw_p7 : lw_okq (⟨"RailPower$Circuit", "weighOne", "(III)V"⟩, 12) := ⟨⟨by decide +kernel, by decide +kernel⟩, List.mem_of_getElem? (i := 130) (by decide +kernel), List.mem_of_getElem? (i := 465) (by decide +kernel), List.mem_of_getElem? (i := 466) (by decide +kernel)⟩
theorem lw_p8 : lw_okq (⟨"RailPower$Circuit", "leaveOutTaking", "()Z"⟩, 12) := ⟨⟨by decide +kernel, by decide +kernel⟩, List.mem_of_getElem? (i := 130) (by decide +kernel), List.mem_of_getElem? (i := 472) (by decide +kernel), List.mem_of_getElem? (i := 473) (by decide +kernel)⟩
theorem lw_p9 : lw_okq (⟨"RailPower$Circuit", "leaveOutIdle", "()V"⟩, 12) := ⟨⟨by decide +kernel, by decide +kernel⟩, List.mem_of_getElem? (i := 130) (by decide +kernel), List.mem_of_getElem? (i := 476) (by decide +kernel), List.mem_of_getElem? (i := 477) (by decide +kernel)⟩
theorem lw_p10 : lw_okq (⟨"RailPower$Circuit", "highestIfAnyTooHigh", "()I"⟩, 12) := ⟨⟨by decide +kernel, by decide +kernel⟩, List.mem_of_getElem? (i := 130) (by decide +kernel), List.mem_of_getElem? (i := 480) (by decide +kernel), List.mem_of_getElem? (i := 481) (by decide +kernel)⟩
theorem lw_p11 : lw_okq (⟨"RailPower$Circuit", "givingBackMost", "()I"⟩, 12) := ⟨⟨by decide +kernel, by decide +kernel⟩, List.mem_of_getElem? (i := 130) (by decide +kernel), List.mem_of_getElem? (i := 484) (by decide +kernel), List.mem_of_getElem? (i := 485) (by decide +kernel)⟩
theorem lw_p12 : lw_okq (⟨"RailPower$Circuit", "lostBetween", "(III)J"⟩, 12) := ⟨⟨by decide +kernel, by decide +kernel⟩, List.mem_of_getElem? (i := 130) (by decide +kernel), List.mem_of_getElem? (i := 492) (by decide +kernel), List.mem_of_getElem? (i := 493) (by decide +kernel)⟩
theorem lw_p13 : lw_okq (⟨"RailPower$Circuit", "lostBeyond", "(II)J"⟩, 12) := ⟨⟨by decide +kernel, by decide +kernel⟩, List.mem_of_getElem? (i := 130) (by decide +kernel), List.mem_of_getElem? (i := 499) (by decide +kernel), List.mem_of_getElem? (i := 500) (by decide +kernel)⟩
theorem lw_p14 : lw_okq (⟨"RailPower$Day", "sinkToLowest", "(IZ)V"⟩, 13) := ⟨⟨by decide +kernel, by decide +kernel⟩, List.mem_of_getElem? (i := 105) (by decide +kernel), List.mem_of_getElem? (i := 562) (by decide +kernel), List.mem_of_getElem? (i := 563) (by decide +kernel)⟩
theorem lw_p15 : lw_okq (⟨"RailPower$Day", "someTrips", "()Z"⟩, 13) := ⟨⟨by decide +kernel, by decide +kernel⟩, List.mem_of_getElem? (i := 105) (by decide +kernel), List.mem_of_getElem? (i := 615) (by decide +kernel), List.mem_of_getElem? (i := 616) (by decide +kernel)⟩
def lw_privs_1 : List (MethodName × Nat) := [(⟨"RailPower$Line", "isAnyBeyond", "(I)Z"⟩, 6), (⟨"RailPower", "failed", "(I)I"⟩, 6), (⟨"RailPower", "mayRunBy", "(LRailPower$Sheet;II)Z"⟩, 6), (⟨"RailPower$Day", "takeLoads", "(I[I)Z"⟩, 13), (⟨"RailPower$Circuit", "pulledTogether", "()J"⟩, 12), (⟨"RailPower$Circuit", "weigh", "()V"⟩, 12), (⟨"RailPower$Circuit", "nextFeeding", "(I)I"⟩, 12), (⟨"RailPower$Circuit", "weighOne", "(III)V"⟩, 12), (⟨"RailPower$Circuit", "leaveOutTaking", "()Z"⟩, 12), (⟨"RailPower$Circuit", "leaveOutIdle", "()V"⟩, 12), (⟨"RailPower$Circuit", "highestIfAnyTooHigh", "()I"⟩, 12), (⟨"RailPower$Circuit", "givingBackMost", "()I"⟩, 12), (⟨"RailPower$Circuit", "lostBetween", "(III)J"⟩, 12), (⟨"RailPower$Circuit", "lostBeyond", "(II)J"⟩, 12), (⟨"RailPower$Day", "sinkToLowest", "(IZ)V"⟩, 13), (⟨"RailPower$Day", "someTrips", "()Z"⟩, 13)]
theorem lw_r1 : ∀ q ∈ lw_privs_1, lw_okq q := List.forall_mem_cons.mpr ⟨lw_p0, List.forall_mem_cons.mpr ⟨lw_p1, List.forall_mem_cons.mpr ⟨lw_p2, List.forall_mem_cons.mpr ⟨lw_p3, List.forall_mem_cons.mpr ⟨lw_p4, List.forall_mem_cons.mpr ⟨lw_p5, List.forall_mem_cons.mpr ⟨lw_p6, List.forall_mem_cons.mpr ⟨lw_p7, List.forall_mem_cons.mpr ⟨lw_p8, List.forall_mem_cons.mpr ⟨lw_p9, List.forall_mem_cons.mpr ⟨lw_p10, List.forall_mem_cons.mpr ⟨lw_p11, List.forall_mem_cons.mpr ⟨lw_p12, List.forall_mem_cons.mpr ⟨lw_p13, List.forall_mem_cons.mpr ⟨lw_p14, List.forall_mem_cons.mpr ⟨lw_p15, fun _ h => absurd h List.not_mem_nil⟩⟩⟩⟩⟩⟩⟩⟩⟩⟩⟩⟩⟩⟩⟩⟩
theorem lw_p16 : lw_okq (⟨"RailPower$Day", "spread", "(II)V"⟩, 13) := ⟨⟨by decide +kernel, by decide +kernel⟩, List.mem_of_getElem? (i := 105) (by decide +kernel), List.mem_of_getElem? (i := 633) (by decide +kernel), List.mem_of_getElem? (i := 634) (by decide +kernel)⟩
theorem lw_p17 : lw_okq (⟨"RailPower", "tellWorks", "(LRailPower$Station;)I"⟩, 6) := ⟨⟨by decide +kernel, by decide +kernel⟩, List.mem_of_getElem? (i := 13) (by decide +kernel), List.mem_of_getElem? (i := 700) (by decide +kernel), List.mem_of_getElem? (i := 701) (by decide +kernel)⟩
theorem lw_p18 : lw_okq (⟨"RailPower", "leaveTrace", "(I)V"⟩, 6) := ⟨⟨by decide +kernel, by decide +kernel⟩, List.mem_of_getElem? (i := 13) (by decide +kernel), List.mem_of_getElem? (i := 704) (by decide +kernel), List.mem_of_getElem? (i := 705) (by decide +kernel)⟩
theorem lw_p19 : lw_okq (⟨"RailPower", "tellHouse", "(LRailPower$Station;)I"⟩, 6) := ⟨⟨by decide +kernel, by decide +kernel⟩, List.mem_of_getElem? (i := 13) (by decide +kernel), List.mem_of_getElem? (i := 708) (by decide +kernel), List.mem_of_getElem? (i := 709) (by decide +kernel)⟩
theorem lw_p20 : lw_okq (⟨"RailPower", "tellPost", "(LRailPower$Station;)I"⟩, 6) := ⟨⟨by decide +kernel, by decide +kernel⟩, List.mem_of_getElem? (i := 13) (by decide +kernel), List.mem_of_getElem? (i := 712) (by decide +kernel), List.mem_of_getElem? (i := 713) (by decide +kernel)⟩
theorem lw_p21 : lw_okq (⟨"RailPowerModel", "isAgainst", "(II)Z"⟩, 36) := ⟨⟨by decide +kernel, by decide +kernel⟩, List.mem_of_getElem? (i := 741) (by decide +kernel), List.mem_of_getElem? (i := 869) (by decide +kernel), List.mem_of_getElem? (i := 870) (by decide +kernel)⟩
theorem lw_p22 : lw_okq (⟨"RailPowerModel", "isBeyond", "(I)Z"⟩, 36) := ⟨⟨by decide +kernel, by decide +kernel⟩, List.mem_of_getElem? (i := 741) (by decide +kernel), List.mem_of_getElem? (i := 873) (by decide +kernel), List.mem_of_getElem? (i := 874) (by decide +kernel)⟩
theorem lw_p23 : lw_okq (⟨"RailPowerModel", "isPlace", "(I)Z"⟩, 36) := ⟨⟨by decide +kernel, by decide +kernel⟩, List.mem_of_getElem? (i := 741) (by decide +kernel), List.mem_of_getElem? (i := 881) (by decide +kernel), List.mem_of_getElem? (i := 882) (by decide +kernel)⟩
theorem lw_p24 : lw_okq (⟨"RailPowerModel", "isTaken", "(I)Z"⟩, 36) := ⟨⟨by decide +kernel, by decide +kernel⟩, List.mem_of_getElem? (i := 741) (by decide +kernel), List.mem_of_getElem? (i := 885) (by decide +kernel), List.mem_of_getElem? (i := 886) (by decide +kernel)⟩
theorem lw_p25 : lw_okq (⟨"RailPowerModel", "isStation", "(I)Z"⟩, 36) := ⟨⟨by decide +kernel, by decide +kernel⟩, List.mem_of_getElem? (i := 741) (by decide +kernel), List.mem_of_getElem? (i := 893) (by decide +kernel), List.mem_of_getElem? (i := 894) (by decide +kernel)⟩
theorem lw_p26 : lw_okq (⟨"RailPowerModel", "isTrain", "(I)Z"⟩, 36) := ⟨⟨by decide +kernel, by decide +kernel⟩, List.mem_of_getElem? (i := 741) (by decide +kernel), List.mem_of_getElem? (i := 914) (by decide +kernel), List.mem_of_getElem? (i := 915) (by decide +kernel)⟩
theorem lw_p27 : lw_okq (⟨"RailPowerModel", "mayRun", "(II)Z"⟩, 36) := ⟨⟨by decide +kernel, by decide +kernel⟩, List.mem_of_getElem? (i := 741) (by decide +kernel), List.mem_of_getElem? (i := 921) (by decide +kernel), List.mem_of_getElem? (i := 922) (by decide +kernel)⟩
theorem lw_p28 : lw_okq (⟨"RailPowerModel", "lay", "(IIII)V"⟩, 36) := ⟨⟨by decide +kernel, by decide +kernel⟩, List.mem_of_getElem? (i := 741) (by decide +kernel), List.mem_of_getElem? (i := 925) (by decide +kernel), List.mem_of_getElem? (i := 926) (by decide +kernel)⟩
theorem lw_p29 : lw_okq (⟨"RailPowerModel", "fails", "(I)I"⟩, 36) := ⟨⟨by decide +kernel, by decide +kernel⟩, List.mem_of_getElem? (i := 741) (by decide +kernel), List.mem_of_getElem? (i := 939) (by decide +kernel), List.mem_of_getElem? (i := 940) (by decide +kernel)⟩
theorem lw_p30 : lw_okq (⟨"RailPowerModel", "placeOf", "(II)I"⟩, 36) := ⟨⟨by decide +kernel, by decide +kernel⟩, List.mem_of_getElem? (i := 741) (by decide +kernel), List.mem_of_getElem? (i := 952) (by decide +kernel), List.mem_of_getElem? (i := 953) (by decide +kernel)⟩
theorem lw_p31 : lw_okq (⟨"RailPowerModel", "amperesOf", "(II)I"⟩, 36) := ⟨⟨by decide +kernel, by decide +kernel⟩, List.mem_of_getElem? (i := 741) (by decide +kernel), List.mem_of_getElem? (i := 956) (by decide +kernel), List.mem_of_getElem? (i := 957) (by decide +kernel)⟩
def lw_privs_2 : List (MethodName × Nat) := [(⟨"RailPower$Day", "spread", "(II)V"⟩, 13), (⟨"RailPower", "tellWorks", "(LRailPower$Station;)I"⟩, 6), (⟨"RailPower", "leaveTrace", "(I)V"⟩, 6), (⟨"RailPower", "tellHouse", "(LRailPower$Station;)I"⟩, 6), (⟨"RailPower", "tellPost", "(LRailPower$Station;)I"⟩, 6), (⟨"RailPowerModel", "isAgainst", "(II)Z"⟩, 36), (⟨"RailPowerModel", "isBeyond", "(I)Z"⟩, 36), (⟨"RailPowerModel", "isPlace", "(I)Z"⟩, 36), (⟨"RailPowerModel", "isTaken", "(I)Z"⟩, 36), (⟨"RailPowerModel", "isStation", "(I)Z"⟩, 36), (⟨"RailPowerModel", "isTrain", "(I)Z"⟩, 36), (⟨"RailPowerModel", "mayRun", "(II)Z"⟩, 36), (⟨"RailPowerModel", "lay", "(IIII)V"⟩, 36), (⟨"RailPowerModel", "fails", "(I)I"⟩, 36), (⟨"RailPowerModel", "placeOf", "(II)I"⟩, 36), (⟨"RailPowerModel", "amperesOf", "(II)I"⟩, 36)]
theorem lw_r2 : ∀ q ∈ lw_privs_2, lw_okq q := List.forall_mem_cons.mpr ⟨lw_p16, List.forall_mem_cons.mpr ⟨lw_p17, List.forall_mem_cons.mpr ⟨lw_p18, List.forall_mem_cons.mpr ⟨lw_p19, List.forall_mem_cons.mpr ⟨lw_p20, List.forall_mem_cons.mpr ⟨lw_p21, List.forall_mem_cons.mpr ⟨lw_p22, List.forall_mem_cons.mpr ⟨lw_p23, List.forall_mem_cons.mpr ⟨lw_p24, List.forall_mem_cons.mpr ⟨lw_p25, List.forall_mem_cons.mpr ⟨lw_p26, List.forall_mem_cons.mpr ⟨lw_p27, List.forall_mem_cons.mpr ⟨lw_p28, List.forall_mem_cons.mpr ⟨lw_p29, List.forall_mem_cons.mpr ⟨lw_p30, List.forall_mem_cons.mpr ⟨lw_p31, fun _ h => absurd h List.not_mem_nil⟩⟩⟩⟩⟩⟩⟩⟩⟩⟩⟩⟩⟩⟩⟩⟩
theorem lw_p32 : lw_okq (⟨"RailPowerModel", "isDark", "()Z"⟩, 36) := ⟨⟨by decide +kernel, by decide +kernel⟩, List.mem_of_getElem? (i := 741) (by decide +kernel), List.mem_of_getElem? (i := 960) (by decide +kernel), List.mem_of_getElem? (i := 961) (by decide +kernel)⟩
theorem lw_p33 : lw_okq (⟨"RailPowerModel", "isIn", "()I"⟩, 36) := ⟨⟨by decide +kernel, by decide +kernel⟩, List.mem_of_getElem? (i := 741) (by decide +kernel), List.mem_of_getElem? (i := 964) (by decide +kernel), List.mem_of_getElem? (i := 965) (by decide +kernel)⟩
theorem lw_p34 : lw_okq (⟨"RailPowerModel", "solve", "(I)V"⟩, 36) := ⟨⟨by decide +kernel, by decide +kernel⟩, List.mem_of_getElem? (i := 741) (by decide +kernel), List.mem_of_getElem? (i := 968) (by decide +kernel), List.mem_of_getElem? (i := 969) (by decide +kernel)⟩
theorem lw_p35 : lw_okq (⟨"RailPowerModel", "layLoads", "(I)V"⟩, 36) := ⟨⟨by decide +kernel, by decide +kernel⟩, List.mem_of_getElem? (i := 741) (by decide +kernel), List.mem_of_getElem? (i := 972) (by decide +kernel), List.mem_of_getElem? (i := 973) (by decide +kernel)⟩
theorem lw_p36 : lw_okq (⟨"RailPowerModel", "findFeeding", "()I"⟩, 36) := ⟨⟨by decide +kernel, by decide +kernel⟩, List.mem_of_getElem? (i := 741) (by decide +kernel), List.mem_of_getElem? (i := 976) (by decide +kernel), List.mem_of_getElem? (i := 977) (by decide +kernel)⟩
theorem lw_p37 : lw_okq (⟨"RailPowerModel", "doesFeed", "(II)Z"⟩, 36) := ⟨⟨by decide +kernel, by decide +kernel⟩, List.mem_of_getElem? (i := 741) (by decide +kernel), List.mem_of_getElem? (i := 980) (by decide +kernel), List.mem_of_getElem? (i := 981) (by decide +kernel)⟩
theorem lw_p38 : lw_okq (⟨"RailPowerModel", "findGiven", "(II)V"⟩, 36) := ⟨⟨by decide +kernel, by decide +kernel⟩, List.mem_of_getElem? (i := 741) (by decide +kernel), List.mem_of_getElem? (i := 984) (by decide +kernel), List.mem_of_getElem? (i := 985) (by decide +kernel)⟩
theorem lw_p39 : lw_okq (⟨"RailPowerModel", "neighbour", "(IIZ)I"⟩, 36) := ⟨⟨by decide +kernel, by decide +kernel⟩, List.mem_of_getElem? (i := 741) (by decide +kernel), List.mem_of_getElem? (i := 988) (by decide +kernel), List.mem_of_getElem? (i := 989) (by decide +kernel)⟩
theorem lw_p40 : lw_okq (⟨"RailPowerModel", "findVolts", "(II)V"⟩, 36) := ⟨⟨by decide +kernel, by decide +kernel⟩, List.mem_of_getElem? (i := 741) (by decide +kernel), List.mem_of_getElem? (i := 995) (by decide +kernel), List.mem_of_getElem? (i := 996) (by decide +kernel)⟩
theorem lw_p41 : lw_okq (⟨"RailPowerModel", "isTooHigh", "()Z"⟩, 36) := ⟨⟨by decide +kernel, by decide +kernel⟩, List.mem_of_getElem? (i := 741) (by decide +kernel), List.mem_of_getElem? (i := 1000) (by decide +kernel), List.mem_of_getElem? (i := 1001) (by decide +kernel)⟩
theorem lw_p42 : lw_okq (⟨"RailPowerModel", "nextBack", "()I"⟩, 36) := ⟨⟨by decide +kernel, by decide +kernel⟩, List.mem_of_getElem? (i := 741) (by decide +kernel), List.mem_of_getElem? (i := 1004) (by decide +kernel), List.mem_of_getElem? (i := 1005) (by decide +kernel)⟩
theorem lw_p43 : lw_okq (⟨"RailPowerModel", "part", "(I)J"⟩, 36) := ⟨⟨by decide +kernel, by decide +kernel⟩, List.mem_of_getElem? (i := 741) (by decide +kernel), List.mem_of_getElem? (i := 1017) (by decide +kernel), List.mem_of_getElem? (i := 1018) (by decide +kernel)⟩
theorem lw_p44 : lw_okq (⟨"RailPowerModel", "findLowest", "()V"⟩, 36) := ⟨⟨by decide +kernel, by decide +kernel⟩, List.mem_of_getElem? (i := 741) (by decide +kernel), List.mem_of_getElem? (i := 1029) (by decide +kernel), List.mem_of_getElem? (i := 1030) (by decide +kernel)⟩
theorem lw_p45 : lw_okq (⟨"RailPowerModel", "isSafe", "()Z"⟩, 36) := ⟨⟨by decide +kernel, by decide +kernel⟩, List.mem_of_getElem? (i := 741) (by decide +kernel), List.mem_of_getElem? (i := 1037) (by decide +kernel), List.mem_of_getElem? (i := 1038) (by decide +kernel)⟩
theorem lw_p46 : lw_okq (⟨"RailPowerModel", "findMost", "()V"⟩, 36) := ⟨⟨by decide +kernel, by decide +kernel⟩, List.mem_of_getElem? (i := 741) (by decide +kernel), List.mem_of_getElem? (i := 1049) (by decide +kernel), List.mem_of_getElem? (i := 1050) (by decide +kernel)⟩
theorem lw_p47 : lw_okq (⟨"RailPowerModel", "layFault", "(II)V"⟩, 36) := ⟨⟨by decide +kernel, by decide +kernel⟩, List.mem_of_getElem? (i := 741) (by decide +kernel), List.mem_of_getElem? (i := 1057) (by decide +kernel), List.mem_of_getElem? (i := 1058) (by decide +kernel)⟩
def lw_privs_3 : List (MethodName × Nat) := [(⟨"RailPowerModel", "isDark", "()Z"⟩, 36), (⟨"RailPowerModel", "isIn", "()I"⟩, 36), (⟨"RailPowerModel", "solve", "(I)V"⟩, 36), (⟨"RailPowerModel", "layLoads", "(I)V"⟩, 36), (⟨"RailPowerModel", "findFeeding", "()I"⟩, 36), (⟨"RailPowerModel", "doesFeed", "(II)Z"⟩, 36), (⟨"RailPowerModel", "findGiven", "(II)V"⟩, 36), (⟨"RailPowerModel", "neighbour", "(IIZ)I"⟩, 36), (⟨"RailPowerModel", "findVolts", "(II)V"⟩, 36), (⟨"RailPowerModel", "isTooHigh", "()Z"⟩, 36), (⟨"RailPowerModel", "nextBack", "()I"⟩, 36), (⟨"RailPowerModel", "part", "(I)J"⟩, 36), (⟨"RailPowerModel", "findLowest", "()V"⟩, 36), (⟨"RailPowerModel", "isSafe", "()Z"⟩, 36), (⟨"RailPowerModel", "findMost", "()V"⟩, 36), (⟨"RailPowerModel", "layFault", "(II)V"⟩, 36)]
theorem lw_r3 : ∀ q ∈ lw_privs_3, lw_okq q := List.forall_mem_cons.mpr ⟨lw_p32, List.forall_mem_cons.mpr ⟨lw_p33, List.forall_mem_cons.mpr ⟨lw_p34, List.forall_mem_cons.mpr ⟨lw_p35, List.forall_mem_cons.mpr ⟨lw_p36, List.forall_mem_cons.mpr ⟨lw_p37, List.forall_mem_cons.mpr ⟨lw_p38, List.forall_mem_cons.mpr ⟨lw_p39, List.forall_mem_cons.mpr ⟨lw_p40, List.forall_mem_cons.mpr ⟨lw_p41, List.forall_mem_cons.mpr ⟨lw_p42, List.forall_mem_cons.mpr ⟨lw_p43, List.forall_mem_cons.mpr ⟨lw_p44, List.forall_mem_cons.mpr ⟨lw_p45, List.forall_mem_cons.mpr ⟨lw_p46, List.forall_mem_cons.mpr ⟨lw_p47, fun _ h => absurd h List.not_mem_nil⟩⟩⟩⟩⟩⟩⟩⟩⟩⟩⟩⟩⟩⟩⟩⟩
theorem lw_p48 : lw_okq (⟨"RailPowerModel", "isTripped", "()Z"⟩, 36) := ⟨⟨by decide +kernel, by decide +kernel⟩, List.mem_of_getElem? (i := 741) (by decide +kernel), List.mem_of_getElem? (i := 1065) (by decide +kernel), List.mem_of_getElem? (i := 1066) (by decide +kernel)⟩
theorem lw_p49 : lw_okq (⟨"RailPowerModel", "findPeak", "(I)V"⟩, 36) := ⟨⟨by decide +kernel, by decide +kernel⟩, List.mem_of_getElem? (i := 741) (by decide +kernel), List.mem_of_getElem? (i := 1073) (by decide +kernel), List.mem_of_getElem? (i := 1074) (by decide +kernel)⟩
theorem lw_p50 : lw_okq (⟨"RailPowerModel", "isAnyThere", "()Z"⟩, 36) := ⟨⟨by decide +kernel, by decide +kernel⟩, List.mem_of_getElem? (i := 741) (by decide +kernel), List.mem_of_getElem? (i := 1090) (by decide +kernel), List.mem_of_getElem? (i := 1091) (by decide +kernel)⟩
theorem lw_p51 : lw_okq (⟨"RailPowerModel", "ticksThere", "()I"⟩, 36) := ⟨⟨by decide +kernel, by decide +kernel⟩, List.mem_of_getElem? (i := 741) (by decide +kernel), List.mem_of_getElem? (i := 1094) (by decide +kernel), List.mem_of_getElem? (i := 1095) (by decide +kernel)⟩
theorem lw_p52 : lw_okq (⟨"RailPowerModel", "lost", "(I)J"⟩, 36) := ⟨⟨by decide +kernel, by decide +kernel⟩, List.mem_of_getElem? (i := 741) (by decide +kernel), List.mem_of_getElem? (i := 1114) (by decide +kernel), List.mem_of_getElem? (i := 1115) (by decide +kernel)⟩
theorem lw_p53 : lw_okq (⟨"RailPowerModel", "begins", "(I)V"⟩, 36) := ⟨⟨by decide +kernel, by decide +kernel⟩, List.mem_of_getElem? (i := 741) (by decide +kernel), List.mem_of_getElem? (i := 1122) (by decide +kernel), List.mem_of_getElem? (i := 1123) (by decide +kernel)⟩
def lw_privs_4 : List (MethodName × Nat) := [(⟨"RailPowerModel", "isTripped", "()Z"⟩, 36), (⟨"RailPowerModel", "findPeak", "(I)V"⟩, 36), (⟨"RailPowerModel", "isAnyThere", "()Z"⟩, 36), (⟨"RailPowerModel", "ticksThere", "()I"⟩, 36), (⟨"RailPowerModel", "lost", "(I)J"⟩, 36), (⟨"RailPowerModel", "begins", "(I)V"⟩, 36)]
theorem lw_r4 : ∀ q ∈ lw_privs_4, lw_okq q := List.forall_mem_cons.mpr ⟨lw_p48, List.forall_mem_cons.mpr ⟨lw_p49, List.forall_mem_cons.mpr ⟨lw_p50, List.forall_mem_cons.mpr ⟨lw_p51, List.forall_mem_cons.mpr ⟨lw_p52, List.forall_mem_cons.mpr ⟨lw_p53, fun _ h => absurd h List.not_mem_nil⟩⟩⟩⟩⟩⟩
def lw_privs : List (MethodName × Nat) := lw_privs_1 ++ (lw_privs_2 ++ (lw_privs_3 ++ (lw_privs_4)))
def lw_tbl : List Cond := k2_sels lw_privs ++ tables_1
theorem lw_privs_ok : ∀ q ∈ lw_privs, lw_okq q := by
  show ∀ q ∈ lw_privs_1 ++ (lw_privs_2 ++ (lw_privs_3 ++ (lw_privs_4))), lw_okq q
  exact List.forall_mem_append.mpr ⟨lw_r1, List.forall_mem_append.mpr ⟨lw_r2, List.forall_mem_append.mpr ⟨lw_r3, lw_r4⟩⟩⟩
def RX0 : String := "RailPower$Circuit"
def TX0 : u_T := fun k => match k with
  | 0 => ("RailPower$Circuit", "numbers", "[I", true)
  | 1 => ("RailPower$Circuit", "places", "[I", true)
  | 2 => ("RailPower$Circuit", "feeding", "[Z", true)
  | 3 => ("RailPower$Circuit", "upper", "[J", true)
  | 4 => ("RailPower$Circuit", "lower", "[J", true)
  | 5 => ("RailPower$Circuit", "count", "I", false)
  | 6 => ("RailPower$Circuit", "there", "[Z", true)
  | 7 => ("RailPower$Circuit", "loaded", "[I", true)
  | 8 => ("RailPower$Circuit", "amperes", "[I", true)
  | 9 => ("RailPower$Circuit", "rules", "[I", true)
  | 10 => ("RailPower$Circuit", "here", "LRailPower$Share;", true)
  | _ => ("RailPower$Circuit", "highest", "LRailPower$Share;", true)
def tyX0 : Nat → FieldType := fun k => match k with
  | 0 => .array .int
  | 1 => .array .int
  | 2 => .array .boolean
  | 3 => .array .long
  | 4 => .array .long
  | 5 => .int
  | 6 => .array .boolean
  | 7 => .array .int
  | 8 => .array .int
  | 9 => .array .int
  | 10 => .object "RailPower$Share"
  | _ => .object "RailPower$Share"
abbrev wsX00 : List Cond := u_ws RX0 TX0 12
theorem nmX0 : ∀ a, a < 12 → ∀ b, b < 12 → a ≠ b → (TX0 a).2.1 ≠ (TX0 b).2.1 := by decide +kernel
theorem tyX0_ok : ∀ k, k < 12 → parseFieldDescriptor (TX0 k).2.2.1 = some (tyX0 k) := by decide +kernel
abbrev cX0_init : ByteArray := prog_2_method_1_code
def yX0_init : MethodName := ⟨RX0, "<init>", "([I)V"⟩
abbrev cX0_clearStations : ByteArray := prog_2_method_2_code
def yX0_clearStations : MethodName := ⟨RX0, "clearStations", "()V"⟩
abbrev cX0_addStation : ByteArray := prog_2_method_3_code
def yX0_addStation : MethodName := ⟨RX0, "addStation", "(II)V"⟩
abbrev cX0_clearLoads : ByteArray := prog_2_method_4_code
def yX0_clearLoads : MethodName := ⟨RX0, "clearLoads", "()V"⟩
abbrev cX0_addLoad : ByteArray := prog_2_method_5_code
def yX0_addLoad : MethodName := ⟨RX0, "addLoad", "(III)V"⟩
abbrev cX0_settle : ByteArray := prog_2_method_6_code
def yX0_settle : MethodName := ⟨RX0, "settle", "()V"⟩
abbrev cX0_findFeeding : ByteArray := prog_2_method_7_code
def yX0_findFeeding : MethodName := ⟨RX0, "findFeeding", "()Z"⟩
abbrev cX0_bits : ByteArray := prog_2_method_8_code
def yX0_bits : MethodName := ⟨RX0, "bits", "()I"⟩
abbrev cX0_givenBy : ByteArray := prog_2_method_9_code
def yX0_givenBy : MethodName := ⟨RX0, "givenBy", "(ILRailPower$Share;)V"⟩
abbrev cX0_raiseToMost : ByteArray := prog_2_method_10_code
def yX0_raiseToMost : MethodName := ⟨RX0, "raiseToMost", "(LRailPower$Share;)V"⟩
abbrev cX0_voltsAt : ByteArray := prog_2_method_11_code
def yX0_voltsAt : MethodName := ⟨RX0, "voltsAt", "(ILRailPower$Share;)V"⟩
abbrev cX0_lostBetween : ByteArray := prog_2_method_12_code
def yX0_lostBetween : MethodName := ⟨RX0, "lostBetween", "(III)J"⟩
abbrev cX0_lostBeyond : ByteArray := prog_2_method_13_code
def yX0_lostBeyond : MethodName := ⟨RX0, "lostBeyond", "(II)J"⟩
abbrev cX0_pulledTogether : ByteArray := prog_2_method_14_code
def yX0_pulledTogether : MethodName := ⟨RX0, "pulledTogether", "()J"⟩
abbrev cX0_weigh : ByteArray := prog_2_method_15_code
def yX0_weigh : MethodName := ⟨RX0, "weigh", "()V"⟩
abbrev cX0_nextFeeding : ByteArray := prog_2_method_16_code
def yX0_nextFeeding : MethodName := ⟨RX0, "nextFeeding", "(I)I"⟩
abbrev cX0_weighOne : ByteArray := prog_2_method_17_code
def yX0_weighOne : MethodName := ⟨RX0, "weighOne", "(III)V"⟩
abbrev cX0_leaveOutTaking : ByteArray := prog_2_method_18_code
def yX0_leaveOutTaking : MethodName := ⟨RX0, "leaveOutTaking", "()Z"⟩
abbrev cX0_leaveOutIdle : ByteArray := prog_2_method_19_code
def yX0_leaveOutIdle : MethodName := ⟨RX0, "leaveOutIdle", "()V"⟩
abbrev cX0_givingBackMost : ByteArray := prog_2_method_20_code
def yX0_givingBackMost : MethodName := ⟨RX0, "givingBackMost", "()I"⟩
abbrev cX0_highestIfAnyTooHigh : ByteArray := prog_2_method_21_code
def yX0_highestIfAnyTooHigh : MethodName := ⟨RX0, "highestIfAnyTooHigh", "()I"⟩
def RX1 : String := "RailPower$Day"
def TX1 : u_T := fun k => match k with
  | 0 => ("RailPower$Day", "circuit", "LRailPower$Circuit;", true)
  | 1 => ("RailPower$Day", "low", "LRailPower$Share;", true)
  | 2 => ("RailPower$Day", "lowTick", "I", false)
  | 3 => ("RailPower$Day", "lowTrain", "I", false)
  | 4 => ("RailPower$Day", "high", "LRailPower$Share;", true)
  | 5 => ("RailPower$Day", "peaks", "[LRailPower$Peak;", true)
  | 6 => ("RailPower$Day", "best", "LRailPower$Share;", true)
  | 7 => ("RailPower$Day", "bestPlace", "I", false)
  | 8 => ("RailPower$Day", "bestKnown", "Z", false)
  | 9 => ("RailPower$Day", "line", "LRailPower$Line;", true)
  | 10 => ("RailPower$Day", "here", "LRailPower$Share;", true)
  | 11 => ("RailPower$Day", "bar", "LRailPower$Share;", true)
  | _ => ("RailPower$Day", "trial", "[I", true)
def tyX1 : Nat → FieldType := fun k => match k with
  | 0 => .object "RailPower$Circuit"
  | 1 => .object "RailPower$Share"
  | 2 => .int
  | 3 => .int
  | 4 => .object "RailPower$Share"
  | 5 => .array (.object "RailPower$Peak")
  | 6 => .object "RailPower$Share"
  | 7 => .int
  | 8 => .boolean
  | 9 => .object "RailPower$Line"
  | 10 => .object "RailPower$Share"
  | 11 => .object "RailPower$Share"
  | _ => .array .int
abbrev wsX10 : List Cond := u_ws RX1 TX1 13
theorem nmX1 : ∀ a, a < 13 → ∀ b, b < 13 → a ≠ b → (TX1 a).2.1 ≠ (TX1 b).2.1 := by decide +kernel
theorem tyX1_ok : ∀ k, k < 13 → parseFieldDescriptor (TX1 k).2.2.1 = some (tyX1 k) := by decide +kernel
abbrev cX1_init : ByteArray := prog_3_method_1_code
def yX1_init : MethodName := ⟨RX1, "<init>", "(LRailPower$Line;)V"⟩
abbrev cX1_forget : ByteArray := prog_3_method_2_code
def yX1_forget : MethodName := ⟨RX1, "forget", "()V"⟩
abbrev cX1_takeStations : ByteArray := prog_3_method_3_code
def yX1_takeStations : MethodName := ⟨RX1, "takeStations", "(I)V"⟩
abbrev cX1_solve : ByteArray := prog_3_method_4_code
def yX1_solve : MethodName := ⟨RX1, "solve", "(I)V"⟩
abbrev cX1_takeLoads : ByteArray := prog_3_method_5_code
def yX1_takeLoads : MethodName := ⟨RX1, "takeLoads", "(I[I)Z"⟩
abbrev cX1_busyTicks : ByteArray := prog_3_method_6_code
def yX1_busyTicks : MethodName := ⟨RX1, "busyTicks", "()I"⟩
abbrev cX1_findLowest : ByteArray := prog_3_method_7_code
def yX1_findLowest : MethodName := ⟨RX1, "findLowest", "(JJ)Z"⟩
abbrev cX1_sinkToLowest : ByteArray := prog_3_method_8_code
def yX1_sinkToLowest : MethodName := ⟨RX1, "sinkToLowest", "(IZ)V"⟩
abbrev cX1_isSafeWithout : ByteArray := prog_3_method_9_code
def yX1_isSafeWithout : MethodName := ⟨RX1, "isSafeWithout", "(I)Z"⟩
abbrev cX1_findMost : ByteArray := prog_3_method_10_code
def yX1_findMost : MethodName := ⟨RX1, "findMost", "([IJJ)V"⟩
abbrev cX1_feedFault : ByteArray := prog_3_method_11_code
def yX1_feedFault : MethodName := ⟨RX1, "feedFault", "(II)V"⟩
abbrev cX1_trainsTrip : ByteArray := prog_3_method_12_code
def yX1_trainsTrip : MethodName := ⟨RX1, "trainsTrip", "()Z"⟩
abbrev cX1_partsAll : ByteArray := prog_3_method_13_code
def yX1_partsAll : MethodName := ⟨RX1, "partsAll", "(I)Z"⟩
abbrev cX1_someTrips : ByteArray := prog_3_method_14_code
def yX1_someTrips : MethodName := ⟨RX1, "someTrips", "()Z"⟩
abbrev cX1_findPeak : ByteArray := prog_3_method_15_code
def yX1_findPeak : MethodName := ⟨RX1, "findPeak", "(ILRailPower$Peak;)V"⟩
abbrev cX1_spread : ByteArray := prog_3_method_16_code
def yX1_spread : MethodName := ⟨RX1, "spread", "(II)V"⟩
abbrev cX1_usedBy : ByteArray := prog_3_method_17_code
def yX1_usedBy : MethodName := ⟨RX1, "usedBy", "(I)J"⟩
abbrev cX1_givenBy : ByteArray := prog_3_method_18_code
def yX1_givenBy : MethodName := ⟨RX1, "givenBy", "(I)J"⟩
abbrev cX1_findBest : ByteArray := prog_3_method_19_code
def yX1_findBest : MethodName := ⟨RX1, "findBest", "()V"⟩
def RX2 : String := "RailPower$Line"
def TX2 : u_T := fun k => match k with
  | 0 => ("RailPower$Line", "rules", "[I", true)
  | 1 => ("RailPower$Line", "stations", "[LRailPower$Station;", true)
  | 2 => ("RailPower$Line", "trains", "[LRailPower$Train;", true)
  | 3 => ("RailPower$Line", "off", "[I", true)
  | 4 => ("RailPower$Line", "stationCount", "I", false)
  | _ => ("RailPower$Line", "trainCount", "I", false)
def tyX2 : Nat → FieldType := fun k => match k with
  | 0 => .array .int
  | 1 => .array (.object "RailPower$Station")
  | 2 => .array (.object "RailPower$Train")
  | 3 => .array .int
  | 4 => .int
  | _ => .int
abbrev wsX20 : List Cond := u_ws RX2 TX2 6
theorem nmX2 : ∀ a, a < 6 → ∀ b, b < 6 → a ≠ b → (TX2 a).2.1 ≠ (TX2 b).2.1 := by decide +kernel
theorem tyX2_ok : ∀ k, k < 6 → parseFieldDescriptor (TX2 k).2.2.1 = some (tyX2 k) := by decide +kernel
abbrev cX2_init : ByteArray := prog_4_method_1_code
def yX2_init : MethodName := ⟨RX2, "<init>", "()V"⟩
abbrev cX2_hasStation : ByteArray := prog_4_method_2_code
def yX2_hasStation : MethodName := ⟨RX2, "hasStation", "(I)Z"⟩
abbrev cX2_hasTrain : ByteArray := prog_4_method_3_code
def yX2_hasTrain : MethodName := ⟨RX2, "hasTrain", "(I)Z"⟩
abbrev cX2_hasPlace : ByteArray := prog_4_method_4_code
def yX2_hasPlace : MethodName := ⟨RX2, "hasPlace", "(I)Z"⟩
abbrev cX2_hasStationAt : ByteArray := prog_4_method_5_code
def yX2_hasStationAt : MethodName := ⟨RX2, "hasStationAt", "(I)Z"⟩
abbrev cX2_stationsIn : ByteArray := prog_4_method_6_code
def yX2_stationsIn : MethodName := ⟨RX2, "stationsIn", "()I"⟩
abbrev cX2_isDark : ByteArray := prog_4_method_7_code
def yX2_isDark : MethodName := ⟨RX2, "isDark", "()Z"⟩
abbrev cX2_mayRun : ByteArray := prog_4_method_8_code
def yX2_mayRun : MethodName := ⟨RX2, "mayRun", "(II)Z"⟩
abbrev cX2_allows : ByteArray := prog_4_method_9_code
def yX2_allows : MethodName := ⟨RX2, "allows", "(II)Z"⟩
abbrev cX2_isAnyBeyond : ByteArray := prog_4_method_10_code
def yX2_isAnyBeyond : MethodName := ⟨RX2, "isAnyBeyond", "(I)Z"⟩
def RX3 : String := "RailPower$Peak"
def TX3 : u_T := fun k => match k with
  | 0 => ("RailPower$Peak", "most", "LRailPower$Share;", true)
  | 1 => ("RailPower$Peak", "off", "[I", true)
  | _ => ("RailPower$Peak", "known", "Z", false)
def tyX3 : Nat → FieldType := fun k => match k with
  | 0 => .object "RailPower$Share"
  | 1 => .array .int
  | _ => .boolean
abbrev wsX30 : List Cond := u_ws RX3 TX3 3
theorem nmX3 : ∀ a, a < 3 → ∀ b, b < 3 → a ≠ b → (TX3 a).2.1 ≠ (TX3 b).2.1 := by decide +kernel
theorem tyX3_ok : ∀ k, k < 3 → parseFieldDescriptor (TX3 k).2.2.1 = some (tyX3 k) := by decide +kernel
abbrev cX3_init : ByteArray := prog_5_method_1_code
def yX3_init : MethodName := ⟨RX3, "<init>", "()V"⟩
def RX4 : String := "RailPower$Share"
def TX4 : u_T := fun k => match k with
  | 0 => ("RailPower$Share", "upper", "J", false)
  | _ => ("RailPower$Share", "lower", "J", false)
def tyX4 : Nat → FieldType := fun k => match k with
  | 0 => .long
  | _ => .long
abbrev wsX40 : List Cond := u_ws RX4 TX4 2
theorem nmX4 : ∀ a, a < 2 → ∀ b, b < 2 → a ≠ b → (TX4 a).2.1 ≠ (TX4 b).2.1 := by decide +kernel
theorem tyX4_ok : ∀ k, k < 2 → parseFieldDescriptor (TX4 k).2.2.1 = some (tyX4 k) := by decide +kernel
abbrev cX4_init : ByteArray := prog_6_method_1_code
def yX4_init : MethodName := ⟨RX4, "<init>", "()V"⟩
abbrev cX4_become : ByteArray := prog_6_method_2_code
def yX4_become : MethodName := ⟨RX4, "become", "(JJ)V"⟩
abbrev cX4_isBelow : ByteArray := prog_6_method_3_code
def yX4_isBelow : MethodName := ⟨RX4, "isBelow", "(LRailPower$Share;)Z"⟩
abbrev cX4_times : ByteArray := prog_6_method_4_code
def yX4_times : MethodName := ⟨RX4, "times", "(J)J"⟩
abbrev cX4_told : ByteArray := prog_6_method_5_code
def yX4_told : MethodName := ⟨RX4, "told", "(I)J"⟩
abbrev cX4_greatestDivisor : ByteArray := prog_6_method_6_code
def yX4_greatestDivisor : MethodName := ⟨RX4, "greatestDivisor", "(JJ)J"⟩
def RX5 : String := "RailPower$Sheet"
def TX5 : u_T := fun k => match k with
  | 0 => ("RailPower$Sheet", "cells", "[I", true)
  | 1 => ("RailPower$Sheet", "lane", "I", false)
  | _ => ("RailPower$Sheet", "length", "I", false)
def tyX5 : Nat → FieldType := fun k => match k with
  | 0 => .array .int
  | 1 => .int
  | _ => .int
abbrev wsX50 : List Cond := u_ws RX5 TX5 3
theorem nmX5 : ∀ a, a < 3 → ∀ b, b < 3 → a ≠ b → (TX5 a).2.1 ≠ (TX5 b).2.1 := by decide +kernel
theorem tyX5_ok : ∀ k, k < 3 → parseFieldDescriptor (TX5 k).2.2.1 = some (tyX5 k) := by decide +kernel
abbrev cX5_init : ByteArray := prog_7_method_1_code
def yX5_init : MethodName := ⟨RX5, "<init>", "()V"⟩
abbrev cX5_renew : ByteArray := prog_7_method_2_code
def yX5_renew : MethodName := ⟨RX5, "renew", "(II)V"⟩
abbrev cX5_failingAs : ByteArray := prog_7_method_3_code
def yX5_failingAs : MethodName := ⟨RX5, "failingAs", "(I)I"⟩
abbrev cX5_holds : ByteArray := prog_7_method_4_code
def yX5_holds : MethodName := ⟨RX5, "holds", "(I)Z"⟩
abbrev cX5_holdsFrom : ByteArray := prog_7_method_5_code
def yX5_holdsFrom : MethodName := ⟨RX5, "holdsFrom", "(IJ)Z"⟩
abbrev cX5_write : ByteArray := prog_7_method_6_code
def yX5_write : MethodName := ⟨RX5, "write", "(II)V"⟩
def RX6 : String := "RailPower$Station"
def TX6 : u_T := fun k => match k with
  | 0 => ("RailPower$Station", "kind", "I", false)
  | 1 => ("RailPower$Station", "place", "I", false)
  | 2 => ("RailPower$Station", "in", "Z", false)
  | _ => ("RailPower$Station", "switchedAt", "I", false)
def tyX6 : Nat → FieldType := fun k => match k with
  | 0 => .int
  | 1 => .int
  | 2 => .boolean
  | _ => .int
abbrev wsX60 : List Cond := u_ws RX6 TX6 4
theorem nmX6 : ∀ a, a < 4 → ∀ b, b < 4 → a ≠ b → (TX6 a).2.1 ≠ (TX6 b).2.1 := by decide +kernel
theorem tyX6_ok : ∀ k, k < 4 → parseFieldDescriptor (TX6 k).2.2.1 = some (tyX6 k) := by decide +kernel
abbrev cX6_init : ByteArray := prog_8_method_1_code
def yX6_init : MethodName := ⟨RX6, "<init>", "()V"⟩
def RX7 : String := "RailPower$Train"
def TX7 : u_T := fun k => match k with
  | 0 => ("RailPower$Train", "places", "[I", true)
  | _ => ("RailPower$Train", "amperes", "[I", true)
def tyX7 : Nat → FieldType := fun k => match k with
  | 0 => .array .int
  | _ => .array .int
abbrev wsX70 : List Cond := u_ws RX7 TX7 2
theorem nmX7 : ∀ a, a < 2 → ∀ b, b < 2 → a ≠ b → (TX7 a).2.1 ≠ (TX7 b).2.1 := by decide +kernel
theorem tyX7_ok : ∀ k, k < 2 → parseFieldDescriptor (TX7 k).2.2.1 = some (tyX7 k) := by decide +kernel
abbrev cX7_init : ByteArray := prog_9_method_1_code
def yX7_init : MethodName := ⟨RX7, "<init>", "()V"⟩
abbrev cX7_beAt : ByteArray := prog_9_method_2_code
def yX7_beAt : MethodName := ⟨RX7, "beAt", "(III)V"⟩
def RX8 : String := "RailPower"
def TX8 : u_T := fun k => match k with
  | 0 => ("RailPower", "line", "LRailPower$Line;", true)
  | 1 => ("RailPower", "day", "LRailPower$Day;", true)
  | 2 => ("RailPower", "sheets", "[LRailPower$Sheet;", true)
  | 3 => ("RailPower", "share", "LRailPower$Share;", true)
  | 4 => ("RailPower", "traced", "I", false)
  | _ => ("RailPower", "latestFault", "I", false)
def tyX8 : Nat → FieldType := fun k => match k with
  | 0 => .object "RailPower$Line"
  | 1 => .object "RailPower$Day"
  | 2 => .array (.object "RailPower$Sheet")
  | 3 => .object "RailPower$Share"
  | 4 => .int
  | _ => .int
abbrev wsX80 : List Cond := u_ws RX8 TX8 6
theorem nmX8 : ∀ a, a < 6 → ∀ b, b < 6 → a ≠ b → (TX8 a).2.1 ≠ (TX8 b).2.1 := by decide +kernel
theorem tyX8_ok : ∀ k, k < 6 → parseFieldDescriptor (TX8 k).2.2.1 = some (tyX8 k) := by decide +kernel
abbrev cX8_init : ByteArray := prog_1_method_1_code
def yX8_init : MethodName := ⟨RX8, "<init>", "()V"⟩
abbrev cX8_rule : ByteArray := prog_1_method_2_code
def yX8_rule : MethodName := ⟨RX8, "rule", "(II)I"⟩
abbrev cX8_station : ByteArray := prog_1_method_3_code
def yX8_station : MethodName := ⟨RX8, "station", "(II)I"⟩
abbrev cX8_set : ByteArray := prog_1_method_4_code
def yX8_set : MethodName := ⟨RX8, "set", "(IZ)I"⟩
abbrev cX8_trip : ByteArray := prog_1_method_5_code
def yX8_trip : MethodName := ⟨RX8, "trip", "(II)I"⟩
abbrev cX8_about : ByteArray := prog_1_method_6_code
def yX8_about : MethodName := ⟨RX8, "about", "(II)I"⟩
abbrev cX8_train : ByteArray := prog_1_method_7_code
def yX8_train : MethodName := ⟨RX8, "train", "()I"⟩
abbrev cX8_run : ByteArray := prog_1_method_8_code
def yX8_run : MethodName := ⟨RX8, "run", "(IIII)I"⟩
abbrev cX8_runs : ByteArray := prog_1_method_9_code
def yX8_runs : MethodName := ⟨RX8, "runs", "(IIIII)I"⟩
abbrev cX8_putOff : ByteArray := prog_1_method_10_code
def yX8_putOff : MethodName := ⟨RX8, "putOff", "(II)I"⟩
abbrev cX8_at : ByteArray := prog_1_method_11_code
def yX8_at : MethodName := ⟨RX8, "at", "(III)I"⟩
abbrev cX8_feeds : ByteArray := prog_1_method_12_code
def yX8_feeds : MethodName := ⟨RX8, "feeds", "(I)I"⟩
abbrev cX8_volts : ByteArray := prog_1_method_13_code
def yX8_volts : MethodName := ⟨RX8, "volts", "(III)J"⟩
abbrev cX8_gives : ByteArray := prog_1_method_14_code
def yX8_gives : MethodName := ⟨RX8, "gives", "(III)J"⟩
abbrev cX8_lowest : ByteArray := prog_1_method_15_code
def yX8_lowest : MethodName := ⟨RX8, "lowest", "(I)J"⟩
abbrev cX8_safe : ByteArray := prog_1_method_16_code
def yX8_safe : MethodName := ⟨RX8, "safe", "()I"⟩
abbrev cX8_firstOut : ByteArray := prog_1_method_17_code
def yX8_firstOut : MethodName := ⟨RX8, "firstOut", "()I"⟩
abbrev cX8_most : ByteArray := prog_1_method_18_code
def yX8_most : MethodName := ⟨RX8, "most", "(I)J"⟩
abbrev cX8_shorted : ByteArray := prog_1_method_19_code
def yX8_shorted : MethodName := ⟨RX8, "shorted", "(II)I"⟩
abbrev cX8_right : ByteArray := prog_1_method_20_code
def yX8_right : MethodName := ⟨RX8, "right", "(I)I"⟩
abbrev cX8_peak : ByteArray := prog_1_method_21_code
def yX8_peak : MethodName := ⟨RX8, "peak", "(II)J"⟩
abbrev cX8_used : ByteArray := prog_1_method_22_code
def yX8_used : MethodName := ⟨RX8, "used", "(I)J"⟩
abbrev cX8_given : ByteArray := prog_1_method_23_code
def yX8_given : MethodName := ⟨RX8, "given", "(I)J"⟩
abbrev cX8_best : ByteArray := prog_1_method_24_code
def yX8_best : MethodName := ⟨RX8, "best", "(I)J"⟩
abbrev cX8_sheet : ByteArray := prog_1_method_25_code
def yX8_sheet : MethodName := ⟨RX8, "sheet", "(III)I"⟩
abbrev cX8_lose : ByteArray := prog_1_method_26_code
def yX8_lose : MethodName := ⟨RX8, "lose", "(I)I"⟩
abbrev cX8_put : ByteArray := prog_1_method_27_code
def yX8_put : MethodName := ⟨RX8, "put", "(III)I"⟩
abbrev cX8_cell : ByteArray := prog_1_method_28_code
def yX8_cell : MethodName := ⟨RX8, "cell", "(III)J"⟩
abbrev cX8_tell : ByteArray := prog_1_method_29_code
def yX8_tell : MethodName := ⟨RX8, "tell", "(I)I"⟩
abbrev cX8_call : ByteArray := prog_1_method_30_code
def yX8_call : MethodName := ⟨RX8, "call", "(I)I"⟩
abbrev cX8_as : ByteArray := prog_1_method_31_code
def yX8_as : MethodName := ⟨RX8, "as", "(II)I"⟩
abbrev cX8_trace : ByteArray := prog_1_method_32_code
def yX8_trace : MethodName := ⟨RX8, "trace", "()I"⟩
abbrev cX8_fault : ByteArray := prog_1_method_33_code
def yX8_fault : MethodName := ⟨RX8, "fault", "()I"⟩
abbrev cX8_many : ByteArray := prog_1_method_34_code
def yX8_many : MethodName := ⟨RX8, "many", "(I)I"⟩
abbrev cX8_isTick : ByteArray := prog_1_method_35_code
def yX8_isTick : MethodName := ⟨RX8, "isTick", "(I)Z"⟩
abbrev cX8_isSheet : ByteArray := prog_1_method_36_code
def yX8_isSheet : MethodName := ⟨RX8, "isSheet", "(I)Z"⟩
abbrev cX8_isLane : ByteArray := prog_1_method_37_code
def yX8_isLane : MethodName := ⟨RX8, "isLane", "(I)Z"⟩
abbrev cX8_isHalf : ByteArray := prog_1_method_38_code
def yX8_isHalf : MethodName := ⟨RX8, "isHalf", "(I)Z"⟩
abbrev cX8_isFaultCurrent : ByteArray := prog_1_method_39_code
def yX8_isFaultCurrent : MethodName := ⟨RX8, "isFaultCurrent", "(I)Z"⟩
abbrev cX8_failed : ByteArray := prog_1_method_40_code
def yX8_failed : MethodName := ⟨RX8, "failed", "(I)I"⟩
abbrev cX8_mayRunBy : ByteArray := prog_1_method_41_code
def yX8_mayRunBy : MethodName := ⟨RX8, "mayRunBy", "(LRailPower$Sheet;II)Z"⟩
abbrev cX8_runBy : ByteArray := prog_1_method_42_code
def yX8_runBy : MethodName := ⟨RX8, "runBy", "(LRailPower$Train;LRailPower$Sheet;II)I"⟩
abbrev cX8_leaveTrace : ByteArray := prog_1_method_43_code
def yX8_leaveTrace : MethodName := ⟨RX8, "leaveTrace", "(I)V"⟩
abbrev cX8_tellPost : ByteArray := prog_1_method_44_code
def yX8_tellPost : MethodName := ⟨RX8, "tellPost", "(LRailPower$Station;)I"⟩
abbrev cX8_tellHouse : ByteArray := prog_1_method_45_code
def yX8_tellHouse : MethodName := ⟨RX8, "tellHouse", "(LRailPower$Station;)I"⟩
abbrev cX8_tellWorks : ByteArray := prog_1_method_46_code
def yX8_tellWorks : MethodName := ⟨RX8, "tellWorks", "(LRailPower$Station;)I"⟩
def RX9 : String := "RailPowerModel"
def TX9 : u_T := fun k => match k with
  | 0 => ("RailPowerModel", "fault", "I", false)
  | 1 => ("RailPowerModel", "trace", "I", false)
  | 2 => ("RailPowerModel", "rules", "[I", true)
  | 3 => ("RailPowerModel", "stations", "I", false)
  | 4 => ("RailPowerModel", "kinds", "[I", true)
  | 5 => ("RailPowerModel", "places", "[I", true)
  | 6 => ("RailPowerModel", "isOut", "[Z", true)
  | 7 => ("RailPowerModel", "switches", "[I", true)
  | 8 => ("RailPowerModel", "trains", "I", false)
  | 9 => ("RailPowerModel", "placeAt", "[I", true)
  | 10 => ("RailPowerModel", "amperesAt", "[I", true)
  | 11 => ("RailPowerModel", "putOff", "[I", true)
  | 12 => ("RailPowerModel", "lanes", "[I", true)
  | 13 => ("RailPowerModel", "sheetLong", "[I", true)
  | 14 => ("RailPowerModel", "cells", "[I", true)
  | 15 => ("RailPowerModel", "loads", "I", false)
  | 16 => ("RailPowerModel", "loadPlace", "[I", true)
  | 17 => ("RailPowerModel", "load", "[I", true)
  | 18 => ("RailPowerModel", "feeding", "I", false)
  | 19 => ("RailPowerModel", "up", "J", false)
  | 20 => ("RailPowerModel", "down", "J", false)
  | 21 => ("RailPowerModel", "loadOf", "[I", true)
  | 22 => ("RailPowerModel", "isAny", "Z", false)
  | 23 => ("RailPowerModel", "lowUp", "J", false)
  | 24 => ("RailPowerModel", "lowDown", "J", false)
  | 25 => ("RailPowerModel", "lowTick", "I", false)
  | 26 => ("RailPowerModel", "lowTrain", "I", false)
  | 27 => ("RailPowerModel", "mostUp", "J", false)
  | 28 => ("RailPowerModel", "mostDown", "J", false)
  | 29 => ("RailPowerModel", "wasOff", "[I", true)
  | 30 => ("RailPowerModel", "bestOff", "[I", true)
  | 31 => ("RailPowerModel", "peakUp", "J", false)
  | 32 => ("RailPowerModel", "peakDown", "J", false)
  | 33 => ("RailPowerModel", "newPlace", "I", false)
  | 34 => ("RailPowerModel", "newUp", "J", false)
  | _ => ("RailPowerModel", "newDown", "J", false)
def tyX9 : Nat → FieldType := fun k => match k with
  | 0 => .int
  | 1 => .int
  | 2 => .array .int
  | 3 => .int
  | 4 => .array .int
  | 5 => .array .int
  | 6 => .array .boolean
  | 7 => .array .int
  | 8 => .int
  | 9 => .array .int
  | 10 => .array .int
  | 11 => .array .int
  | 12 => .array .int
  | 13 => .array .int
  | 14 => .array .int
  | 15 => .int
  | 16 => .array .int
  | 17 => .array .int
  | 18 => .int
  | 19 => .long
  | 20 => .long
  | 21 => .array .int
  | 22 => .boolean
  | 23 => .long
  | 24 => .long
  | 25 => .int
  | 26 => .int
  | 27 => .long
  | 28 => .long
  | 29 => .array .int
  | 30 => .array .int
  | 31 => .long
  | 32 => .long
  | 33 => .int
  | 34 => .long
  | _ => .long
abbrev wsX90 : List Cond := u_ws RX9 TX9 36
theorem nmX9 : ∀ a, a < 36 → ∀ b, b < 36 → a ≠ b → (TX9 a).2.1 ≠ (TX9 b).2.1 := by decide +kernel
theorem tyX9_ok : ∀ k, k < 36 → parseFieldDescriptor (TX9 k).2.2.1 = some (tyX9 k) := by decide +kernel
abbrev cX9_init : ByteArray := prog_11_method_1_code
def yX9_init : MethodName := ⟨RX9, "<init>", "()V"⟩
abbrev cX9_fails : ByteArray := prog_11_method_3_code
def yX9_fails : MethodName := ⟨RX9, "fails", "(I)I"⟩
abbrev cX9_lost : ByteArray := prog_11_method_4_code
def yX9_lost : MethodName := ⟨RX9, "lost", "(I)J"⟩
abbrev cX9_within : ByteArray := prog_11_method_5_code
def yX9_within : MethodName := ⟨RX9, "within", "(III)Z"⟩
abbrev cX9_leastOf : ByteArray := prog_11_method_6_code
def yX9_leastOf : MethodName := ⟨RX9, "leastOf", "(I)I"⟩
abbrev cX9_mostOf : ByteArray := prog_11_method_7_code
def yX9_mostOf : MethodName := ⟨RX9, "mostOf", "(I)I"⟩
abbrev cX9_isBeyond : ByteArray := prog_11_method_8_code
def yX9_isBeyond : MethodName := ⟨RX9, "isBeyond", "(I)Z"⟩
abbrev cX9_isAgainst : ByteArray := prog_11_method_9_code
def yX9_isAgainst : MethodName := ⟨RX9, "isAgainst", "(II)Z"⟩
abbrev cX9_rule : ByteArray := prog_11_method_10_code
def yX9_rule : MethodName := ⟨RX9, "rule", "(II)I"⟩
abbrev cX9_isPlace : ByteArray := prog_11_method_11_code
def yX9_isPlace : MethodName := ⟨RX9, "isPlace", "(I)Z"⟩
abbrev cX9_isStation : ByteArray := prog_11_method_12_code
def yX9_isStation : MethodName := ⟨RX9, "isStation", "(I)Z"⟩
abbrev cX9_isTaken : ByteArray := prog_11_method_13_code
def yX9_isTaken : MethodName := ⟨RX9, "isTaken", "(I)Z"⟩
abbrev cX9_station : ByteArray := prog_11_method_14_code
def yX9_station : MethodName := ⟨RX9, "station", "(II)I"⟩
abbrev cX9_set : ByteArray := prog_11_method_15_code
def yX9_set : MethodName := ⟨RX9, "set", "(IZ)I"⟩
abbrev cX9_trip : ByteArray := prog_11_method_16_code
def yX9_trip : MethodName := ⟨RX9, "trip", "(II)I"⟩
abbrev cX9_about : ByteArray := prog_11_method_17_code
def yX9_about : MethodName := ⟨RX9, "about", "(II)I"⟩
abbrev cX9_isTrain : ByteArray := prog_11_method_18_code
def yX9_isTrain : MethodName := ⟨RX9, "isTrain", "(I)Z"⟩
abbrev cX9_isTick : ByteArray := prog_11_method_19_code
def yX9_isTick : MethodName := ⟨RX9, "isTick", "(I)Z"⟩
abbrev cX9_train : ByteArray := prog_11_method_20_code
def yX9_train : MethodName := ⟨RX9, "train", "()I"⟩
abbrev cX9_mayRun : ByteArray := prog_11_method_21_code
def yX9_mayRun : MethodName := ⟨RX9, "mayRun", "(II)Z"⟩
abbrev cX9_lay : ByteArray := prog_11_method_22_code
def yX9_lay : MethodName := ⟨RX9, "lay", "(IIII)V"⟩
abbrev cX9_run : ByteArray := prog_11_method_23_code
def yX9_run : MethodName := ⟨RX9, "run", "(IIII)I"⟩
abbrev cX9_isSheet : ByteArray := prog_11_method_24_code
def yX9_isSheet : MethodName := ⟨RX9, "isSheet", "(I)Z"⟩
abbrev cX9_isLane : ByteArray := prog_11_method_25_code
def yX9_isLane : MethodName := ⟨RX9, "isLane", "(I)Z"⟩
abbrev cX9_runs : ByteArray := prog_11_method_26_code
def yX9_runs : MethodName := ⟨RX9, "runs", "(IIIII)I"⟩
abbrev cX9_putOff : ByteArray := prog_11_method_27_code
def yX9_putOff : MethodName := ⟨RX9, "putOff", "(II)I"⟩
abbrev cX9_placeOf : ByteArray := prog_11_method_28_code
def yX9_placeOf : MethodName := ⟨RX9, "placeOf", "(II)I"⟩
abbrev cX9_amperesOf : ByteArray := prog_11_method_29_code
def yX9_amperesOf : MethodName := ⟨RX9, "amperesOf", "(II)I"⟩
abbrev cX9_isIn : ByteArray := prog_11_method_30_code
def yX9_isIn : MethodName := ⟨RX9, "isIn", "()I"⟩
abbrev cX9_neighbour : ByteArray := prog_11_method_31_code
def yX9_neighbour : MethodName := ⟨RX9, "neighbour", "(IIZ)I"⟩
abbrev cX9_findVolts : ByteArray := prog_11_method_32_code
def yX9_findVolts : MethodName := ⟨RX9, "findVolts", "(II)V"⟩
abbrev cX9_size : ByteArray := prog_11_method_33_code
def yX9_size : MethodName := ⟨RX9, "size", "(I)I"⟩
abbrev cX9_findGiven : ByteArray := prog_11_method_34_code
def yX9_findGiven : MethodName := ⟨RX9, "findGiven", "(II)V"⟩
abbrev cX9_doesFeed : ByteArray := prog_11_method_35_code
def yX9_doesFeed : MethodName := ⟨RX9, "doesFeed", "(II)Z"⟩
abbrev cX9_findFeeding : ByteArray := prog_11_method_36_code
def yX9_findFeeding : MethodName := ⟨RX9, "findFeeding", "()I"⟩
abbrev cX9_layLoads : ByteArray := prog_11_method_37_code
def yX9_layLoads : MethodName := ⟨RX9, "layLoads", "(I)V"⟩
abbrev cX9_isTooHigh : ByteArray := prog_11_method_38_code
def yX9_isTooHigh : MethodName := ⟨RX9, "isTooHigh", "()Z"⟩
abbrev cX9_nextBack : ByteArray := prog_11_method_39_code
def yX9_nextBack : MethodName := ⟨RX9, "nextBack", "()I"⟩
abbrev cX9_solve : ByteArray := prog_11_method_40_code
def yX9_solve : MethodName := ⟨RX9, "solve", "(I)V"⟩
abbrev cX9_isDark : ByteArray := prog_11_method_41_code
def yX9_isDark : MethodName := ⟨RX9, "isDark", "()Z"⟩
abbrev cX9_part : ByteArray := prog_11_method_42_code
def yX9_part : MethodName := ⟨RX9, "part", "(I)J"⟩
abbrev cX9_at : ByteArray := prog_11_method_43_code
def yX9_at : MethodName := ⟨RX9, "at", "(III)I"⟩
abbrev cX9_feeds : ByteArray := prog_11_method_44_code
def yX9_feeds : MethodName := ⟨RX9, "feeds", "(I)I"⟩
abbrev cX9_volts : ByteArray := prog_11_method_45_code
def yX9_volts : MethodName := ⟨RX9, "volts", "(III)J"⟩
abbrev cX9_gives : ByteArray := prog_11_method_46_code
def yX9_gives : MethodName := ⟨RX9, "gives", "(III)J"⟩
abbrev cX9_findLowest : ByteArray := prog_11_method_47_code
def yX9_findLowest : MethodName := ⟨RX9, "findLowest", "()V"⟩
abbrev cX9_lowest : ByteArray := prog_11_method_48_code
def yX9_lowest : MethodName := ⟨RX9, "lowest", "(I)J"⟩
abbrev cX9_isSafe : ByteArray := prog_11_method_49_code
def yX9_isSafe : MethodName := ⟨RX9, "isSafe", "()Z"⟩
abbrev cX9_safe : ByteArray := prog_11_method_50_code
def yX9_safe : MethodName := ⟨RX9, "safe", "()I"⟩
abbrev cX9_firstOut : ByteArray := prog_11_method_51_code
def yX9_firstOut : MethodName := ⟨RX9, "firstOut", "()I"⟩
abbrev cX9_findMost : ByteArray := prog_11_method_52_code
def yX9_findMost : MethodName := ⟨RX9, "findMost", "()V"⟩
abbrev cX9_most : ByteArray := prog_11_method_53_code
def yX9_most : MethodName := ⟨RX9, "most", "(I)J"⟩
abbrev cX9_layFault : ByteArray := prog_11_method_54_code
def yX9_layFault : MethodName := ⟨RX9, "layFault", "(II)V"⟩
abbrev cX9_shorted : ByteArray := prog_11_method_55_code
def yX9_shorted : MethodName := ⟨RX9, "shorted", "(II)I"⟩
abbrev cX9_isTripped : ByteArray := prog_11_method_56_code
def yX9_isTripped : MethodName := ⟨RX9, "isTripped", "()Z"⟩
abbrev cX9_right : ByteArray := prog_11_method_57_code
def yX9_right : MethodName := ⟨RX9, "right", "(I)I"⟩
abbrev cX9_findPeak : ByteArray := prog_11_method_58_code
def yX9_findPeak : MethodName := ⟨RX9, "findPeak", "(I)V"⟩
abbrev cX9_peak : ByteArray := prog_11_method_59_code
def yX9_peak : MethodName := ⟨RX9, "peak", "(II)J"⟩
abbrev cX9_used : ByteArray := prog_11_method_60_code
def yX9_used : MethodName := ⟨RX9, "used", "(I)J"⟩
abbrev cX9_given : ByteArray := prog_11_method_61_code
def yX9_given : MethodName := ⟨RX9, "given", "(I)J"⟩
abbrev cX9_isAnyThere : ByteArray := prog_11_method_62_code
def yX9_isAnyThere : MethodName := ⟨RX9, "isAnyThere", "()Z"⟩
abbrev cX9_ticksThere : ByteArray := prog_11_method_63_code
def yX9_ticksThere : MethodName := ⟨RX9, "ticksThere", "()I"⟩
abbrev cX9_best : ByteArray := prog_11_method_64_code
def yX9_best : MethodName := ⟨RX9, "best", "(I)J"⟩
abbrev cX9_sheet : ByteArray := prog_11_method_65_code
def yX9_sheet : MethodName := ⟨RX9, "sheet", "(III)I"⟩
abbrev cX9_lose : ByteArray := prog_11_method_66_code
def yX9_lose : MethodName := ⟨RX9, "lose", "(I)I"⟩
abbrev cX9_put : ByteArray := prog_11_method_67_code
def yX9_put : MethodName := ⟨RX9, "put", "(III)I"⟩
abbrev cX9_cell : ByteArray := prog_11_method_68_code
def yX9_cell : MethodName := ⟨RX9, "cell", "(III)J"⟩
abbrev cX9_begins : ByteArray := prog_11_method_69_code
def yX9_begins : MethodName := ⟨RX9, "begins", "(I)V"⟩
abbrev cX9_tell : ByteArray := prog_11_method_70_code
def yX9_tell : MethodName := ⟨RX9, "tell", "(I)I"⟩
abbrev cX9_call : ByteArray := prog_11_method_71_code
def yX9_call : MethodName := ⟨RX9, "call", "(I)I"⟩
abbrev cX9_as : ByteArray := prog_11_method_72_code
def yX9_as : MethodName := ⟨RX9, "as", "(II)I"⟩
abbrev cX9_trace : ByteArray := prog_11_method_73_code
def yX9_trace : MethodName := ⟨RX9, "trace", "()I"⟩
abbrev cX9_fault : ByteArray := prog_11_method_74_code
def yX9_fault : MethodName := ⟨RX9, "fault", "()I"⟩
abbrev cX9_many : ByteArray := prog_11_method_75_code
def yX9_many : MethodName := ⟨RX9, "many", "(I)I"⟩
abbrev vwCl : List vw_C := [(RX0, TX0, 12), (RX1, TX1, 13), (RX2, TX2, 6), (RX3, TX3, 3), (RX4, TX4, 2), (RX5, TX5, 3), (RX6, TX6, 4), (RX7, TX7, 2), (RX8, TX8, 6), (RX9, TX9, 36)]
end
section
/-- 0: RailPower.<init>()V -/
def am_L0 : List (Nat × List Instr) := [(0, [.aload 0, .pop2, .aload 0, .new 2, .dup, .invokevirtual 1, .putfield 512, .aload 0, .new 1, .dup, .aload 0, .getfield 512, .invokevirtual 4, .putfield 513, .aload 0, .bipush 4, .anewarray 6, .putfield 514, .bipush 0, .istore 1, .jsr 40]),
  (40, [.iload 1, .bipush 4, .if_icmp .ge 64, .aload 0, .getfield 514, .iload 1, .new 5, .dup, .invokevirtual 8, .aastore, .iinc 1 1, .goto 40]),
  (64, [.aload 0, .new 4, .dup, .invokevirtual 5, .putfield 515, .return_])]
/-- 1: RailPower$Line.<init>()V -/
def am_L1 : List (Nat × List Instr) := [(0, [.aload 0, .pop2, .aload 0, .bipush 5, .newarray .int, .dup, .bipush 0, .bipush 100, .iastore, .dup, .bipush 1, .bipush 1, .iastore, .dup, .bipush 2, .bipush 750, .iastore, .dup, .bipush 3, .bipush 900, .iastore, .dup, .bipush 4, .bipush 500, .iastore, .putfield 128, .aload 0, .bipush 5, .anewarray 3, .putfield 129, .aload 0, .bipush 5, .anewarray 4, .putfield 130, .aload 0, .bipush 5, .newarray .int, .putfield 131, .bipush 0, .istore 1, .jsr 63]),
  (63, [.iload 1, .bipush 5, .if_icmp .ge 87, .aload 0, .getfield 129, .iload 1, .new 6, .dup, .invokevirtual 2, .aastore, .iinc 1 1, .goto 63]),
  (87, [.bipush 0, .istore 1, .jsr 89]),
  (89, [.iload 1, .bipush 5, .if_icmp .ge 113, .aload 0, .getfield 130, .iload 1, .new 7, .dup, .invokevirtual 3, .aastore, .iinc 1 1, .goto 89]),
  (113, [.return_])]
/-- 2: RailPower$Station.<init>()V -/
def am_L2 : List (Nat × List Instr) := [(0, [.aload 0, .pop2, .aload 0, .bipush 1, .putfield 386, .aload 0, .bipush 3000, .putfield 387, .return_])]
/-- 3: RailPower$Train.<init>()V -/
def am_L3 : List (Nat × List Instr) := [(0, [.aload 0, .pop2, .aload 0, .bipush 24, .newarray .int, .putfield 448, .aload 0, .bipush 24, .newarray .int, .putfield 449, .bipush 0, .istore 1, .jsr 22]),
  (22, [.iload 1, .bipush 24, .if_icmp .ge 41, .aload 0, .getfield 448, .iload 1, .bipush (-1), .iastore, .iinc 1 1, .goto 22]),
  (41, [.return_])]
/-- 4: RailPower$Day.<init>(LRailPower$Line;)V -/
def am_L4 : List (Nat × List Instr) := [(0, [.aload 0, .pop2, .aload 0, .new 4, .dup, .invokevirtual 5, .putfield 65, .aload 0, .new 4, .dup, .invokevirtual 5, .putfield 68, .aload 0, .bipush 2, .anewarray 5, .putfield 69, .aload 0, .new 4, .dup, .invokevirtual 5, .putfield 70, .aload 0, .bipush (-9), .putfield 71, .aload 0, .new 4, .dup, .invokevirtual 5, .putfield 74, .aload 0, .new 4, .dup, .invokevirtual 5, .putfield 75, .aload 0, .bipush 5, .newarray .int, .putfield 76, .aload 0, .aload 1, .putfield 73, .aload 0, .new 0, .dup, .aload 1, .getfield 128, .invokevirtual 6, .putfield 64, .bipush 0, .istore 2, .jsr 102]),
  (102, [.iload 2, .bipush 2, .if_icmp .ge 126, .aload 0, .getfield 69, .iload 2, .new 3, .dup, .invokevirtual 7, .aastore, .iinc 2 1, .goto 102]),
  (126, [.return_])]
/-- 5: RailPower$Share.<init>()V -/
def am_L5 : List (Nat × List Instr) := [(0, [.aload 0, .pop2, .aload 0, .sipush 1, .putfield 257, .return_])]
/-- 6: RailPower$Circuit.<init>([I)V -/
def am_L6 : List (Nat × List Instr) := [(0, [.aload 0, .pop2, .aload 0, .bipush 5, .newarray .int, .putfield 0, .aload 0, .bipush 5, .newarray .int, .putfield 1, .aload 0, .bipush 5, .newarray .boolean, .putfield 2, .aload 0, .bipush 5, .newarray .long, .putfield 3, .aload 0, .bipush 5, .newarray .long, .putfield 4, .aload 0, .bipush 5, .newarray .boolean, .putfield 6, .aload 0, .bipush 5, .newarray .int, .putfield 7, .aload 0, .bipush 5, .newarray .int, .putfield 8, .aload 0, .new 4, .dup, .invokevirtual 5, .putfield 10, .aload 0, .new 4, .dup, .invokevirtual 5, .putfield 11, .aload 0, .aload 1, .putfield 9, .return_])]
/-- 7: RailPower$Peak.<init>()V -/
def am_L7 : List (Nat × List Instr) := [(0, [.aload 0, .pop2, .aload 0, .new 4, .dup, .invokevirtual 5, .putfield 192, .aload 0, .bipush 5, .newarray .int, .putfield 193, .return_])]
/-- 8: RailPower$Sheet.<init>()V -/
def am_L8 : List (Nat × List Instr) := [(0, [.aload 0, .pop2, .aload 0, .bipush 60, .newarray .int, .putfield 320, .aload 0, .bipush (-1), .putfield 321, .return_])]
/-- 9: RailPower.rule(II)I -/
def am_L9 : List (Nat × List Instr) := [(0, [.iload 1, .ifCond .lt 9, .iload 1, .bipush 5, .if_icmp .lt 11, .jsr 9]),
  (9, [.bipush (-1), .ireturn]),
  (11, [.iload 2, .getstatic 0, .iload 1, .iaload, .if_icmp .lt 29, .iload 2, .getstatic 1, .iload 1, .iaload, .if_icmp .le 32, .jsr 29]),
  (29, [.bipush (-2), .ireturn]),
  (32, [.aload 0, .getfield 512, .iload 1, .iload 2, .invokevirtual 10, .ifCond .ne 47, .bipush (-3), .ireturn]),
  (47, [.aload 0, .getfield 512, .getfield 128, .iload 1, .iaload, .istore 3, .aload 0, .getfield 512, .getfield 128, .iload 1, .iload 2, .iastore, .aload 0, .getfield 513, .invokevirtual 12, .iload 3, .ireturn])]
/-- 10: RailPower$Line.allows(II)Z -/
def am_L10 : List (Nat × List Instr) := [(0, [.iload 1, .tableswitch 108 0 4 #[36, 108, 50, 76, 92]]),
  (36, [.aload 0, .iload 2, .invokevirtual 11, .ifCond .ne 48, .bipush 1, .goto 49]),
  (48, [.bipush 0, .jsr 49]),
  (49, [.areturn]),
  (50, [.iload 2, .aload 0, .getfield 128, .bipush 3, .iaload, .if_icmp .gt 74, .iload 2, .aload 0, .getfield 128, .bipush 4, .iaload, .if_icmp .lt 74, .bipush 1, .goto 75]),
  (74, [.bipush 0, .jsr 75]),
  (75, [.areturn]),
  (76, [.aload 0, .getfield 128, .bipush 2, .iaload, .iload 2, .if_icmp .gt 90, .bipush 1, .goto 91]),
  (90, [.bipush 0, .jsr 91]),
  (91, [.areturn]),
  (92, [.aload 0, .getfield 128, .bipush 2, .iaload, .iload 2, .if_icmp .lt 106, .bipush 1, .goto 107]),
  (106, [.bipush 0, .jsr 107]),
  (107, [.areturn]),
  (108, [.bipush 1, .areturn])]
/-- 11: RailPower$Line.isAnyBeyond(I)Z -/
def am_L11 : List (Nat × List Instr) := [(0, [.bipush 0, .istore 2, .jsr 2]),
  (2, [.iload 2, .aload 0, .getfield 132, .if_icmp .ge 31, .aload 0, .getfield 129, .iload 2, .aaload, .getfield 385, .iload 1, .if_icmp .le 25, .bipush 1, .areturn]),
  (25, [.iinc 2 1, .goto 2]),
  (31, [.bipush 0, .istore 2, .jsr 33]),
  (33, [.iload 2, .aload 0, .getfield 133, .if_icmp .ge 78, .bipush 0, .istore 3, .jsr 43]),
  (43, [.iload 3, .bipush 24, .if_icmp .ge 72, .aload 0, .getfield 130, .iload 2, .aaload, .getfield 448, .iload 3, .iaload, .iload 1, .if_icmp .le 66, .bipush 1, .areturn]),
  (66, [.iinc 3 1, .goto 43]),
  (72, [.iinc 2 1, .goto 33]),
  (78, [.bipush 0, .areturn])]
/-- 12: RailPower$Day.forget()V -/
def am_L12 : List (Nat × List Instr) := [(0, [.aload 0, .bipush 0, .putfield 72, .bipush 0, .istore 1, .jsr 7]),
  (7, [.iload 1, .bipush 2, .if_icmp .ge 28, .aload 0, .getfield 69, .iload 1, .aaload, .bipush 0, .putfield 194, .iinc 1 1, .goto 7]),
  (28, [.return_])]
/-- 13: RailPower.station(II)I -/
def am_L13 : List (Nat × List Instr) := [(0, [.iload 1, .ifCond .lt 20, .iload 1, .bipush 2, .if_icmp .gt 20, .aload 0, .getfield 512, .iload 2, .invokevirtual 14, .ifCond .ne 23, .jsr 20]),
  (20, [.bipush (-2), .ireturn]),
  (23, [.aload 0, .getfield 512, .iload 2, .invokevirtual 15, .ifCond .eq 37, .bipush (-3), .ireturn]),
  (37, [.aload 0, .getfield 512, .getfield 132, .bipush 5, .if_icmp .lt 51, .bipush (-4), .ireturn]),
  (51, [.aload 0, .getfield 512, .getfield 132, .istore 3, .aload 0, .getfield 512, .getfield 129, .iload 3, .aaload, .iload 1, .putfield 384, .aload 0, .getfield 512, .getfield 129, .iload 3, .aaload, .iload 2, .putfield 385, .aload 0, .getfield 512, .iload 3, .bipush 1, .iadd, .putfield 132, .aload 0, .getfield 513, .invokevirtual 12, .iload 3, .ireturn])]
/-- 14: RailPower$Line.hasPlace(I)Z -/
def am_L14 : List (Nat × List Instr) := [(0, [.iload 1, .ifCond .lt 18, .iload 1, .aload 0, .getfield 128, .bipush 0, .iaload, .if_icmp .gt 18, .bipush 1, .goto 19]),
  (18, [.bipush 0, .jsr 19]),
  (19, [.areturn])]
/-- 15: RailPower$Line.hasStationAt(I)Z -/
def am_L15 : List (Nat × List Instr) := [(0, [.bipush 0, .istore 2, .jsr 2]),
  (2, [.iload 2, .aload 0, .getfield 132, .if_icmp .ge 31, .aload 0, .getfield 129, .iload 2, .aaload, .getfield 385, .iload 1, .if_icmp .ne 25, .bipush 1, .areturn]),
  (25, [.iinc 2 1, .goto 2]),
  (31, [.bipush 0, .areturn])]
/-- 16: RailPower.set(IZ)I -/
def am_L16 : List (Nat × List Instr) := [(0, [.aload 0, .getfield 512, .iload 1, .invokevirtual 17, .ifCond .ne 13, .bipush (-1), .ireturn]),
  (13, [.aload 0, .getfield 512, .getfield 129, .iload 1, .aaload, .getfield 386, .iload 2, .if_icmp .ne 31, .bipush 0, .ireturn]),
  (31, [.aload 0, .getfield 512, .getfield 129, .iload 1, .aaload, .iload 2, .putfield 386, .aload 0, .getfield 513, .invokevirtual 12, .bipush 1, .ireturn])]
/-- 17: RailPower$Line.hasStation(I)Z -/
def am_L17 : List (Nat × List Instr) := [(0, [.iload 1, .ifCond .lt 16, .iload 1, .aload 0, .getfield 132, .if_icmp .ge 16, .bipush 1, .goto 17]),
  (16, [.bipush 0, .jsr 17]),
  (17, [.areturn])]
/-- 18: RailPower.trip(II)I -/
def am_L18 : List (Nat × List Instr) := [(0, [.aload 0, .getfield 512, .iload 1, .invokevirtual 17, .ifCond .ne 13, .bipush (-1), .ireturn]),
  (13, [.iload 2, .ifCond .lt 23, .iload 2, .bipush 100000, .if_icmp .le 26, .jsr 23]),
  (23, [.bipush (-2), .ireturn]),
  (26, [.aload 0, .getfield 512, .getfield 129, .iload 1, .aaload, .getfield 387, .istore 3, .aload 0, .getfield 512, .getfield 129, .iload 1, .aaload, .iload 2, .putfield 387, .iload 3, .ireturn])]
/-- 19: RailPower.about(II)I -/
def am_L19 : List (Nat × List Instr) := [(0, [.aload 0, .getfield 512, .iload 1, .invokevirtual 17, .ifCond .ne 13, .bipush (-1), .ireturn]),
  (13, [.aload 0, .getfield 512, .getfield 129, .iload 1, .aaload, .astore 3, .iload 2, .tableswitch 84 0 3 #[56, 61, 66, 79]]),
  (56, [.aload 3, .getfield 384, .ireturn]),
  (61, [.aload 3, .getfield 385, .ireturn]),
  (66, [.aload 3, .getfield 386, .ifCond .eq 77, .bipush 1, .goto 78]),
  (77, [.bipush 0, .jsr 78]),
  (78, [.ireturn]),
  (79, [.aload 3, .getfield 387, .ireturn]),
  (84, [.bipush (-2), .ireturn])]
/-- 20: RailPower.train()I -/
def am_L20 : List (Nat × List Instr) := [(0, [.aload 0, .getfield 512, .getfield 133, .bipush 5, .if_icmp .lt 14, .bipush (-4), .ireturn]),
  (14, [.aload 0, .getfield 512, .getfield 133, .istore 1, .aload 0, .getfield 512, .iload 1, .bipush 1, .iadd, .putfield 133, .aload 0, .getfield 513, .invokevirtual 12, .iload 1, .ireturn])]
/-- 21: RailPower.run(IIII)I -/
def am_L21 : List (Nat × List Instr) := [(0, [.aload 0, .getfield 512, .iload 1, .invokevirtual 22, .ifCond .eq 18, .iload 2, .invokevirtual 23, .ifCond .ne 20, .jsr 18]),
  (18, [.bipush (-1), .ireturn]),
  (20, [.aload 0, .getfield 512, .iload 3, .iload 4, .invokevirtual 24, .ifCond .ne 36, .bipush (-2), .ireturn]),
  (36, [.aload 0, .getfield 512, .getfield 130, .iload 1, .aaload, .iload 2, .iload 3, .iload 4, .invokevirtual 25, .aload 0, .getfield 513, .invokevirtual 12, .bipush 1, .ireturn])]
/-- 22: RailPower$Line.hasTrain(I)Z -/
def am_L22 : List (Nat × List Instr) := [(0, [.iload 1, .ifCond .lt 16, .iload 1, .aload 0, .getfield 133, .if_icmp .ge 16, .bipush 1, .goto 17]),
  (16, [.bipush 0, .jsr 17]),
  (17, [.areturn])]
/-- 23: RailPower.isTick(I)Z -/
def am_L23 : List (Nat × List Instr) := [(0, [.iload 0, .ifCond .lt 14, .iload 0, .bipush 24, .if_icmp .ge 14, .bipush 1, .goto 15]),
  (14, [.bipush 0, .jsr 15]),
  (15, [.areturn])]
/-- 24: RailPower$Line.mayRun(II)Z -/
def am_L24 : List (Nat × List Instr) := [(0, [.iload 1, .bipush (-1), .if_icmp .ne 7, .bipush 1, .areturn]),
  (7, [.aload 0, .iload 1, .invokevirtual 14, .ifCond .eq 33, .iload 2, .bipush (-400), .if_icmp .lt 33, .iload 2, .bipush 400, .if_icmp .gt 33, .bipush 1, .goto 34]),
  (33, [.bipush 0, .jsr 34]),
  (34, [.areturn])]
/-- 25: RailPower$Train.beAt(III)V -/
def am_L25 : List (Nat × List Instr) := [(0, [.aload 0, .getfield 448, .iload 1, .iload 2, .iastore, .aload 0, .getfield 449, .iload 1, .iload 3, .iastore, .return_])]
/-- 26: RailPower.runs(IIIII)I -/
def am_L26 : List (Nat × List Instr) := [(0, [.aload 0, .bipush 0, .putfield 517, .aload 0, .getfield 512, .iload 1, .invokevirtual 22, .ifCond .eq 23, .iload 2, .invokevirtual 27, .ifCond .ne 25, .jsr 23]),
  (23, [.bipush (-1), .ireturn]),
  (25, [.iload 3, .invokevirtual 28, .ifCond .ne 35, .bipush (-2), .ireturn]),
  (35, [.aload 0, .getfield 514, .iload 2, .aaload, .astore 6, .aload 6, .iload 3, .invokevirtual 29, .istore 7, .iload 7, .ifCond .ne 64, .iload 5, .ifCond .ge 64, .bipush 4, .istore 7, .jsr 64]),
  (64, [.iload 7, .ifCond .ne 89, .aload 6, .iload 4, .sipush 2, .iload 5, .i2l, .lmul, .invokevirtual 30, .ifCond .ne 89, .bipush 3, .istore 7, .jsr 89]),
  (89, [.iload 7, .ifCond .eq 101, .aload 0, .iload 7, .invokevirtual 31, .ireturn]),
  (101, [.iload 5, .bipush 24, .if_icmp .gt 121, .aload 0, .aload 6, .iload 4, .iload 5, .invokevirtual 32, .ifCond .ne 124, .jsr 121]),
  (121, [.bipush (-2), .ireturn]),
  (124, [.aload 0, .getfield 513, .invokevirtual 12, .aload 0, .getfield 512, .getfield 130, .iload 1, .aaload, .aload 6, .iload 4, .iload 5, .invokevirtual 33, .ireturn])]
/-- 27: RailPower.isSheet(I)Z -/
def am_L27 : List (Nat × List Instr) := [(0, [.iload 0, .ifCond .lt 13, .iload 0, .bipush 4, .if_icmp .ge 13, .bipush 1, .goto 14]),
  (13, [.bipush 0, .jsr 14]),
  (14, [.areturn])]
/-- 28: RailPower.isLane(I)Z -/
def am_L28 : List (Nat × List Instr) := [(0, [.iload 0, .ifCond .lt 13, .iload 0, .bipush 2, .if_icmp .gt 13, .bipush 1, .goto 14]),
  (13, [.bipush 0, .jsr 14]),
  (14, [.areturn])]
/-- 29: RailPower$Sheet.failingAs(I)I -/
def am_L29 : List (Nat × List Instr) := [(0, [.aload 0, .getfield 321, .bipush (-1), .if_icmp .ne 10, .bipush 1, .ireturn]),
  (10, [.aload 0, .getfield 321, .iload 1, .if_icmp .ne 22, .bipush 0, .goto 23]),
  (22, [.bipush 2, .jsr 23]),
  (23, [.ireturn])]
/-- 30: RailPower$Sheet.holdsFrom(IJ)Z -/
def am_L30 : List (Nat × List Instr) := [(0, [.iload 1, .ifCond .lt 28, .iload 1, .aload 0, .getfield 322, .if_icmp .gt 28, .lload 2, .aload 0, .getfield 322, .iload 1, .isub, .i2l, .lcmp, .ifCond .gt 28, .bipush 1, .goto 29]),
  (28, [.bipush 0, .jsr 29]),
  (29, [.areturn])]
/-- 31: RailPower.failed(I)I -/
def am_L31 : List (Nat × List Instr) := [(0, [.aload 0, .iload 1, .putfield 517, .bipush (-10), .iload 1, .isub, .ireturn])]
/-- 32: RailPower.mayRunBy(LRailPower$Sheet;II)Z -/
def am_L32 : List (Nat × List Instr) := [(0, [.bipush 0, .istore 4, .jsr 3]),
  (3, [.iload 4, .iload 3, .if_icmp .ge 51, .aload 0, .getfield 512, .aload 1, .getfield 320, .iload 2, .bipush 2, .iload 4, .imul, .iadd, .iaload, .aload 1, .getfield 320, .iload 2, .bipush 2, .iload 4, .imul, .iadd, .bipush 1, .iadd, .iaload, .invokevirtual 24, .ifCond .ne 45, .bipush 0, .areturn]),
  (45, [.iinc 4 1, .goto 3]),
  (51, [.bipush 1, .areturn])]
/-- 33: RailPower.runBy(LRailPower$Train;LRailPower$Sheet;II)I -/
def am_L33 : List (Nat × List Instr) := [(0, [.bipush 0, .istore 4, .bipush 0, .istore 5, .jsr 6]),
  (6, [.iload 5, .bipush 24, .if_icmp .ge 80, .iload 5, .iload 3, .if_icmp .ge 52, .aload 0, .iload 5, .aload 1, .getfield 320, .iload 2, .bipush 2, .iload 5, .imul, .iadd, .iaload, .aload 1, .getfield 320, .iload 2, .bipush 2, .iload 5, .imul, .iadd, .bipush 1, .iadd, .iaload, .invokevirtual 25, .goto 60]),
  (52, [.aload 0, .iload 5, .bipush (-1), .bipush 0, .invokevirtual 25, .jsr 60]),
  (60, [.aload 0, .getfield 448, .iload 5, .iaload, .bipush (-1), .if_icmp .eq 74, .iinc 4 1, .jsr 74]),
  (74, [.iinc 5 1, .goto 6]),
  (80, [.iload 4, .ireturn])]
/-- 34: RailPower.putOff(II)I -/
def am_L34 : List (Nat × List Instr) := [(0, [.aload 0, .getfield 512, .iload 1, .invokevirtual 22, .ifCond .ne 13, .bipush (-1), .ireturn]),
  (13, [.iload 2, .ifCond .lt 22, .iload 2, .bipush 5, .if_icmp .le 25, .jsr 22]),
  (22, [.bipush (-2), .ireturn]),
  (25, [.aload 0, .getfield 512, .getfield 131, .iload 1, .iaload, .istore 3, .aload 0, .getfield 512, .getfield 131, .iload 1, .iload 2, .iastore, .aload 0, .getfield 513, .invokevirtual 12, .iload 3, .ireturn])]
/-- 35: RailPower.at(III)I -/
def am_L35 : List (Nat × List Instr) := [(0, [.aload 0, .getfield 512, .iload 1, .invokevirtual 22, .ifCond .eq 18, .iload 2, .invokevirtual 23, .ifCond .ne 20, .jsr 18]),
  (18, [.bipush (-1), .ireturn]),
  (20, [.iload 3, .ifCond .lt 29, .iload 3, .bipush 2, .if_icmp .le 32, .jsr 29]),
  (29, [.bipush (-2), .ireturn]),
  (32, [.iload 3, .bipush 2, .if_icmp .ne 50, .aload 0, .getfield 512, .invokevirtual 36, .ifCond .eq 50, .bipush (-3), .ireturn]),
  (50, [.iload 2, .aload 0, .getfield 512, .getfield 131, .iload 1, .iaload, .isub, .istore 4, .iload 4, .invokevirtual 23, .ifCond .eq 90, .aload 0, .getfield 512, .getfield 130, .iload 1, .aaload, .getfield 448, .iload 4, .iaload, .bipush (-1), .if_icmp .ne 101, .jsr 90]),
  (90, [.iload 3, .ifCond .ne 99, .bipush (-9), .goto 100]),
  (99, [.bipush 0, .jsr 100]),
  (100, [.ireturn]),
  (101, [.iload 3, .ifCond .ne 121, .aload 0, .getfield 512, .getfield 130, .iload 1, .aaload, .getfield 448, .iload 4, .iaload, .ireturn]),
  (121, [.iload 3, .bipush 1, .if_icmp .ne 142, .aload 0, .getfield 512, .getfield 130, .iload 1, .aaload, .getfield 449, .iload 4, .iaload, .ireturn]),
  (142, [.aload 0, .getfield 513, .iload 2, .invokevirtual 38, .aload 0, .getfield 513, .getfield 64, .getfield 8, .iload 1, .iaload, .ireturn])]
/-- 36: RailPower$Line.isDark()Z -/
def am_L36 : List (Nat × List Instr) := [(0, [.aload 0, .invokevirtual 37, .ifCond .ne 11, .bipush 1, .goto 12]),
  (11, [.bipush 0, .jsr 12]),
  (12, [.areturn])]
/-- 37: RailPower$Line.stationsIn()I -/
def am_L37 : List (Nat × List Instr) := [(0, [.bipush 0, .istore 1, .bipush 0, .istore 2, .jsr 4]),
  (4, [.iload 2, .aload 0, .getfield 132, .if_icmp .ge 33, .aload 0, .getfield 129, .iload 2, .aaload, .getfield 386, .ifCond .eq 27, .iinc 1 1, .jsr 27]),
  (27, [.iinc 2 1, .goto 4]),
  (33, [.iload 1, .ireturn])]
/-- 38: RailPower$Day.solve(I)V -/
def am_L38 : List (Nat × List Instr) := [(0, [.aload 0, .bipush (-9), .invokevirtual 39, .aload 0, .iload 1, .aload 0, .getfield 73, .getfield 131, .invokevirtual 42, .pop, .aload 0, .getfield 64, .invokevirtual 45, .return_])]
/-- 39: RailPower$Day.takeStations(I)V -/
def am_L39 : List (Nat × List Instr) := [(0, [.aload 0, .getfield 64, .invokevirtual 40, .bipush 0, .istore 2, .jsr 9]),
  (9, [.iload 2, .aload 0, .getfield 73, .getfield 132, .if_icmp .ge 66, .aload 0, .getfield 73, .getfield 129, .iload 2, .aaload, .getfield 386, .ifCond .eq 60, .iload 2, .iload 1, .if_icmp .eq 60, .aload 0, .getfield 64, .iload 2, .aload 0, .getfield 73, .getfield 129, .iload 2, .aaload, .getfield 385, .invokevirtual 41, .jsr 60]),
  (60, [.iinc 2 1, .goto 9]),
  (66, [.return_])]
/-- 40: RailPower$Circuit.clearStations()V -/
def am_L40 : List (Nat × List Instr) := [(0, [.aload 0, .bipush 0, .putfield 5, .return_])]
/-- 41: RailPower$Circuit.addStation(II)V -/
def am_L41 : List (Nat × List Instr) := [(0, [.aload 0, .getfield 5, .bipush 5, .if_icmp .lt 9, .return_]),
  (9, [.aload 0, .getfield 5, .istore 3, .jsr 14]),
  (14, [.iload 3, .ifCond .le 64, .aload 0, .getfield 1, .iload 3, .bipush 1, .isub, .iaload, .iload 2, .if_icmp .le 64, .aload 0, .getfield 1, .iload 3, .aload 0, .getfield 1, .iload 3, .bipush 1, .isub, .iaload, .iastore, .aload 0, .getfield 0, .iload 3, .aload 0, .getfield 0, .iload 3, .bipush 1, .isub, .iaload, .iastore, .iinc 3 (-1), .goto 14]),
  (64, [.aload 0, .getfield 1, .iload 3, .iload 2, .iastore, .aload 0, .getfield 0, .iload 3, .iload 1, .iastore, .aload 0, .dup, .getfield 5, .bipush 1, .iadd, .putfield 5, .return_])]
/-- 42: RailPower$Day.takeLoads(I[I)Z -/
def am_L42 : List (Nat × List Instr) := [(0, [.bipush 0, .istore 3, .aload 0, .getfield 64, .invokevirtual 43, .bipush 0, .istore 4, .jsr 12]),
  (12, [.iload 4, .aload 0, .getfield 73, .getfield 133, .if_icmp .ge 109, .iload 1, .aload 2, .iload 4, .iaload, .isub, .istore 5, .iload 5, .invokevirtual 23, .ifCond .eq 103, .aload 0, .getfield 73, .getfield 130, .iload 4, .aaload, .getfield 448, .iload 5, .iaload, .bipush (-1), .if_icmp .eq 103, .aload 0, .getfield 64, .iload 4, .aload 0, .getfield 73, .getfield 130, .iload 4, .aaload, .getfield 448, .iload 5, .iaload, .aload 0, .getfield 73, .getfield 130, .iload 4, .aaload, .getfield 449, .iload 5, .iaload, .invokevirtual 44, .bipush 1, .istore 3, .jsr 103]),
  (103, [.iinc 4 1, .goto 12]),
  (109, [.iload 3, .areturn])]
/-- 43: RailPower$Circuit.clearLoads()V -/
def am_L43 : List (Nat × List Instr) := [(0, [.bipush 0, .istore 1, .jsr 2]),
  (2, [.iload 1, .bipush 5, .if_icmp .ge 27, .aload 0, .getfield 6, .iload 1, .bipush 0, .bastore, .aload 0, .getfield 8, .iload 1, .bipush 0, .iastore, .iinc 1 1, .goto 2]),
  (27, [.return_])]
/-- 44: RailPower$Circuit.addLoad(III)V -/
def am_L44 : List (Nat × List Instr) := [(0, [.aload 0, .getfield 6, .iload 1, .bipush 1, .bastore, .aload 0, .getfield 7, .iload 1, .iload 2, .iastore, .aload 0, .getfield 8, .iload 1, .iload 3, .iastore, .return_])]
/-- 45: RailPower$Circuit.settle()V -/
def am_L45 : List (Nat × List Instr) := [(0, [.bipush 0, .istore 1, .jsr 2]),
  (2, [.iload 1, .bipush 45, .if_icmp .gt 48, .aload 0, .invokevirtual 46, .ifCond .eq 22, .aload 0, .invokevirtual 53, .goto 26]),
  (22, [.aload 0, .invokevirtual 54, .jsr 26]),
  (26, [.istore 2, .iload 2, .ifCond .ge 32, .return_]),
  (32, [.aload 0, .getfield 8, .iload 2, .dup2, .iaload, .bipush 2, .idiv, .iastore, .iinc 1 1, .goto 2]),
  (48, [.return_])]
/-- 46: RailPower$Circuit.findFeeding()Z -/
def am_L46 : List (Nat × List Instr) := [(0, [.aload 0, .invokevirtual 47, .sipush 0, .lcmp, .ifCond .ge 11, .bipush 0, .areturn]),
  (11, [.bipush 0, .istore 1, .jsr 13]),
  (13, [.iload 1, .aload 0, .getfield 5, .if_icmp .ge 34, .aload 0, .getfield 2, .iload 1, .bipush 1, .bastore, .iinc 1 1, .goto 13]),
  (34, [.bipush 0, .istore 1, .jsr 36]),
  (36, [.iload 1, .aload 0, .getfield 5, .if_icmp .ge 64, .aload 0, .invokevirtual 48, .aload 0, .invokevirtual 51, .ifCond .ne 58, .goto 64]),
  (58, [.iinc 1 1, .goto 36]),
  (64, [.aload 0, .invokevirtual 52, .bipush 1, .areturn])]
/-- 47: RailPower$Circuit.pulledTogether()J -/
def am_L47 : List (Nat × List Instr) := [(0, [.sipush 0, .lstore 1, .bipush 0, .istore 3, .jsr 4]),
  (4, [.iload 3, .bipush 5, .if_icmp .ge 25, .lload 1, .aload 0, .getfield 8, .iload 3, .iaload, .i2l, .ladd, .lstore 1, .iinc 3 1, .goto 4]),
  (25, [.lload 1, .lreturn])]
/-- 48: RailPower$Circuit.weigh()V -/
def am_L48 : List (Nat × List Instr) := [(0, [.bipush (-1), .istore 1, .bipush 0, .istore 2, .jsr 4]),
  (4, [.iload 2, .aload 0, .getfield 5, .if_icmp .ge 40, .aload 0, .getfield 2, .iload 2, .baload, .ifCond .eq 34, .aload 0, .iload 2, .iload 1, .aload 0, .iload 2, .invokevirtual 49, .invokevirtual 50, .iload 2, .istore 1, .jsr 34]),
  (34, [.iinc 2 1, .goto 4]),
  (40, [.return_])]
/-- 49: RailPower$Circuit.nextFeeding(I)I -/
def am_L49 : List (Nat × List Instr) := [(0, [.iload 1, .bipush 1, .iadd, .istore 2, .jsr 4]),
  (4, [.iload 2, .aload 0, .getfield 5, .if_icmp .ge 29, .aload 0, .getfield 2, .iload 2, .baload, .ifCond .eq 23, .iload 2, .ireturn]),
  (23, [.iinc 2 1, .goto 4]),
  (29, [.bipush (-1), .ireturn])]
/-- 50: RailPower$Circuit.weighOne(III)V -/
def am_L50 : List (Nat × List Instr) := [(0, [.aload 0, .getfield 1, .iload 1, .iaload, .istore 4, .iload 2, .ifCond .ge 16, .sipush 1, .goto 26]),
  (16, [.iload 4, .aload 0, .getfield 1, .iload 2, .iaload, .isub, .i2l, .jsr 26]),
  (26, [.lstore 5, .iload 3, .ifCond .ge 36, .sipush 1, .goto 46]),
  (36, [.aload 0, .getfield 1, .iload 3, .iaload, .iload 4, .isub, .i2l, .jsr 46]),
  (46, [.lstore 7, .sipush 0, .lstore 9, .bipush 0, .istore 11, .jsr 54]),
  (54, [.iload 11, .bipush 5, .if_icmp .ge 205, .aload 0, .getfield 6, .iload 11, .baload, .ifCond .ne 73, .goto 199]),
  (73, [.aload 0, .getfield 7, .iload 11, .iaload, .istore 12, .iload 12, .iload 4, .if_icmp .ge 131, .lload 9, .aload 0, .getfield 8, .iload 11, .iaload, .i2l, .lload 7, .lmul, .iload 2, .ifCond .ge 110, .bipush 1, .goto 123]),
  (110, [.bipush 0, .iload 12, .aload 0, .getfield 1, .iload 2, .iaload, .isub, .fadd, .jsr 123]),
  (123, [.i2l, .lmul, .ladd, .lstore 9, .goto 199]),
  (131, [.iload 12, .iload 4, .if_icmp .le 180, .lload 9, .aload 0, .getfield 8, .iload 11, .iaload, .i2l, .lload 5, .lmul, .iload 3, .ifCond .ge 159, .bipush 1, .goto 172]),
  (159, [.bipush 0, .aload 0, .getfield 1, .iload 3, .iaload, .iload 12, .isub, .fadd, .jsr 172]),
  (172, [.i2l, .lmul, .ladd, .lstore 9, .goto 199]),
  (180, [.lload 9, .aload 0, .getfield 8, .iload 11, .iaload, .i2l, .lload 5, .lmul, .lload 7, .lmul, .ladd, .lstore 9, .jsr 199]),
  (199, [.iinc 11 1, .goto 54]),
  (205, [.aload 0, .getfield 3, .iload 1, .lload 9, .lastore, .aload 0, .getfield 4, .iload 1, .lload 5, .lload 7, .lmul, .lastore, .return_])]
/-- 51: RailPower$Circuit.leaveOutTaking()Z -/
def am_L51 : List (Nat × List Instr) := [(0, [.bipush 0, .istore 1, .bipush 0, .istore 2, .jsr 4]),
  (4, [.iload 2, .aload 0, .getfield 5, .if_icmp .ge 47, .aload 0, .getfield 2, .iload 2, .baload, .ifCond .eq 41, .aload 0, .getfield 3, .iload 2, .laload, .sipush 0, .lcmp, .ifCond .ge 41, .aload 0, .getfield 2, .iload 2, .bipush 0, .bastore, .bipush 1, .istore 1, .jsr 41]),
  (41, [.iinc 2 1, .goto 4]),
  (47, [.iload 1, .areturn])]
/-- 52: RailPower$Circuit.leaveOutIdle()V -/
def am_L52 : List (Nat × List Instr) := [(0, [.bipush (-1), .istore 1, .bipush 0, .istore 2, .bipush 0, .istore 3, .jsr 6]),
  (6, [.iload 3, .aload 0, .getfield 5, .if_icmp .ge 71, .aload 0, .getfield 2, .iload 3, .baload, .ifCond .eq 65, .iload 2, .ifCond .ne 38, .aload 0, .getfield 3, .iload 3, .laload, .sipush 0, .lcmp, .ifCond .le 42, .jsr 38]),
  (38, [.bipush 1, .goto 43]),
  (42, [.bipush 0, .jsr 43]),
  (43, [.istore 2, .iload 1, .ifCond .lt 63, .aload 0, .getfield 0, .iload 3, .iaload, .aload 0, .getfield 0, .iload 1, .iaload, .if_icmp .ge 65, .jsr 63]),
  (63, [.iload 3, .istore 1, .jsr 65]),
  (65, [.iinc 3 1, .goto 6]),
  (71, [.bipush 0, .istore 3, .jsr 73]),
  (73, [.iload 3, .aload 0, .getfield 5, .if_icmp .ge 114, .aload 0, .getfield 3, .iload 3, .laload, .sipush 0, .lcmp, .ifCond .ne 108, .iload 2, .ifCond .ne 101, .iload 3, .iload 1, .if_icmp .eq 108, .jsr 101]),
  (101, [.aload 0, .getfield 2, .iload 3, .bipush 0, .bastore, .jsr 108]),
  (108, [.iinc 3 1, .goto 73]),
  (114, [.return_])]
/-- 53: RailPower$Circuit.highestIfAnyTooHigh()I -/
def am_L53 : List (Nat × List Instr) := [(0, [.aload 0, .invokevirtual 54, .ifCond .ge 9, .bipush (-1), .ireturn]),
  (9, [.bipush (-1), .istore 1, .bipush 0, .istore 2, .bipush 0, .istore 3, .jsr 15]),
  (15, [.iload 3, .bipush 5, .if_icmp .ge 138, .aload 0, .getfield 6, .iload 3, .baload, .ifCond .ne 32, .goto 132]),
  (32, [.aload 0, .aload 0, .getfield 7, .iload 3, .iaload, .aload 0, .getfield 10, .invokevirtual 55, .iload 2, .ifCond .ne 76, .aload 0, .getfield 10, .getfield 256, .aload 0, .getfield 9, .bipush 3, .iaload, .i2l, .aload 0, .getfield 10, .getfield 257, .lmul, .lcmp, .ifCond .le 80, .jsr 76]),
  (76, [.bipush 1, .goto 81]),
  (80, [.bipush 0, .jsr 81]),
  (81, [.istore 2, .aload 0, .getfield 8, .iload 3, .iaload, .ifCond .ge 132, .iload 1, .ifCond .lt 109, .aload 0, .getfield 11, .aload 0, .getfield 10, .invokevirtual 59, .ifCond .eq 132, .jsr 109]),
  (109, [.iload 3, .istore 1, .aload 0, .getfield 11, .aload 0, .getfield 10, .getfield 256, .aload 0, .getfield 10, .getfield 257, .invokevirtual 58, .jsr 132]),
  (132, [.iinc 3 1, .goto 15]),
  (138, [.iload 2, .ifCond .eq 146, .iload 1, .goto 147]),
  (146, [.bipush (-1), .jsr 147]),
  (147, [.ireturn])]
/-- 54: RailPower$Circuit.givingBackMost()I -/
def am_L54 : List (Nat × List Instr) := [(0, [.bipush (-1), .istore 1, .bipush 0, .istore 2, .jsr 4]),
  (4, [.iload 2, .bipush 5, .if_icmp .ge 45, .aload 0, .getfield 8, .iload 2, .iaload, .ifCond .ge 39, .iload 1, .ifCond .lt 37, .aload 0, .getfield 8, .iload 2, .iaload, .aload 0, .getfield 8, .iload 1, .iaload, .if_icmp .ge 39, .jsr 37]),
  (37, [.iload 2, .istore 1, .jsr 39]),
  (39, [.iinc 2 1, .goto 4]),
  (45, [.iload 1, .ireturn])]
/-- 55: RailPower$Circuit.voltsAt(ILRailPower$Share;)V -/
def am_L55 : List (Nat × List Instr) := [(0, [.bipush (-1), .istore 3, .bipush (-1), .istore 4, .bipush 0, .istore 5, .jsr 8]),
  (8, [.iload 5, .aload 0, .getfield 5, .if_icmp .ge 77, .aload 0, .getfield 2, .iload 5, .baload, .ifCond .eq 41, .aload 0, .getfield 1, .iload 5, .iaload, .iload 1, .if_icmp .gt 41, .iload 5, .istore 3, .jsr 41]),
  (41, [.aload 0, .getfield 2, .iload 5, .baload, .ifCond .eq 71, .aload 0, .getfield 1, .iload 5, .iaload, .iload 1, .if_icmp .lt 71, .iload 4, .ifCond .ge 71, .iload 5, .istore 4, .jsr 71]),
  (71, [.iinc 5 1, .goto 8]),
  (77, [.sipush 1, .lstore 5, .sipush 0, .lstore 7, .iload 3, .ifCond .lt 133, .iload 4, .iload 3, .if_icmp .le 133, .aload 0, .getfield 1, .iload 4, .iaload, .aload 0, .getfield 1, .iload 3, .iaload, .isub, .i2l, .lstore 5, .aload 0, .aload 0, .getfield 1, .iload 3, .iaload, .aload 0, .getfield 1, .iload 4, .iaload, .iload 1, .invokevirtual 56, .lstore 7, .goto 157]),
  (133, [.iload 3, .iload 4, .if_icmp .eq 157, .aload 0, .aload 0, .getfield 1, .iload 3, .iload 4, .fadd, .iaload, .iload 1, .invokevirtual 57, .lstore 7, .jsr 157]),
  (157, [.aload 2, .sipush 1000, .aload 0, .getfield 9, .bipush 2, .iaload, .i2l, .lmul, .lload 5, .lmul, .aload 0, .getfield 9, .bipush 1, .iaload, .i2l, .lload 7, .lmul, .lsub, .sipush 1000, .lload 5, .lmul, .invokevirtual 58, .return_])]
/-- 56: RailPower$Circuit.lostBetween(III)J -/
def am_L56 : List (Nat × List Instr) := [(0, [.sipush 0, .lstore 4, .bipush 0, .istore 6, .jsr 6]),
  (6, [.iload 6, .bipush 5, .if_icmp .ge 82, .aload 0, .getfield 7, .iload 6, .iaload, .istore 7, .aload 0, .getfield 6, .iload 6, .baload, .ifCond .eq 76, .iload 7, .iload 1, .if_icmp .le 76, .iload 7, .iload 2, .if_icmp .ge 76, .lload 4, .aload 0, .getfield 8, .iload 6, .iaload, .i2l, .iload 3, .iload 7, .fsub, .iload 1, .isub, .i2l, .lmul, .iload 2, .iload 3, .iload 7, .fadd, .isub, .i2l, .lmul, .ladd, .lstore 4, .jsr 76]),
  (76, [.iinc 6 1, .goto 6]),
  (82, [.lload 4, .lreturn])]
/-- 57: RailPower$Circuit.lostBeyond(II)J -/
def am_L57 : List (Nat × List Instr) := [(0, [.sipush 0, .lstore 3, .bipush 0, .istore 5, .jsr 5]),
  (5, [.iload 5, .bipush 5, .if_icmp .ge 89, .aload 0, .getfield 7, .iload 5, .iaload, .istore 6, .aload 0, .getfield 6, .iload 5, .baload, .ifCond .eq 83, .iload 6, .iload 1, .if_icmp .le 40, .bipush 1, .goto 41]),
  (40, [.bipush 0, .jsr 41]),
  (41, [.iload 2, .iload 1, .if_icmp .le 50, .bipush 1, .goto 51]),
  (50, [.bipush 0, .jsr 51]),
  (51, [.if_icmp .ne 83, .lload 3, .aload 0, .getfield 8, .iload 5, .iaload, .i2l, .iload 2, .iload 1, .isub, .fmul, .iload 6, .iload 1, .isub, .fmul, .fsub, .i2l, .lmul, .ladd, .lstore 3, .jsr 83]),
  (83, [.iinc 5 1, .goto 5]),
  (89, [.lload 3, .lreturn])]
/-- 58: RailPower$Share.become(JJ)V -/
def am_L58 : List (Nat × List Instr) := [(0, [.aload 0, .lload 1, .putfield 256, .aload 0, .lload 3, .putfield 257, .return_])]
/-- 59: RailPower$Share.isBelow(LRailPower$Share;)Z -/
def am_L59 : List (Nat × List Instr) := [(0, [.aload 0, .getfield 256, .aload 1, .getfield 257, .lmul, .aload 1, .getfield 256, .aload 0, .getfield 257, .lmul, .lcmp, .ifCond .ge 26, .bipush 1, .goto 27]),
  (26, [.bipush 0, .jsr 27]),
  (27, [.areturn])]
/-- 60: RailPower.feeds(I)I -/
def am_L60 : List (Nat × List Instr) := [(0, [.iload 1, .invokevirtual 23, .ifCond .ne 9, .bipush (-1), .ireturn]),
  (9, [.aload 0, .getfield 512, .invokevirtual 36, .ifCond .eq 22, .bipush (-3), .ireturn]),
  (22, [.aload 0, .getfield 513, .iload 1, .invokevirtual 38, .aload 0, .getfield 513, .getfield 64, .invokevirtual 61, .ireturn])]
/-- 61: RailPower$Circuit.bits()I -/
def am_L61 : List (Nat × List Instr) := [(0, [.bipush 0, .istore 1, .bipush 0, .istore 2, .jsr 4]),
  (4, [.iload 2, .aload 0, .getfield 5, .if_icmp .ge 38, .aload 0, .getfield 2, .iload 2, .baload, .ifCond .eq 32, .iload 1, .bipush 1, .aload 0, .getfield 0, .iload 2, .iaload, .ishl, .ior, .istore 1, .jsr 32]),
  (32, [.iinc 2 1, .goto 4]),
  (38, [.iload 1, .ireturn])]
/-- 62: RailPower.volts(III)J -/
def am_L62 : List (Nat × List Instr) := [(0, [.iload 1, .invokevirtual 23, .ifCond .eq 35, .aload 0, .getfield 512, .iload 2, .invokevirtual 14, .ifCond .eq 35, .iload 3, .invokevirtual 63, .ifCond .eq 35, .aload 0, .getfield 512, .invokevirtual 36, .ifCond .eq 39, .jsr 35]),
  (35, [.sipush (-9223372036854775808), .lreturn]),
  (39, [.aload 0, .getfield 513, .iload 1, .invokevirtual 38, .aload 0, .getfield 513, .getfield 64, .iload 2, .aload 0, .getfield 515, .invokevirtual 55, .aload 0, .getfield 515, .iload 3, .invokevirtual 64, .lreturn])]
/-- 63: RailPower.isHalf(I)Z -/
def am_L63 : List (Nat × List Instr) := [(0, [.iload 0, .ifCond .eq 9, .iload 0, .bipush 1, .if_icmp .ne 13, .jsr 9]),
  (9, [.bipush 1, .goto 14]),
  (13, [.bipush 0, .jsr 14]),
  (14, [.areturn])]
/-- 64: RailPower$Share.told(I)J -/
def am_L64 : List (Nat × List Instr) := [(0, [.aload 0, .getfield 256, .fdiv, .aload 0, .getfield 257, .invokevirtual 65, .lstore 2, .lload 2, .sipush 0, .lcmp, .ifCond .gt 25, .sipush (-9223372036854775808), .lreturn]),
  (25, [.iload 1, .ifCond .ne 38, .aload 0, .getfield 256, .lload 2, .ldiv, .goto 44]),
  (38, [.aload 0, .getfield 257, .lload 2, .ldiv, .jsr 44]),
  (44, [.lreturn])]
/-- 65: RailPower$Share.greatestDivisor(JJ)J -/
def am_L65 : List (Nat × List Instr) := [(0, [.lload 0, .lstore 4, .lload 2, .lstore 6, .bipush 0, .istore 8, .jsr 9]),
  (9, [.iload 8, .bipush 100, .if_icmp .ge 44, .lload 6, .sipush 0, .lcmp, .ifCond .eq 44, .lload 4, .lload 6, .lrem, .lstore 9, .lload 6, .lstore 4, .lload 9, .lstore 6, .iinc 8 1, .goto 9]),
  (44, [.lload 4, .lreturn])]
/-- 66: RailPower.gives(III)J -/
def am_L66 : List (Nat × List Instr) := [(0, [.iload 1, .invokevirtual 23, .ifCond .eq 35, .aload 0, .getfield 512, .iload 2, .invokevirtual 17, .ifCond .eq 35, .iload 3, .invokevirtual 63, .ifCond .eq 35, .aload 0, .getfield 512, .invokevirtual 36, .ifCond .eq 39, .jsr 35]),
  (35, [.sipush (-9223372036854775808), .lreturn]),
  (39, [.aload 0, .getfield 513, .iload 1, .invokevirtual 38, .aload 0, .getfield 513, .getfield 64, .iload 2, .aload 0, .getfield 515, .invokevirtual 67, .aload 0, .getfield 515, .iload 3, .invokevirtual 64, .lreturn])]
/-- 67: RailPower$Circuit.givenBy(ILRailPower$Share;)V -/
def am_L67 : List (Nat × List Instr) := [(0, [.aload 2, .sipush 0, .sipush 1, .invokevirtual 58, .bipush 0, .istore 3, .jsr 8]),
  (8, [.iload 3, .aload 0, .getfield 5, .if_icmp .ge 57, .aload 0, .getfield 2, .iload 3, .baload, .ifCond .eq 51, .aload 0, .getfield 0, .iload 3, .iaload, .iload 1, .if_icmp .ne 51, .aload 2, .aload 0, .getfield 3, .iload 3, .laload, .aload 0, .getfield 4, .iload 3, .laload, .invokevirtual 58, .jsr 51]),
  (51, [.iinc 3 1, .goto 8]),
  (57, [.return_])]
/-- 68: RailPower.lowest(I)J -/
def am_L68 : List (Nat × List Instr) := [(0, [.iload 1, .ifCond .lt 19, .iload 1, .bipush 3, .if_icmp .gt 19, .aload 0, .getfield 512, .invokevirtual 36, .ifCond .eq 23, .jsr 19]),
  (19, [.sipush (-9223372036854775808), .lreturn]),
  (23, [.aload 0, .getfield 513, .bipush (-9), .invokevirtual 39, .aload 0, .getfield 513, .sipush (-1000000000), .sipush 1, .invokevirtual 69, .ifCond .ne 50, .sipush (-9223372036854775808), .lreturn]),
  (50, [.iload 1, .bipush 2, .if_icmp .ne 64, .aload 0, .getfield 513, .getfield 66, .i2l, .lreturn]),
  (64, [.iload 1, .bipush 3, .if_icmp .ne 80, .aload 0, .getfield 513, .getfield 67, .i2l, .goto 91]),
  (80, [.aload 0, .getfield 513, .getfield 65, .iload 1, .invokevirtual 64, .jsr 91]),
  (91, [.lreturn])]
/-- 69: RailPower$Day.findLowest(JJ)Z -/
def am_L69 : List (Nat × List Instr) := [(0, [.bipush 0, .istore 5, .aload 0, .getfield 75, .lload 1, .lload 3, .invokevirtual 58, .bipush 0, .istore 6, .jsr 15]),
  (15, [.iload 6, .bipush 24, .if_icmp .ge 79, .aload 0, .iload 6, .aload 0, .getfield 73, .getfield 131, .invokevirtual 42, .ifCond .eq 73, .aload 0, .getfield 64, .invokevirtual 45, .aload 0, .iload 6, .iload 5, .invokevirtual 70, .bipush 1, .istore 5, .aload 0, .getfield 75, .aload 0, .getfield 65, .invokevirtual 59, .ifCond .ne 73, .goto 79]),
  (73, [.iinc 6 1, .goto 15]),
  (79, [.iload 5, .areturn])]
/-- 70: RailPower$Day.sinkToLowest(IZ)V -/
def am_L70 : List (Nat × List Instr) := [(0, [.iload 2, .istore 3, .bipush 0, .istore 4, .jsr 5]),
  (5, [.iload 4, .aload 0, .getfield 73, .getfield 133, .if_icmp .ge 109, .aload 0, .getfield 64, .getfield 6, .iload 4, .baload, .ifCond .eq 103, .aload 0, .getfield 64, .aload 0, .getfield 64, .getfield 7, .iload 4, .iaload, .aload 0, .getfield 74, .invokevirtual 55, .iload 3, .ifCond .eq 69, .aload 0, .getfield 74, .aload 0, .getfield 65, .invokevirtual 59, .ifCond .eq 103, .jsr 69]),
  (69, [.aload 0, .getfield 65, .aload 0, .getfield 74, .getfield 256, .aload 0, .getfield 74, .getfield 257, .invokevirtual 58, .aload 0, .iload 1, .putfield 66, .aload 0, .iload 4, .putfield 67, .bipush 1, .istore 3, .jsr 103]),
  (103, [.iinc 4 1, .goto 5]),
  (109, [.return_])]
/-- 71: RailPower.safe()I -/
def am_L71 : List (Nat × List Instr) := [(0, [.aload 0, .getfield 512, .invokevirtual 36, .ifCond .eq 13, .bipush (-3), .ireturn]),
  (13, [.aload 0, .getfield 513, .bipush (-9), .invokevirtual 72, .ifCond .eq 29, .bipush 1, .goto 30]),
  (29, [.bipush 0, .jsr 30]),
  (30, [.ireturn])]
/-- 72: RailPower$Day.isSafeWithout(I)Z -/
def am_L72 : List (Nat × List Instr) := [(0, [.aload 0, .iload 1, .invokevirtual 39, .aload 0, .getfield 64, .getfield 5, .ifCond .ne 17, .bipush 0, .areturn]),
  (17, [.aload 0, .sipush (-1000000000), .sipush 1, .invokevirtual 69, .ifCond .eq 57, .aload 0, .getfield 65, .getfield 256, .aload 0, .getfield 73, .getfield 128, .bipush 4, .iaload, .i2l, .aload 0, .getfield 65, .getfield 257, .lmul, .lcmp, .ifCond .lt 61, .jsr 57]),
  (57, [.bipush 1, .goto 62]),
  (61, [.bipush 0, .jsr 62]),
  (62, [.areturn])]
/-- 73: RailPower.firstOut()I -/
def am_L73 : List (Nat × List Instr) := [(0, [.aload 0, .getfield 512, .invokevirtual 36, .ifCond .eq 13, .bipush (-3), .ireturn]),
  (13, [.bipush 0, .istore 1, .jsr 15]),
  (15, [.iload 1, .aload 0, .getfield 512, .getfield 132, .if_icmp .ge 60, .aload 0, .getfield 512, .getfield 129, .iload 1, .aaload, .getfield 386, .ifCond .eq 54, .aload 0, .getfield 513, .iload 1, .invokevirtual 72, .ifCond .ne 54, .iload 1, .ireturn]),
  (54, [.iinc 1 1, .goto 15]),
  (60, [.bipush (-9), .ireturn])]
/-- 74: RailPower.most(I)J -/
def am_L74 : List (Nat × List Instr) := [(0, [.iload 1, .invokevirtual 63, .ifCond .eq 17, .aload 0, .getfield 512, .invokevirtual 36, .ifCond .eq 21, .jsr 17]),
  (17, [.sipush (-9223372036854775808), .lreturn]),
  (21, [.aload 0, .getfield 513, .bipush (-9), .invokevirtual 39, .aload 0, .getfield 513, .aload 0, .getfield 512, .getfield 131, .sipush 1000000000, .sipush 1, .invokevirtual 75, .aload 0, .getfield 513, .getfield 68, .iload 1, .invokevirtual 64, .lreturn])]
/-- 75: RailPower$Day.findMost([IJJ)V -/
def am_L75 : List (Nat × List Instr) := [(0, [.aload 0, .getfield 75, .lload 2, .lload 4, .invokevirtual 58, .aload 0, .getfield 68, .sipush 0, .sipush 1, .invokevirtual 58, .bipush 0, .istore 6, .jsr 22]),
  (22, [.iload 6, .bipush 24, .if_icmp .ge 78, .aload 0, .iload 6, .aload 1, .invokevirtual 42, .ifCond .eq 72, .aload 0, .getfield 64, .invokevirtual 45, .aload 0, .getfield 64, .aload 0, .getfield 68, .invokevirtual 76, .aload 0, .getfield 68, .aload 0, .getfield 75, .invokevirtual 59, .ifCond .ne 72, .return_]),
  (72, [.iinc 6 1, .goto 22]),
  (78, [.return_])]
/-- 76: RailPower$Circuit.raiseToMost(LRailPower$Share;)V -/
def am_L76 : List (Nat × List Instr) := [(0, [.bipush 0, .istore 2, .jsr 2]),
  (2, [.iload 2, .aload 0, .getfield 5, .if_icmp .ge 71, .aload 0, .getfield 2, .iload 2, .baload, .ifCond .eq 65, .aload 0, .getfield 10, .aload 0, .getfield 3, .iload 2, .laload, .aload 0, .getfield 4, .iload 2, .laload, .invokevirtual 58, .aload 1, .aload 0, .getfield 10, .invokevirtual 59, .ifCond .eq 65, .aload 1, .aload 0, .getfield 3, .iload 2, .laload, .aload 0, .getfield 4, .iload 2, .laload, .invokevirtual 58, .jsr 65]),
  (65, [.iinc 2 1, .goto 2]),
  (71, [.return_])]
/-- 77: RailPower.shorted(II)I -/
def am_L77 : List (Nat × List Instr) := [(0, [.aload 0, .getfield 512, .iload 1, .invokevirtual 14, .ifCond .ne 13, .bipush (-1), .ireturn]),
  (13, [.iload 2, .invokevirtual 78, .ifCond .ne 23, .bipush (-2), .ireturn]),
  (23, [.aload 0, .getfield 512, .invokevirtual 36, .ifCond .eq 36, .bipush (-3), .ireturn]),
  (36, [.aload 0, .getfield 513, .bipush (-9), .invokevirtual 39, .aload 0, .getfield 513, .iload 1, .iload 2, .invokevirtual 79, .aload 0, .getfield 513, .getfield 64, .invokevirtual 61, .ireturn])]
/-- 78: RailPower.isFaultCurrent(I)Z -/
def am_L78 : List (Nat × List Instr) := [(0, [.iload 0, .bipush 1, .if_icmp .lt 15, .iload 0, .bipush 100000, .if_icmp .gt 15, .bipush 1, .goto 16]),
  (15, [.bipush 0, .jsr 16]),
  (16, [.areturn])]
/-- 79: RailPower$Day.feedFault(II)V -/
def am_L79 : List (Nat × List Instr) := [(0, [.aload 0, .getfield 64, .invokevirtual 43, .aload 0, .getfield 64, .bipush 0, .iload 1, .iload 2, .invokevirtual 44, .aload 0, .getfield 64, .invokevirtual 46, .pop, .return_])]
/-- 80: RailPower.right(I)I -/
def am_L80 : List (Nat × List Instr) := [(0, [.iload 1, .invokevirtual 78, .ifCond .ne 10, .bipush (-2), .ireturn]),
  (10, [.aload 0, .getfield 512, .invokevirtual 36, .ifCond .eq 23, .bipush (-3), .ireturn]),
  (23, [.aload 0, .getfield 513, .bipush (-9), .invokevirtual 39, .aload 0, .getfield 513, .invokevirtual 81, .ifCond .eq 44, .bipush 1, .ireturn]),
  (44, [.aload 0, .getfield 513, .iload 1, .invokevirtual 83, .ifCond .eq 59, .bipush 0, .goto 60]),
  (59, [.bipush 2, .jsr 60]),
  (60, [.ireturn])]
/-- 81: RailPower$Day.trainsTrip()Z -/
def am_L81 : List (Nat × List Instr) := [(0, [.bipush 0, .istore 1, .jsr 2]),
  (2, [.iload 1, .bipush 24, .if_icmp .ge 43, .aload 0, .iload 1, .aload 0, .getfield 73, .getfield 131, .invokevirtual 42, .pop, .aload 0, .getfield 64, .invokevirtual 45, .aload 0, .invokevirtual 82, .ifCond .eq 37, .bipush 1, .areturn]),
  (37, [.iinc 1 1, .goto 2]),
  (43, [.bipush 0, .areturn])]
/-- 82: RailPower$Day.someTrips()Z -/
def am_L82 : List (Nat × List Instr) := [(0, [.bipush 0, .istore 1, .jsr 2]),
  (2, [.iload 1, .aload 0, .getfield 64, .getfield 5, .if_icmp .ge 79, .aload 0, .getfield 73, .getfield 129, .aload 0, .getfield 64, .getfield 0, .iload 1, .iaload, .aaload, .getfield 387, .i2l, .lstore 2, .aload 0, .getfield 64, .getfield 2, .iload 1, .baload, .ifCond .eq 73, .aload 0, .getfield 64, .getfield 3, .iload 1, .laload, .lload 2, .aload 0, .getfield 64, .getfield 4, .iload 1, .laload, .lmul, .lcmp, .ifCond .lt 73, .bipush 1, .areturn]),
  (73, [.iinc 1 1, .goto 2]),
  (79, [.bipush 0, .areturn])]
/-- 83: RailPower$Day.partsAll(I)Z -/
def am_L83 : List (Nat × List Instr) := [(0, [.bipush 0, .istore 2, .jsr 2]),
  (2, [.iload 2, .aload 0, .getfield 73, .getfield 128, .bipush 0, .iaload, .if_icmp .gt 36, .aload 0, .iload 2, .iload 1, .invokevirtual 79, .aload 0, .invokevirtual 82, .ifCond .ne 30, .bipush 0, .areturn]),
  (30, [.iinc 2 1, .goto 2]),
  (36, [.bipush 1, .areturn])]
/-- 84: RailPower.peak(II)J -/
def am_L84 : List (Nat × List Instr) := [(0, [.iload 2, .bipush 10, .if_icmp .lt 10, .bipush 1, .goto 11]),
  (10, [.bipush 0, .jsr 11]),
  (11, [.istore 3, .iload 1, .bipush 1, .if_icmp .lt 33, .iload 1, .bipush 2, .if_icmp .gt 33, .iload 3, .ifCond .ne 37, .iload 2, .invokevirtual 63, .ifCond .ne 37, .jsr 33]),
  (33, [.sipush (-9223372036854775808), .lreturn]),
  (37, [.iload 3, .ifCond .eq 55, .aload 0, .getfield 512, .iload 2, .bipush 10, .isub, .invokevirtual 22, .ifCond .eq 65, .jsr 55]),
  (55, [.aload 0, .getfield 512, .invokevirtual 36, .ifCond .eq 69, .jsr 65]),
  (65, [.sipush (-9223372036854775808), .lreturn]),
  (69, [.aload 0, .getfield 513, .getfield 69, .iload 1, .bipush 1, .isub, .aaload, .astore 4, .aload 4, .getfield 194, .ifCond .ne 100, .aload 0, .getfield 513, .iload 1, .aload 4, .invokevirtual 85, .jsr 100]),
  (100, [.iload 3, .ifCond .eq 118, .aload 4, .getfield 193, .iload 2, .bipush 10, .isub, .iaload, .i2l, .goto 127]),
  (118, [.aload 4, .getfield 192, .iload 2, .invokevirtual 64, .jsr 127]),
  (127, [.lreturn])]
/-- 85: RailPower$Day.findPeak(ILRailPower$Peak;)V -/
def am_L85 : List (Nat × List Instr) := [(0, [.bipush 1, .istore 3, .bipush 0, .istore 4, .jsr 5]),
  (5, [.iload 4, .aload 0, .getfield 73, .getfield 133, .if_icmp .ge 29, .iload 3, .iload 1, .bipush 1, .iadd, .imul, .istore 3, .iinc 4 1, .goto 5]),
  (29, [.aload 0, .bipush (-9), .invokevirtual 39, .aload 2, .getfield 192, .sipush 1000000000, .sipush 1, .invokevirtual 58, .bipush 0, .istore 4, .jsr 49]),
  (49, [.iload 4, .iload 3, .if_icmp .ge 156, .aload 0, .iload 4, .iload 1, .bipush 1, .iadd, .invokevirtual 86, .aload 0, .aload 0, .getfield 76, .aload 2, .getfield 192, .getfield 256, .aload 2, .getfield 192, .getfield 257, .invokevirtual 75, .aload 0, .getfield 68, .aload 2, .getfield 192, .invokevirtual 59, .ifCond .eq 150, .aload 2, .getfield 192, .aload 0, .getfield 68, .getfield 256, .aload 0, .getfield 68, .getfield 257, .invokevirtual 58, .bipush 0, .istore 5, .jsr 124]),
  (124, [.iload 5, .bipush 5, .if_icmp .ge 150, .aload 2, .getfield 193, .iload 5, .aload 0, .getfield 76, .iload 5, .iaload, .iastore, .iinc 5 1, .goto 124]),
  (150, [.iinc 4 1, .goto 49]),
  (156, [.aload 2, .bipush 1, .putfield 194, .return_])]
/-- 86: RailPower$Day.spread(II)V -/
def am_L86 : List (Nat × List Instr) := [(0, [.iload 1, .istore 3, .aload 0, .getfield 73, .getfield 133, .bipush 1, .isub, .istore 4, .jsr 13]),
  (13, [.iload 4, .ifCond .lt 54, .aload 0, .getfield 76, .iload 4, .iload 2, .ifCond .le 34, .iload 3, .iload 2, .irem, .goto 35]),
  (34, [.bipush 0, .jsr 35]),
  (35, [.iastore, .iload 2, .ifCond .le 46, .iload 3, .iload 2, .idiv, .goto 47]),
  (46, [.bipush 0, .jsr 47]),
  (47, [.istore 3, .iinc 4 (-1), .goto 13]),
  (54, [.return_])]
/-- 87: RailPower.used(I)J -/
def am_L87 : List (Nat × List Instr) := [(0, [.aload 0, .getfield 512, .iload 1, .invokevirtual 22, .ifCond .eq 21, .aload 0, .getfield 512, .invokevirtual 36, .ifCond .eq 25, .jsr 21]),
  (21, [.sipush (-9223372036854775808), .lreturn]),
  (25, [.aload 0, .getfield 513, .bipush (-9), .invokevirtual 39, .aload 0, .getfield 513, .iload 1, .invokevirtual 88, .lreturn])]
/-- 88: RailPower$Day.usedBy(I)J -/
def am_L88 : List (Nat × List Instr) := [(0, [.sipush 0, .lstore 2, .bipush 0, .istore 4, .jsr 5]),
  (5, [.iload 4, .bipush 24, .if_icmp .ge 91, .aload 0, .iload 4, .aload 0, .getfield 73, .getfield 131, .invokevirtual 42, .pop, .aload 0, .getfield 64, .getfield 6, .iload 1, .baload, .ifCond .eq 85, .aload 0, .getfield 64, .invokevirtual 45, .aload 0, .getfield 64, .aload 0, .getfield 64, .getfield 7, .iload 1, .iaload, .aload 0, .getfield 74, .invokevirtual 55, .lload 2, .aload 0, .getfield 74, .aload 0, .getfield 64, .getfield 8, .iload 1, .iaload, .i2l, .invokevirtual 89, .ladd, .lstore 2, .jsr 85]),
  (85, [.iinc 4 1, .goto 5]),
  (91, [.lload 2, .lreturn])]
/-- 89: RailPower$Share.times(J)J -/
def am_L89 : List (Nat × List Instr) := [(0, [.aload 0, .getfield 257, .sipush 0, .lcmp, .ifCond .le 23, .aload 0, .getfield 256, .lload 1, .lmul, .aload 0, .getfield 257, .ldiv, .goto 24]),
  (23, [.sipush 0, .jsr 24]),
  (24, [.lreturn])]
/-- 90: RailPower.given(I)J -/
def am_L90 : List (Nat × List Instr) := [(0, [.aload 0, .getfield 512, .iload 1, .invokevirtual 17, .ifCond .eq 21, .aload 0, .getfield 512, .invokevirtual 36, .ifCond .eq 25, .jsr 21]),
  (21, [.sipush (-9223372036854775808), .lreturn]),
  (25, [.aload 0, .getfield 513, .bipush (-9), .invokevirtual 39, .aload 0, .getfield 513, .iload 1, .invokevirtual 91, .lreturn])]
/-- 91: RailPower$Day.givenBy(I)J -/
def am_L91 : List (Nat × List Instr) := [(0, [.sipush 0, .lstore 2, .bipush 0, .istore 4, .jsr 5]),
  (5, [.iload 4, .bipush 24, .if_icmp .ge 73, .aload 0, .iload 4, .aload 0, .getfield 73, .getfield 131, .invokevirtual 42, .ifCond .eq 67, .aload 0, .getfield 64, .invokevirtual 45, .aload 0, .getfield 64, .iload 1, .aload 0, .getfield 74, .invokevirtual 67, .lload 2, .aload 0, .getfield 74, .aload 0, .getfield 73, .getfield 128, .bipush 2, .iaload, .i2l, .invokevirtual 89, .ladd, .lstore 2, .jsr 67]),
  (67, [.iinc 4 1, .goto 5]),
  (73, [.lload 2, .lreturn])]
/-- 92: RailPower.best(I)J -/
def am_L92 : List (Nat × List Instr) := [(0, [.iload 1, .ifCond .lt 20, .iload 1, .bipush 2, .if_icmp .gt 20, .aload 0, .getfield 512, .getfield 132, .bipush 5, .if_icmp .lt 24, .jsr 20]),
  (20, [.sipush (-9223372036854775808), .lreturn]),
  (24, [.aload 0, .getfield 513, .getfield 72, .ifCond .ne 41, .aload 0, .getfield 513, .invokevirtual 93, .jsr 41]),
  (41, [.aload 0, .getfield 513, .getfield 71, .bipush (-9), .if_icmp .ne 57, .sipush (-9223372036854775808), .lreturn]),
  (57, [.iload 1, .ifCond .ne 72, .aload 0, .getfield 513, .getfield 71, .i2l, .goto 85]),
  (72, [.aload 0, .getfield 513, .getfield 70, .iload 1, .bipush 1, .isub, .invokevirtual 64, .jsr 85]),
  (85, [.lreturn])]
/-- 93: RailPower$Day.findBest()V -/
def am_L93 : List (Nat × List Instr) := [(0, [.aload 0, .bipush (-9), .putfield 71, .aload 0, .getfield 70, .sipush (-1000000000), .sipush 1, .invokevirtual 58, .bipush 0, .istore 1, .jsr 19]),
  (19, [.iload 1, .aload 0, .getfield 73, .getfield 128, .bipush 0, .iaload, .if_icmp .gt 131, .aload 0, .getfield 73, .iload 1, .invokevirtual 15, .ifCond .ne 125, .aload 0, .bipush (-9), .invokevirtual 39, .aload 0, .getfield 64, .aload 0, .getfield 73, .getfield 132, .iload 1, .invokevirtual 41, .aload 0, .aload 0, .getfield 70, .getfield 256, .aload 0, .getfield 70, .getfield 257, .invokevirtual 69, .ifCond .eq 125, .aload 0, .getfield 70, .aload 0, .getfield 65, .invokevirtual 59, .ifCond .eq 125, .aload 0, .getfield 70, .aload 0, .getfield 65, .getfield 256, .aload 0, .getfield 65, .getfield 257, .invokevirtual 58, .aload 0, .iload 1, .putfield 71, .jsr 125]),
  (125, [.iinc 1 1, .goto 19]),
  (131, [.aload 0, .bipush 1, .putfield 72, .return_])]
/-- 94: RailPower.sheet(III)I -/
def am_L94 : List (Nat × List Instr) := [(0, [.aload 0, .bipush 0, .putfield 517, .iload 1, .invokevirtual 27, .ifCond .ne 14, .bipush (-1), .ireturn]),
  (14, [.iload 2, .invokevirtual 28, .ifCond .eq 27, .iload 3, .bipush 60, .if_icmp .le 30, .jsr 27]),
  (27, [.bipush (-2), .ireturn]),
  (30, [.iload 3, .ifCond .ge 40, .aload 0, .bipush 4, .invokevirtual 31, .ireturn]),
  (40, [.aload 0, .getfield 514, .iload 1, .aaload, .iload 2, .iload 3, .invokevirtual 95, .bipush 1, .ireturn])]
/-- 95: RailPower$Sheet.renew(II)V -/
def am_L95 : List (Nat × List Instr) := [(0, [.bipush 0, .istore 3, .jsr 2]),
  (2, [.iload 3, .bipush 60, .if_icmp .ge 21, .aload 0, .getfield 320, .iload 3, .bipush 0, .iastore, .iinc 3 1, .goto 2]),
  (21, [.aload 0, .iload 1, .putfield 321, .aload 0, .iload 2, .putfield 322, .return_])]
/-- 96: RailPower.lose(I)I -/
def am_L96 : List (Nat × List Instr) := [(0, [.iload 1, .invokevirtual 27, .ifCond .ne 9, .bipush (-1), .ireturn]),
  (9, [.aload 0, .getfield 514, .iload 1, .aaload, .getfield 321, .bipush (-1), .if_icmp .ne 24, .bipush 0, .ireturn]),
  (24, [.aload 0, .getfield 514, .iload 1, .aaload, .bipush (-1), .putfield 321, .bipush 1, .ireturn])]
/-- 97: RailPower.put(III)I -/
def am_L97 : List (Nat × List Instr) := [(0, [.aload 0, .bipush 0, .putfield 517, .iload 1, .invokevirtual 27, .ifCond .ne 14, .bipush (-1), .ireturn]),
  (14, [.aload 0, .getfield 514, .iload 1, .aaload, .getfield 321, .bipush (-1), .if_icmp .ne 33, .aload 0, .bipush 1, .invokevirtual 31, .ireturn]),
  (33, [.aload 0, .getfield 514, .iload 1, .aaload, .iload 2, .invokevirtual 98, .ifCond .ne 52, .aload 0, .bipush 3, .invokevirtual 31, .ireturn]),
  (52, [.aload 0, .getfield 514, .iload 1, .aaload, .iload 2, .iload 3, .invokevirtual 99, .bipush 1, .ireturn])]
/-- 98: RailPower$Sheet.holds(I)Z -/
def am_L98 : List (Nat × List Instr) := [(0, [.iload 1, .ifCond .lt 16, .iload 1, .aload 0, .getfield 322, .if_icmp .ge 16, .bipush 1, .goto 17]),
  (16, [.bipush 0, .jsr 17]),
  (17, [.areturn])]
/-- 99: RailPower$Sheet.write(II)V -/
def am_L99 : List (Nat × List Instr) := [(0, [.aload 0, .getfield 321, .ifCond .ne 18, .aload 0, .getfield 320, .iload 1, .iload 2, .i2b, .iastore, .goto 38]),
  (18, [.aload 0, .getfield 320, .iload 1, .aload 0, .getfield 321, .bipush 1, .if_icmp .ne 36, .iload 2, .i2s, .goto 37]),
  (36, [.iload 2, .jsr 37]),
  (37, [.iastore, .jsr 38]),
  (38, [.return_])]
/-- 100: RailPower.cell(III)J -/
def am_L100 : List (Nat × List Instr) := [(0, [.aload 0, .bipush 0, .putfield 517, .iload 1, .invokevirtual 27, .ifCond .eq 19, .iload 3, .invokevirtual 28, .ifCond .ne 23, .jsr 19]),
  (19, [.sipush (-9223372036854775808), .lreturn]),
  (23, [.aload 0, .getfield 514, .iload 1, .aaload, .iload 3, .invokevirtual 29, .istore 4, .iload 4, .ifCond .ne 56, .aload 0, .getfield 514, .iload 1, .aaload, .iload 2, .invokevirtual 98, .ifCond .ne 56, .bipush 3, .istore 4, .jsr 56]),
  (56, [.iload 4, .ifCond .eq 72, .aload 0, .iload 4, .invokevirtual 31, .pop, .sipush (-9223372036854775808), .lreturn]),
  (72, [.aload 0, .getfield 514, .iload 1, .aaload, .getfield 320, .iload 2, .iaload, .i2l, .lreturn])]
/-- 101: RailPower.tell(I)I -/
def am_L101 : List (Nat × List Instr) := [(0, [.aload 0, .getfield 512, .iload 1, .invokevirtual 17, .ifCond .ne 13, .bipush (-1), .ireturn]),
  (13, [.aload 0, .getfield 512, .getfield 129, .iload 1, .aaload, .astore 2, .aload 2, .getfield 384, .bipush 2, .if_icmp .ne 37, .aload 0, .aload 2, .invokevirtual 102, .ireturn]),
  (37, [.aload 2, .getfield 384, .bipush 1, .if_icmp .ne 53, .aload 0, .aload 2, .invokevirtual 104, .goto 58]),
  (53, [.aload 0, .aload 2, .invokevirtual 105, .jsr 58]),
  (58, [.ireturn])]
/-- 102: RailPower.tellWorks(LRailPower$Station;)I -/
def am_L102 : List (Nat × List Instr) := [(0, [.aload 0, .bipush 3, .invokevirtual 103, .aload 0, .aload 1, .invokevirtual 104, .istore 2, .iload 2, .aload 0, .aload 1, .invokevirtual 105, .iadd, .ireturn])]
/-- 103: RailPower.leaveTrace(I)V -/
def am_L103 : List (Nat × List Instr) := [(0, [.aload 0, .bipush 31, .aload 0, .getfield 516, .imul, .iload 1, .iadd, .putfield 516, .return_])]
/-- 104: RailPower.tellHouse(LRailPower$Station;)I -/
def am_L104 : List (Nat × List Instr) := [(0, [.aload 0, .bipush 2, .invokevirtual 103, .aload 0, .aload 1, .invokevirtual 105, .aload 1, .getfield 386, .ifCond .eq 23, .bipush 1000, .goto 24]),
  (23, [.bipush 0, .jsr 24]),
  (24, [.iadd, .ireturn])]
/-- 105: RailPower.tellPost(LRailPower$Station;)I -/
def am_L105 : List (Nat × List Instr) := [(0, [.aload 0, .bipush 1, .invokevirtual 103, .aload 1, .getfield 385, .ireturn])]
/-- 106: RailPower.call(I)I -/
def am_L106 : List (Nat × List Instr) := [(0, [.aload 0, .getfield 512, .iload 1, .invokevirtual 17, .ifCond .ne 13, .bipush (-1), .ireturn]),
  (13, [.aload 0, .getfield 512, .getfield 129, .iload 1, .aaload, .getfield 384, .bipush 2, .if_icmp .ne 37, .aload 0, .bipush 5, .invokevirtual 103, .bipush 50, .ireturn]),
  (37, [.aload 0, .bipush 4, .invokevirtual 103, .iload 1, .ireturn])]
/-- 107: RailPower.as(II)I -/
def am_L107 : List (Nat × List Instr) := [(0, [.aload 0, .bipush 0, .putfield 517, .aload 0, .getfield 512, .iload 1, .invokevirtual 17, .ifCond .ne 18, .bipush (-1), .ireturn]),
  (18, [.iload 2, .ifCond .lt 27, .iload 2, .bipush 2, .if_icmp .le 30, .jsr 27]),
  (27, [.bipush (-2), .ireturn]),
  (30, [.iload 2, .aload 0, .getfield 512, .getfield 129, .iload 1, .aaload, .getfield 384, .if_icmp .gt 50, .bipush 1, .goto 55]),
  (50, [.aload 0, .bipush 2, .invokevirtual 31, .jsr 55]),
  (55, [.ireturn])]
/-- 108: RailPower.trace()I -/
def am_L108 : List (Nat × List Instr) := [(0, [.aload 0, .getfield 516, .ireturn])]
/-- 109: RailPower.fault()I -/
def am_L109 : List (Nat × List Instr) := [(0, [.aload 0, .getfield 517, .ireturn])]
/-- 110: RailPower.many(I)I -/
def am_L110 : List (Nat × List Instr) := [(0, [.iload 1, .tableswitch 64 0 3 #[32, 40, 48, 56]]),
  (32, [.aload 0, .getfield 512, .getfield 132, .ireturn]),
  (40, [.aload 0, .getfield 512, .invokevirtual 37, .ireturn]),
  (48, [.aload 0, .getfield 512, .getfield 133, .ireturn]),
  (56, [.aload 0, .getfield 513, .invokevirtual 111, .ireturn]),
  (64, [.bipush (-2), .ireturn])]
/-- 111: RailPower$Day.busyTicks()I -/
def am_L111 : List (Nat × List Instr) := [(0, [.bipush 0, .istore 1, .bipush 0, .istore 2, .jsr 4]),
  (4, [.iload 2, .bipush 24, .if_icmp .ge 34, .aload 0, .iload 2, .aload 0, .getfield 73, .getfield 131, .invokevirtual 42, .ifCond .eq 28, .iinc 1 1, .jsr 28]),
  (28, [.iinc 2 1, .goto 4]),
  (34, [.iload 1, .ireturn])]
/-- 112: RailPowerModel.<init>()V -/
def am_L112 : List (Nat × List Instr) := [(0, [.aload 0, .pop2, .aload 0, .bipush 5, .newarray .int, .dup, .bipush 0, .bipush 100, .iastore, .dup, .bipush 1, .bipush 1, .iastore, .dup, .bipush 2, .bipush 750, .iastore, .dup, .bipush 3, .bipush 900, .iastore, .dup, .bipush 4, .bipush 500, .iastore, .putfield 578, .aload 0, .bipush 5, .newarray .int, .putfield 580, .aload 0, .bipush 6, .newarray .int, .putfield 581, .aload 0, .bipush 5, .newarray .boolean, .putfield 582, .aload 0, .bipush 5, .newarray .int, .putfield 583, .aload 0, .bipush 120, .newarray .int, .putfield 585, .aload 0, .bipush 120, .newarray .int, .putfield 586, .aload 0, .bipush 5, .newarray .int, .putfield 587, .aload 0, .bipush 4, .newarray .int, .dup, .bipush 0, .bipush (-9), .iastore, .dup, .bipush 1, .bipush (-9), .iastore, .dup, .bipush 2, .bipush (-9), .iastore, .dup, .bipush 3, .bipush (-9), .iastore, .putfield 588, .aload 0, .bipush 4, .newarray .int, .putfield 589, .aload 0, .bipush 240, .newarray .int, .putfield 590, .aload 0, .bipush 5, .newarray .int, .putfield 592, .aload 0, .bipush 5, .newarray .int, .putfield 593, .aload 0, .bipush 5, .newarray .int, .putfield 597, .aload 0, .bipush 5, .newarray .int, .putfield 605, .aload 0, .bipush 5, .newarray .int, .putfield 606, .return_])]
/-- 113: RailPowerModel.rule(II)I -/
def am_L113 : List (Nat × List Instr) := [(0, [.iload 1, .bipush 0, .bipush 4, .invokevirtual 114, .ifCond .ne 11, .bipush (-1), .ireturn]),
  (11, [.iload 2, .iload 1, .invokevirtual 115, .iload 1, .invokevirtual 116, .invokevirtual 114, .ifCond .ne 29, .bipush (-2), .ireturn]),
  (29, [.aload 0, .iload 1, .iload 2, .invokevirtual 117, .ifCond .eq 41, .bipush (-3), .ireturn]),
  (41, [.aload 0, .getfield 578, .iload 1, .iaload, .istore 3, .aload 0, .getfield 578, .iload 1, .iload 2, .iastore, .iload 3, .ireturn])]
/-- 114: RailPowerModel.within(III)Z -/
def am_L114 : List (Nat × List Instr) := [(0, [.iload 0, .iload 1, .if_icmp .lt 14, .iload 0, .iload 2, .if_icmp .gt 14, .bipush 1, .goto 15]),
  (14, [.bipush 0, .jsr 15]),
  (15, [.areturn])]
/-- 115: RailPowerModel.leastOf(I)I -/
def am_L115 : List (Nat × List Instr) := [(0, [.iload 0, .bipush 2, .if_icmp .eq 10, .iload 0, .bipush 3, .if_icmp .ne 15, .jsr 10]),
  (10, [.bipush 100, .goto 16]),
  (15, [.bipush 1, .jsr 16]),
  (16, [.ireturn])]
/-- 116: RailPowerModel.mostOf(I)I -/
def am_L116 : List (Nat × List Instr) := [(0, [.iload 0, .tableswitch 43 0 3 #[32, 36, 43, 39]]),
  (32, [.bipush 200, .ireturn]),
  (36, [.bipush 20, .ireturn]),
  (39, [.bipush 3000, .ireturn]),
  (43, [.bipush 2000, .ireturn])]
/-- 117: RailPowerModel.isAgainst(II)Z -/
def am_L117 : List (Nat × List Instr) := [(0, [.iload 1, .tableswitch 100 0 4 #[36, 100, 42, 68, 84]]),
  (36, [.aload 0, .iload 2, .invokevirtual 118, .areturn]),
  (42, [.iload 2, .aload 0, .getfield 578, .bipush 3, .iaload, .if_icmp .gt 62, .iload 2, .aload 0, .getfield 578, .bipush 4, .iaload, .if_icmp .ge 66, .jsr 62]),
  (62, [.bipush 1, .goto 67]),
  (66, [.bipush 0, .jsr 67]),
  (67, [.areturn]),
  (68, [.iload 2, .aload 0, .getfield 578, .bipush 2, .iaload, .if_icmp .ge 82, .bipush 1, .goto 83]),
  (82, [.bipush 0, .jsr 83]),
  (83, [.areturn]),
  (84, [.iload 2, .aload 0, .getfield 578, .bipush 2, .iaload, .if_icmp .le 98, .bipush 1, .goto 99]),
  (98, [.bipush 0, .jsr 99]),
  (99, [.areturn]),
  (100, [.bipush 0, .areturn])]
/-- 118: RailPowerModel.isBeyond(I)Z -/
def am_L118 : List (Nat × List Instr) := [(0, [.bipush 0, .istore 2, .jsr 2]),
  (2, [.iload 2, .aload 0, .getfield 579, .if_icmp .ge 28, .aload 0, .getfield 581, .iload 2, .iaload, .iload 1, .if_icmp .le 22, .bipush 1, .areturn]),
  (22, [.iinc 2 1, .goto 2]),
  (28, [.bipush 0, .istore 2, .jsr 30]),
  (30, [.iload 2, .bipush 24, .aload 0, .getfield 584, .imul, .if_icmp .ge 61, .aload 0, .getfield 585, .iload 2, .iaload, .iload 1, .bipush 1, .iadd, .if_icmp .le 55, .bipush 1, .areturn]),
  (55, [.iinc 2 1, .goto 30]),
  (61, [.bipush 0, .areturn])]
/-- 119: RailPowerModel.station(II)I -/
def am_L119 : List (Nat × List Instr) := [(0, [.iload 1, .bipush 0, .bipush 2, .invokevirtual 114, .ifCond .eq 17, .aload 0, .iload 2, .invokevirtual 120, .ifCond .ne 20, .jsr 17]),
  (17, [.bipush (-2), .ireturn]),
  (20, [.aload 0, .iload 2, .invokevirtual 121, .ifCond .eq 31, .bipush (-3), .ireturn]),
  (31, [.aload 0, .getfield 579, .bipush 5, .if_icmp .ne 42, .bipush (-4), .ireturn]),
  (42, [.aload 0, .getfield 580, .aload 0, .getfield 579, .iload 1, .iastore, .aload 0, .getfield 581, .aload 0, .getfield 579, .iload 2, .iastore, .aload 0, .getfield 582, .aload 0, .getfield 579, .bipush 0, .bastore, .aload 0, .getfield 583, .aload 0, .getfield 579, .bipush 3000, .iastore, .aload 0, .dup, .getfield 579, .bipush 1, .iadd, .putfield 579, .aload 0, .getfield 579, .bipush 1, .isub, .ireturn])]
/-- 120: RailPowerModel.isPlace(I)Z -/
def am_L120 : List (Nat × List Instr) := [(0, [.iload 1, .bipush 0, .aload 0, .getfield 578, .bipush 0, .iaload, .invokevirtual 114, .areturn])]
/-- 121: RailPowerModel.isTaken(I)Z -/
def am_L121 : List (Nat × List Instr) := [(0, [.bipush 0, .istore 2, .jsr 2]),
  (2, [.iload 2, .aload 0, .getfield 579, .if_icmp .ge 28, .aload 0, .getfield 581, .iload 2, .iaload, .iload 1, .if_icmp .ne 22, .bipush 1, .areturn]),
  (22, [.iinc 2 1, .goto 2]),
  (28, [.bipush 0, .areturn])]
/-- 122: RailPowerModel.set(IZ)I -/
def am_L122 : List (Nat × List Instr) := [(0, [.aload 0, .iload 1, .invokevirtual 123, .ifCond .ne 10, .bipush (-1), .ireturn]),
  (10, [.aload 0, .getfield 582, .iload 1, .baload, .iload 2, .if_icmp .ne 24, .bipush 1, .goto 25]),
  (24, [.bipush 0, .jsr 25]),
  (25, [.istore 3, .aload 0, .getfield 582, .iload 1, .iload 2, .ifCond .ne 39, .bipush 1, .goto 40]),
  (39, [.bipush 0, .jsr 40]),
  (40, [.bastore, .iload 3, .ireturn])]
/-- 123: RailPowerModel.isStation(I)Z -/
def am_L123 : List (Nat × List Instr) := [(0, [.iload 1, .ifCond .lt 16, .iload 1, .aload 0, .getfield 579, .if_icmp .ge 16, .bipush 1, .goto 17]),
  (16, [.bipush 0, .jsr 17]),
  (17, [.areturn])]
/-- 124: RailPowerModel.trip(II)I -/
def am_L124 : List (Nat × List Instr) := [(0, [.aload 0, .iload 1, .invokevirtual 123, .ifCond .ne 10, .bipush (-1), .ireturn]),
  (10, [.iload 2, .bipush 0, .bipush 100000, .invokevirtual 114, .ifCond .ne 23, .bipush (-2), .ireturn]),
  (23, [.aload 0, .getfield 583, .iload 1, .iaload, .istore 3, .aload 0, .getfield 583, .iload 1, .iload 2, .iastore, .iload 3, .ireturn])]
/-- 125: RailPowerModel.about(II)I -/
def am_L125 : List (Nat × List Instr) := [(0, [.aload 0, .iload 1, .invokevirtual 123, .ifCond .ne 10, .bipush (-1), .ireturn]),
  (10, [.iload 2, .tableswitch 76 0 3 #[40, 47, 54, 69]]),
  (40, [.aload 0, .getfield 580, .iload 1, .iaload, .ireturn]),
  (47, [.aload 0, .getfield 581, .iload 1, .iaload, .ireturn]),
  (54, [.aload 0, .getfield 582, .iload 1, .baload, .ifCond .eq 67, .bipush 0, .goto 68]),
  (67, [.bipush 1, .jsr 68]),
  (68, [.ireturn]),
  (69, [.aload 0, .getfield 583, .iload 1, .iaload, .ireturn]),
  (76, [.bipush (-2), .ireturn])]
/-- 126: RailPowerModel.train()I -/
def am_L126 : List (Nat × List Instr) := [(0, [.aload 0, .getfield 584, .bipush 5, .if_icmp .ne 11, .bipush (-4), .ireturn]),
  (11, [.bipush 0, .istore 1, .jsr 13]),
  (13, [.iload 1, .bipush 24, .if_icmp .ge 55, .aload 0, .getfield 585, .bipush 24, .aload 0, .getfield 584, .imul, .iload 1, .iadd, .bipush 0, .iastore, .aload 0, .getfield 586, .bipush 24, .aload 0, .getfield 584, .imul, .iload 1, .iadd, .bipush 0, .iastore, .iinc 1 1, .goto 13]),
  (55, [.aload 0, .getfield 587, .aload 0, .getfield 584, .bipush 0, .iastore, .aload 0, .dup, .getfield 584, .bipush 1, .iadd, .putfield 584, .aload 0, .getfield 584, .bipush 1, .isub, .ireturn])]
/-- 127: RailPowerModel.run(IIII)I -/
def am_L127 : List (Nat × List Instr) := [(0, [.aload 0, .iload 1, .invokevirtual 128, .ifCond .eq 15, .iload 2, .invokevirtual 129, .ifCond .ne 17, .jsr 15]),
  (15, [.bipush (-1), .ireturn]),
  (17, [.aload 0, .iload 3, .iload 4, .invokevirtual 130, .ifCond .ne 30, .bipush (-2), .ireturn]),
  (30, [.aload 0, .iload 1, .iload 2, .iload 3, .iload 4, .invokevirtual 131, .bipush 1, .ireturn])]
/-- 128: RailPowerModel.isTrain(I)Z -/
def am_L128 : List (Nat × List Instr) := [(0, [.iload 1, .ifCond .lt 16, .iload 1, .aload 0, .getfield 584, .if_icmp .ge 16, .bipush 1, .goto 17]),
  (16, [.bipush 0, .jsr 17]),
  (17, [.areturn])]
/-- 129: RailPowerModel.isTick(I)Z -/
def am_L129 : List (Nat × List Instr) := [(0, [.iload 0, .bipush 0, .bipush 23, .invokevirtual 114, .areturn])]
/-- 130: RailPowerModel.mayRun(II)Z -/
def am_L130 : List (Nat × List Instr) := [(0, [.iload 1, .bipush (-1), .if_icmp .eq 26, .aload 0, .iload 1, .invokevirtual 120, .ifCond .eq 30, .iload 2, .bipush (-400), .bipush 400, .invokevirtual 114, .ifCond .eq 30, .jsr 26]),
  (26, [.bipush 1, .goto 31]),
  (30, [.bipush 0, .jsr 31]),
  (31, [.areturn])]
/-- 131: RailPowerModel.lay(IIII)V -/
def am_L131 : List (Nat × List Instr) := [(0, [.aload 0, .getfield 585, .bipush 24, .iload 1, .imul, .iload 2, .iadd, .iload 3, .bipush 1, .iadd, .iastore, .aload 0, .getfield 586, .bipush 24, .iload 1, .imul, .iload 2, .iadd, .iload 3, .ifCond .ge 32, .bipush 0, .goto 34]),
  (32, [.iload 4, .jsr 34]),
  (34, [.iastore, .return_])]
/-- 132: RailPowerModel.runs(IIIII)I -/
def am_L132 : List (Nat × List Instr) := [(0, [.aload 0, .bipush 0, .putfield 576, .aload 0, .iload 1, .invokevirtual 128, .ifCond .eq 20, .iload 2, .invokevirtual 133, .ifCond .ne 22, .jsr 20]),
  (20, [.bipush (-1), .ireturn]),
  (22, [.iload 3, .invokevirtual 134, .ifCond .ne 32, .bipush (-2), .ireturn]),
  (32, [.aload 0, .getfield 588, .iload 2, .iaload, .bipush (-9), .if_icmp .eq 59, .aload 0, .getfield 588, .iload 2, .iaload, .iload 3, .if_icmp .eq 59, .aload 0, .bipush 2, .invokevirtual 135, .ireturn]),
  (59, [.aload 0, .getfield 588, .iload 2, .iaload, .bipush (-9), .if_icmp .ne 76, .aload 0, .bipush 1, .invokevirtual 135, .ireturn]),
  (76, [.iload 5, .ifCond .ge 87, .aload 0, .bipush 4, .invokevirtual 135, .ireturn]),
  (87, [.iload 4, .ifCond .lt 124, .iload 4, .aload 0, .getfield 589, .iload 2, .iaload, .if_icmp .gt 124, .sipush 2, .iload 5, .i2l, .lmul, .aload 0, .getfield 589, .iload 2, .iaload, .iload 4, .isub, .i2l, .lcmp, .ifCond .le 130, .jsr 124]),
  (124, [.aload 0, .bipush 3, .invokevirtual 135, .ireturn]),
  (130, [.iload 5, .bipush 24, .if_icmp .le 140, .bipush (-2), .ireturn]),
  (140, [.bipush 60, .iload 2, .imul, .iload 4, .iadd, .istore 6, .bipush 0, .istore 7, .jsr 152]),
  (152, [.iload 7, .iload 5, .if_icmp .ge 201, .aload 0, .aload 0, .getfield 590, .iload 6, .bipush 2, .iload 7, .imul, .iadd, .iaload, .aload 0, .getfield 590, .iload 6, .bipush 2, .iload 7, .imul, .iadd, .bipush 1, .iadd, .iaload, .invokevirtual 130, .ifCond .ne 195, .bipush (-2), .ireturn]),
  (195, [.iinc 7 1, .goto 152]),
  (201, [.bipush 0, .istore 7, .bipush 0, .istore 8, .jsr 207]),
  (207, [.iload 8, .bipush 24, .if_icmp .ge 294, .iload 8, .iload 5, .if_icmp .ge 236, .aload 0, .getfield 590, .iload 6, .bipush 2, .iload 8, .imul, .iadd, .iaload, .goto 237]),
  (236, [.bipush (-1), .jsr 237]),
  (237, [.istore 9, .aload 0, .iload 1, .iload 8, .iload 9, .iload 8, .iload 5, .if_icmp .ge 269, .aload 0, .getfield 590, .iload 6, .bipush 2, .iload 8, .imul, .iadd, .bipush 1, .iadd, .iaload, .goto 270]),
  (269, [.bipush 0, .jsr 270]),
  (270, [.invokevirtual 131, .iload 7, .iload 9, .ifCond .lt 284, .bipush 1, .goto 285]),
  (284, [.bipush 0, .jsr 285]),
  (285, [.iadd, .istore 7, .iinc 8 1, .goto 207]),
  (294, [.iload 7, .ireturn])]
/-- 133: RailPowerModel.isSheet(I)Z -/
def am_L133 : List (Nat × List Instr) := [(0, [.iload 0, .bipush 0, .bipush 3, .invokevirtual 114, .areturn])]
/-- 134: RailPowerModel.isLane(I)Z -/
def am_L134 : List (Nat × List Instr) := [(0, [.iload 0, .bipush 0, .bipush 2, .invokevirtual 114, .areturn])]
/-- 135: RailPowerModel.fails(I)I -/
def am_L135 : List (Nat × List Instr) := [(0, [.aload 0, .iload 1, .putfield 576, .bipush (-10), .iload 1, .isub, .ireturn])]
/-- 136: RailPowerModel.putOff(II)I -/
def am_L136 : List (Nat × List Instr) := [(0, [.aload 0, .iload 1, .invokevirtual 128, .ifCond .ne 10, .bipush (-1), .ireturn]),
  (10, [.iload 2, .bipush 0, .bipush 5, .invokevirtual 114, .ifCond .ne 22, .bipush (-2), .ireturn]),
  (22, [.aload 0, .getfield 587, .iload 1, .iaload, .istore 3, .aload 0, .getfield 587, .iload 1, .iload 2, .iastore, .iload 3, .ireturn])]
/-- 137: RailPowerModel.at(III)I -/
def am_L137 : List (Nat × List Instr) := [(0, [.aload 0, .iload 1, .invokevirtual 128, .ifCond .eq 15, .iload 2, .invokevirtual 129, .ifCond .ne 17, .jsr 15]),
  (15, [.bipush (-1), .ireturn]),
  (17, [.iload 3, .tableswitch 100 0 2 #[44, 51, 58]]),
  (44, [.aload 0, .iload 1, .iload 2, .invokevirtual 138, .ireturn]),
  (51, [.aload 0, .iload 1, .iload 2, .invokevirtual 139, .ireturn]),
  (58, [.aload 0, .invokevirtual 140, .ifCond .eq 68, .bipush (-3), .ireturn]),
  (68, [.aload 0, .iload 2, .invokevirtual 142, .aload 0, .getfield 597, .iload 1, .iaload, .bipush (-9), .if_icmp .ne 88, .bipush 0, .goto 99]),
  (88, [.aload 0, .getfield 593, .aload 0, .getfield 597, .iload 1, .iaload, .iaload, .jsr 99]),
  (99, [.ireturn]),
  (100, [.bipush (-2), .ireturn])]
/-- 138: RailPowerModel.placeOf(II)I -/
def am_L138 : List (Nat × List Instr) := [(0, [.iload 2, .aload 0, .getfield 587, .iload 1, .iaload, .isub, .istore 3, .iload 3, .ifCond .ge 18, .bipush (-9), .goto 50]),
  (18, [.aload 0, .getfield 585, .bipush 24, .iload 1, .imul, .iload 3, .iadd, .iaload, .ifCond .ne 37, .bipush (-9), .goto 50]),
  (37, [.aload 0, .getfield 585, .bipush 24, .iload 1, .imul, .iload 3, .iadd, .iaload, .bipush 1, .isub, .jsr 50]),
  (50, [.ireturn])]
/-- 139: RailPowerModel.amperesOf(II)I -/
def am_L139 : List (Nat × List Instr) := [(0, [.aload 0, .iload 1, .iload 2, .invokevirtual 138, .bipush (-9), .if_icmp .ne 15, .bipush 0, .goto 33]),
  (15, [.aload 0, .getfield 586, .bipush 24, .iload 1, .imul, .iload 2, .iadd, .aload 0, .getfield 587, .iload 1, .iaload, .isub, .iaload, .jsr 33]),
  (33, [.ireturn])]
/-- 140: RailPowerModel.isDark()Z -/
def am_L140 : List (Nat × List Instr) := [(0, [.aload 0, .invokevirtual 141, .ifCond .ne 11, .bipush 1, .goto 12]),
  (11, [.bipush 0, .jsr 12]),
  (12, [.areturn])]
/-- 141: RailPowerModel.isIn()I -/
def am_L141 : List (Nat × List Instr) := [(0, [.bipush 0, .istore 1, .bipush 0, .istore 2, .jsr 4]),
  (4, [.iload 2, .aload 0, .getfield 579, .if_icmp .ge 37, .iload 1, .aload 0, .getfield 582, .iload 2, .baload, .ifCond .eq 26, .bipush 0, .goto 29]),
  (26, [.bipush 1, .iload 2, .ishl, .jsr 29]),
  (29, [.ior, .istore 1, .iinc 2 1, .goto 4]),
  (37, [.iload 1, .ireturn])]
/-- 142: RailPowerModel.solve(I)V -/
def am_L142 : List (Nat × List Instr) := [(0, [.aload 0, .iload 1, .invokevirtual 143, .aload 0, .aload 0, .invokevirtual 144, .putfield 594, .jsr 13]),
  (13, [.aload 0, .getfield 594, .bipush (-9), .if_icmp .eq 29, .aload 0, .invokevirtual 150, .ifCond .eq 55, .jsr 29]),
  (29, [.aload 0, .invokevirtual 151, .istore 2, .aload 0, .getfield 593, .iload 2, .dup2, .iaload, .bipush 2, .idiv, .iastore, .aload 0, .aload 0, .invokevirtual 144, .putfield 594, .goto 13]),
  (55, [.return_])]
/-- 143: RailPowerModel.layLoads(I)V -/
def am_L143 : List (Nat × List Instr) := [(0, [.aload 0, .bipush 0, .putfield 591, .bipush 0, .istore 2, .jsr 7]),
  (7, [.iload 2, .aload 0, .getfield 584, .if_icmp .ge 87, .aload 0, .getfield 597, .iload 2, .bipush (-9), .iastore, .aload 0, .iload 2, .iload 1, .invokevirtual 138, .istore 3, .iload 3, .bipush (-9), .if_icmp .eq 81, .aload 0, .getfield 597, .iload 2, .aload 0, .getfield 591, .iastore, .aload 0, .getfield 592, .aload 0, .getfield 591, .iload 3, .iastore, .aload 0, .getfield 593, .aload 0, .getfield 591, .aload 0, .iload 2, .iload 1, .invokevirtual 139, .iastore, .aload 0, .dup, .getfield 591, .bipush 1, .iadd, .putfield 591, .jsr 81]),
  (81, [.iinc 2 1, .goto 7]),
  (87, [.return_])]
/-- 144: RailPowerModel.findFeeding()I -/
def am_L144 : List (Nat × List Instr) := [(0, [.aload 0, .invokevirtual 141, .istore 1, .bipush 1, .istore 2, .jsr 7]),
  (7, [.iload 2, .iload 1, .if_icmp .gt 37, .iload 2, .iload 1, .bipush (-1), .ixor, .iand, .ifCond .ne 31, .aload 0, .iload 2, .iload 1, .invokevirtual 145, .ifCond .eq 31, .iload 2, .ireturn]),
  (31, [.iinc 2 1, .goto 7]),
  (37, [.bipush (-9), .ireturn])]
/-- 145: RailPowerModel.doesFeed(II)Z -/
def am_L145 : List (Nat × List Instr) := [(0, [.bipush 0, .istore 3, .jsr 2]),
  (2, [.iload 3, .aload 0, .getfield 579, .if_icmp .ge 84, .iload 1, .iload 3, .ishr, .bipush 1, .iand, .bipush 1, .if_icmp .ne 36, .aload 0, .iload 1, .iload 3, .invokevirtual 146, .aload 0, .getfield 595, .sipush 0, .lcmp, .ifCond .ge 78, .bipush 0, .areturn]),
  (36, [.iload 2, .iload 3, .ishr, .bipush 1, .iand, .bipush 1, .if_icmp .ne 78, .aload 0, .iload 1, .aload 0, .getfield 581, .iload 3, .iaload, .invokevirtual 149, .aload 0, .getfield 595, .aload 0, .getfield 578, .bipush 2, .iaload, .i2l, .aload 0, .getfield 596, .lmul, .lcmp, .ifCond .ge 78, .bipush 0, .areturn]),
  (78, [.iinc 3 1, .goto 2]),
  (84, [.bipush 1, .areturn])]
/-- 146: RailPowerModel.findGiven(II)V -/
def am_L146 : List (Nat × List Instr) := [(0, [.aload 0, .getfield 581, .iload 2, .iaload, .istore 3, .iload 3, .ifCond .ne 16, .bipush (-9), .goto 25]),
  (16, [.aload 0, .iload 1, .iload 3, .bipush 1, .isub, .bipush 1, .invokevirtual 147, .jsr 25]),
  (25, [.istore 4, .aload 0, .iload 1, .iload 3, .bipush 1, .iadd, .bipush 0, .invokevirtual 147, .istore 5, .sipush 0, .lstore 6, .sipush 0, .lstore 8, .sipush 0, .lstore 10, .bipush 0, .istore 12, .jsr 50]),
  (50, [.iload 12, .aload 0, .getfield 591, .if_icmp .ge 227, .aload 0, .getfield 592, .iload 12, .iaload, .istore 13, .iload 13, .iload 3, .if_icmp .ge 79, .iload 4, .goto 81]),
  (79, [.iload 5, .jsr 81]),
  (81, [.istore 14, .iload 13, .iload 3, .if_icmp .eq 96, .iload 14, .bipush (-9), .if_icmp .ne 112, .jsr 96]),
  (96, [.lload 6, .aload 0, .getfield 593, .iload 12, .iaload, .i2l, .ladd, .lstore 6, .goto 221]),
  (112, [.aload 0, .getfield 581, .iload 14, .iaload, .istore 15, .iload 13, .iload 3, .if_icmp .ge 142, .iload 13, .iload 15, .if_icmp .le 138, .bipush 1, .goto 154]),
  (138, [.bipush 0, .goto 154]),
  (142, [.iload 13, .iload 15, .if_icmp .ge 153, .bipush 1, .goto 154]),
  (153, [.bipush 0, .jsr 154]),
  (154, [.istore 16, .iload 16, .ifCond .eq 193, .iload 13, .iload 3, .if_icmp .ge 193, .lload 8, .aload 0, .getfield 593, .iload 12, .iaload, .i2l, .iload 13, .iload 15, .isub, .invokevirtual 148, .i2l, .lmul, .ladd, .lstore 8, .goto 221]),
  (193, [.iload 16, .ifCond .eq 221, .lload 10, .aload 0, .getfield 593, .iload 12, .iaload, .i2l, .iload 13, .iload 15, .isub, .invokevirtual 148, .i2l, .lmul, .ladd, .lstore 10, .jsr 221]),
  (221, [.iinc 12 1, .goto 50]),
  (227, [.iload 4, .bipush (-9), .if_icmp .ne 238, .sipush 1, .goto 248]),
  (238, [.iload 3, .aload 0, .getfield 581, .iload 4, .iaload, .isub, .i2l, .jsr 248]),
  (248, [.lstore 12, .iload 5, .bipush (-9), .if_icmp .ne 261, .sipush 1, .goto 271]),
  (261, [.aload 0, .getfield 581, .iload 5, .iaload, .iload 3, .isub, .i2l, .jsr 271]),
  (271, [.lstore 14, .aload 0, .lload 6, .lload 12, .lmul, .lload 14, .lmul, .lload 8, .lload 14, .lmul, .ladd, .lload 10, .lload 12, .lmul, .ladd, .putfield 595, .aload 0, .lload 12, .lload 14, .lmul, .putfield 596, .return_])]
/-- 147: RailPowerModel.neighbour(IIZ)I -/
def am_L147 : List (Nat × List Instr) := [(0, [.bipush (-9), .istore 4, .bipush 0, .istore 5, .jsr 7]),
  (7, [.iload 5, .aload 0, .getfield 579, .if_icmp .ge 125, .iload 1, .iload 5, .ishr, .bipush 1, .iand, .bipush 1, .if_icmp .ne 59, .iload 3, .ifCond .eq 44, .aload 0, .getfield 581, .iload 5, .iaload, .iload 2, .if_icmp .gt 59, .goto 55]),
  (44, [.aload 0, .getfield 581, .iload 5, .iaload, .iload 2, .if_icmp .lt 59, .jsr 55]),
  (55, [.bipush 1, .goto 60]),
  (59, [.bipush 0, .jsr 60]),
  (60, [.istore 6, .iload 6, .ifCond .eq 119, .iload 4, .bipush (-9), .if_icmp .eq 115, .iload 3, .ifCond .eq 98, .aload 0, .getfield 581, .iload 5, .iaload, .aload 0, .getfield 581, .iload 4, .iaload, .if_icmp .le 119, .goto 115]),
  (98, [.aload 0, .getfield 581, .iload 5, .iaload, .aload 0, .getfield 581, .iload 4, .iaload, .if_icmp .ge 119, .jsr 115]),
  (115, [.iload 5, .istore 4, .jsr 119]),
  (119, [.iinc 5 1, .goto 7]),
  (125, [.iload 4, .ireturn])]
/-- 148: RailPowerModel.size(I)I -/
def am_L148 : List (Nat × List Instr) := [(0, [.iload 0, .ifCond .ge 9, .iload 0, .ineg, .goto 10]),
  (9, [.iload 0, .jsr 10]),
  (10, [.ireturn])]
/-- 149: RailPowerModel.findVolts(II)V -/
def am_L149 : List (Nat × List Instr) := [(0, [.aload 0, .iload 1, .iload 2, .bipush 1, .invokevirtual 147, .istore 3, .aload 0, .iload 1, .iload 2, .bipush 0, .invokevirtual 147, .istore 4, .sipush 0, .lstore 5, .iload 3, .bipush (-9), .if_icmp .eq 183, .iload 4, .bipush (-9), .if_icmp .eq 183, .aload 0, .getfield 581, .iload 3, .iaload, .i2l, .lstore 7, .aload 0, .getfield 581, .iload 4, .iaload, .i2l, .lstore 9, .bipush 0, .istore 11, .jsr 55]),
  (55, [.iload 11, .aload 0, .getfield 591, .if_icmp .ge 155, .aload 0, .getfield 592, .iload 11, .iaload, .i2l, .lstore 12, .lload 12, .lload 7, .lcmp, .ifCond .le 149, .lload 12, .lload 9, .lcmp, .ifCond .ge 149, .iload 2, .i2l, .lload 12, .lcmp, .ifCond .ge 103, .iload 2, .i2l, .goto 105]),
  (103, [.lload 12, .jsr 105]),
  (105, [.lstore 14, .iload 2, .i2l, .lload 12, .lcmp, .ifCond .ge 120, .lload 12, .goto 122]),
  (120, [.iload 2, .i2l, .jsr 122]),
  (122, [.lstore 16, .lload 5, .aload 0, .getfield 593, .iload 11, .iaload, .i2l, .lload 14, .lload 7, .lsub, .lmul, .lload 9, .lload 16, .lsub, .lmul, .ladd, .lstore 5, .jsr 149]),
  (149, [.iinc 11 1, .goto 55]),
  (155, [.aload 0, .lload 7, .lload 9, .lcmp, .ifCond .ne 168, .sipush 1, .goto 177]),
  (168, [.sipush 1000, .lload 9, .lload 7, .lsub, .lmul, .jsr 177]),
  (177, [.putfield 596, .goto 346]),
  (183, [.aload 0, .getfield 581, .iload 3, .bipush (-9), .if_icmp .ne 198, .iload 4, .goto 199]),
  (198, [.iload 3, .jsr 199]),
  (199, [.iaload, .istore 7, .bipush 0, .istore 8, .jsr 205]),
  (205, [.iload 8, .aload 0, .getfield 591, .if_icmp .ge 339, .aload 0, .getfield 592, .iload 8, .iaload, .istore 9, .iload 3, .bipush (-9), .if_icmp .ne 244, .iload 9, .iload 7, .if_icmp .ge 240, .bipush 1, .goto 256]),
  (240, [.bipush 0, .goto 256]),
  (244, [.iload 9, .iload 7, .if_icmp .le 255, .bipush 1, .goto 256]),
  (255, [.bipush 0, .jsr 256]),
  (256, [.istore 10, .iload 10, .ifCond .eq 333, .iload 2, .iload 7, .if_icmp .ge 276, .iload 7, .iload 2, .isub, .goto 280]),
  (276, [.iload 2, .iload 7, .isub, .jsr 280]),
  (280, [.istore 11, .iload 9, .iload 7, .if_icmp .ge 297, .iload 7, .iload 9, .isub, .goto 302]),
  (297, [.iload 9, .iload 7, .isub, .jsr 302]),
  (302, [.istore 12, .lload 5, .aload 0, .getfield 593, .iload 8, .iaload, .i2l, .iload 11, .iload 12, .if_icmp .ge 326, .iload 11, .goto 328]),
  (326, [.iload 12, .jsr 328]),
  (328, [.i2l, .lmul, .ladd, .lstore 5, .jsr 333]),
  (333, [.iinc 8 1, .goto 205]),
  (339, [.aload 0, .sipush 1000, .putfield 596, .jsr 346]),
  (346, [.aload 0, .aload 0, .getfield 578, .bipush 2, .iaload, .i2l, .aload 0, .getfield 596, .lmul, .aload 0, .getfield 578, .bipush 1, .iaload, .i2l, .lload 5, .lmul, .lsub, .putfield 595, .return_])]
/-- 150: RailPowerModel.isTooHigh()Z -/
def am_L150 : List (Nat × List Instr) := [(0, [.bipush 0, .istore 1, .jsr 2]),
  (2, [.iload 1, .aload 0, .getfield 591, .if_icmp .ge 52, .aload 0, .aload 0, .getfield 594, .aload 0, .getfield 592, .iload 1, .iaload, .invokevirtual 149, .aload 0, .getfield 595, .aload 0, .getfield 578, .bipush 3, .iaload, .i2l, .aload 0, .getfield 596, .lmul, .lcmp, .ifCond .le 46, .bipush 1, .areturn]),
  (46, [.iinc 1 1, .goto 2]),
  (52, [.bipush 0, .areturn])]
/-- 151: RailPowerModel.nextBack()I -/
def am_L151 : List (Nat × List Instr) := [(0, [.bipush (-9), .istore 1, .sipush 0, .lstore 2, .sipush 1, .lstore 4, .bipush 0, .istore 6, .jsr 11]),
  (11, [.iload 6, .aload 0, .getfield 591, .if_icmp .ge 121, .aload 0, .getfield 593, .iload 6, .iaload, .ifCond .lt 33, .goto 115]),
  (33, [.aload 0, .getfield 594, .bipush (-9), .if_icmp .ne 63, .aload 0, .aload 0, .getfield 593, .iload 6, .iaload, .ineg, .i2l, .putfield 595, .aload 0, .sipush 1, .putfield 596, .goto 78]),
  (63, [.aload 0, .aload 0, .getfield 594, .aload 0, .getfield 592, .iload 6, .iaload, .invokevirtual 149, .jsr 78]),
  (78, [.iload 1, .bipush (-9), .if_icmp .eq 101, .aload 0, .getfield 595, .lload 4, .lmul, .lload 2, .aload 0, .getfield 596, .lmul, .lcmp, .ifCond .le 115, .jsr 101]),
  (101, [.iload 6, .istore 1, .aload 0, .getfield 595, .lstore 2, .aload 0, .getfield 596, .lstore 4, .jsr 115]),
  (115, [.iinc 6 1, .goto 11]),
  (121, [.iload 1, .ireturn])]
/-- 152: RailPowerModel.feeds(I)I -/
def am_L152 : List (Nat × List Instr) := [(0, [.iload 1, .invokevirtual 129, .ifCond .ne 9, .bipush (-1), .ireturn]),
  (9, [.aload 0, .invokevirtual 140, .ifCond .eq 19, .bipush (-3), .ireturn]),
  (19, [.aload 0, .iload 1, .invokevirtual 142, .aload 0, .getfield 594, .ireturn])]
/-- 153: RailPowerModel.volts(III)J -/
def am_L153 : List (Nat × List Instr) := [(0, [.iload 1, .invokevirtual 129, .ifCond .eq 31, .aload 0, .iload 2, .invokevirtual 120, .ifCond .eq 31, .iload 3, .bipush 0, .bipush 1, .invokevirtual 114, .ifCond .eq 31, .aload 0, .invokevirtual 140, .ifCond .eq 35, .jsr 31]),
  (31, [.sipush (-9223372036854775808), .lreturn]),
  (35, [.aload 0, .iload 1, .invokevirtual 142, .aload 0, .aload 0, .getfield 594, .iload 2, .invokevirtual 149, .aload 0, .iload 3, .invokevirtual 154, .lreturn])]
/-- 154: RailPowerModel.part(I)J -/
def am_L154 : List (Nat × List Instr) := [(0, [.aload 0, .getfield 595, .sipush 0, .lcmp, .ifCond .ge 17, .aload 0, .getfield 595, .lneg, .goto 21]),
  (17, [.aload 0, .getfield 595, .jsr 21]),
  (21, [.lstore 2, .aload 0, .getfield 596, .lstore 4, .jsr 28]),
  (28, [.lload 4, .sipush 0, .lcmp, .ifCond .eq 51, .lload 2, .lload 4, .lrem, .lstore 6, .lload 4, .lstore 2, .lload 6, .lstore 4, .goto 28]),
  (51, [.iload 1, .ifCond .ne 64, .aload 0, .getfield 595, .lload 2, .ldiv, .goto 70]),
  (64, [.aload 0, .getfield 596, .lload 2, .ldiv, .jsr 70]),
  (70, [.lreturn])]
/-- 155: RailPowerModel.gives(III)J -/
def am_L155 : List (Nat × List Instr) := [(0, [.iload 1, .invokevirtual 129, .ifCond .eq 31, .aload 0, .iload 2, .invokevirtual 123, .ifCond .eq 31, .iload 3, .bipush 0, .bipush 1, .invokevirtual 114, .ifCond .eq 31, .aload 0, .invokevirtual 140, .ifCond .eq 35, .jsr 31]),
  (31, [.sipush (-9223372036854775808), .lreturn]),
  (35, [.aload 0, .iload 1, .invokevirtual 142, .aload 0, .getfield 594, .iload 2, .ishr, .bipush 1, .iand, .ifCond .ne 54, .iload 3, .i2l, .lreturn]),
  (54, [.aload 0, .aload 0, .getfield 594, .iload 2, .invokevirtual 146, .aload 0, .iload 3, .invokevirtual 154, .lreturn])]
/-- 156: RailPowerModel.lowest(I)J -/
def am_L156 : List (Nat × List Instr) := [(0, [.iload 1, .bipush 0, .bipush 3, .invokevirtual 114, .ifCond .eq 16, .aload 0, .invokevirtual 140, .ifCond .eq 20, .jsr 16]),
  (16, [.sipush (-9223372036854775808), .lreturn]),
  (20, [.aload 0, .invokevirtual 157, .aload 0, .getfield 598, .ifCond .ne 35, .sipush (-9223372036854775808), .lreturn]),
  (35, [.aload 0, .aload 0, .getfield 599, .putfield 595, .aload 0, .aload 0, .getfield 600, .putfield 596, .iload 1, .bipush 2, .if_icmp .ge 64, .aload 0, .iload 1, .invokevirtual 154, .goto 82]),
  (64, [.iload 1, .bipush 2, .if_icmp .ne 77, .aload 0, .getfield 601, .i2l, .goto 82]),
  (77, [.aload 0, .getfield 602, .i2l, .jsr 82]),
  (82, [.lreturn])]
/-- 157: RailPowerModel.findLowest()V -/
def am_L157 : List (Nat × List Instr) := [(0, [.aload 0, .bipush 0, .putfield 598, .bipush 0, .istore 1, .jsr 7]),
  (7, [.iload 1, .bipush 24, .if_icmp .ge 133, .aload 0, .iload 1, .invokevirtual 142, .bipush 0, .istore 2, .jsr 20]),
  (20, [.iload 2, .aload 0, .getfield 584, .if_icmp .ge 127, .aload 0, .getfield 597, .iload 2, .iaload, .bipush (-9), .if_icmp .ne 42, .goto 121]),
  (42, [.aload 0, .aload 0, .getfield 594, .aload 0, .getfield 592, .aload 0, .getfield 597, .iload 2, .iaload, .iaload, .invokevirtual 149, .aload 0, .getfield 598, .ifCond .eq 90, .aload 0, .getfield 595, .aload 0, .getfield 600, .lmul, .aload 0, .getfield 599, .aload 0, .getfield 596, .lmul, .lcmp, .ifCond .ge 121, .jsr 90]),
  (90, [.aload 0, .bipush 1, .putfield 598, .aload 0, .aload 0, .getfield 595, .putfield 599, .aload 0, .aload 0, .getfield 596, .putfield 600, .aload 0, .iload 1, .putfield 601, .aload 0, .iload 2, .putfield 602, .jsr 121]),
  (121, [.iinc 2 1, .goto 20]),
  (127, [.iinc 1 1, .goto 7]),
  (133, [.return_])]
/-- 158: RailPowerModel.safe()I -/
def am_L158 : List (Nat × List Instr) := [(0, [.aload 0, .invokevirtual 140, .ifCond .eq 10, .bipush (-3), .ireturn]),
  (10, [.aload 0, .invokevirtual 159, .ifCond .eq 21, .bipush 1, .goto 22]),
  (21, [.bipush 0, .jsr 22]),
  (22, [.ireturn])]
/-- 159: RailPowerModel.isSafe()Z -/
def am_L159 : List (Nat × List Instr) := [(0, [.aload 0, .invokevirtual 157, .aload 0, .getfield 598, .ifCond .eq 31, .aload 0, .getfield 599, .aload 0, .getfield 578, .bipush 4, .iaload, .i2l, .aload 0, .getfield 600, .lmul, .lcmp, .ifCond .lt 35, .jsr 31]),
  (31, [.bipush 1, .goto 36]),
  (35, [.bipush 0, .jsr 36]),
  (36, [.areturn])]
/-- 160: RailPowerModel.firstOut()I -/
def am_L160 : List (Nat × List Instr) := [(0, [.aload 0, .invokevirtual 140, .ifCond .eq 10, .bipush (-3), .ireturn]),
  (10, [.bipush 0, .istore 1, .jsr 12]),
  (12, [.iload 1, .aload 0, .getfield 579, .if_icmp .ge 78, .aload 0, .getfield 582, .iload 1, .baload, .ifCond .eq 32, .goto 72]),
  (32, [.aload 0, .getfield 582, .iload 1, .bipush 1, .bastore, .aload 0, .invokevirtual 140, .ifCond .ne 53, .aload 0, .invokevirtual 159, .ifCond .ne 57, .jsr 53]),
  (53, [.bipush 1, .goto 58]),
  (57, [.bipush 0, .jsr 58]),
  (58, [.istore 2, .aload 0, .getfield 582, .iload 1, .bipush 0, .bastore, .iload 2, .ifCond .eq 72, .iload 1, .ireturn]),
  (72, [.iinc 1 1, .goto 12]),
  (78, [.bipush (-9), .ireturn])]
/-- 161: RailPowerModel.most(I)J -/
def am_L161 : List (Nat × List Instr) := [(0, [.iload 1, .bipush 0, .bipush 1, .invokevirtual 114, .ifCond .eq 16, .aload 0, .invokevirtual 140, .ifCond .eq 20, .jsr 16]),
  (16, [.sipush (-9223372036854775808), .lreturn]),
  (20, [.aload 0, .invokevirtual 162, .aload 0, .aload 0, .getfield 603, .putfield 595, .aload 0, .aload 0, .getfield 604, .putfield 596, .aload 0, .iload 1, .invokevirtual 154, .lreturn])]
/-- 162: RailPowerModel.findMost()V -/
def am_L162 : List (Nat × List Instr) := [(0, [.aload 0, .sipush 0, .putfield 603, .aload 0, .sipush 1, .putfield 604, .bipush 0, .istore 1, .jsr 12]),
  (12, [.iload 1, .bipush 24, .if_icmp .ge 104, .aload 0, .iload 1, .invokevirtual 142, .bipush 0, .istore 2, .jsr 25]),
  (25, [.iload 2, .aload 0, .getfield 579, .if_icmp .ge 98, .aload 0, .getfield 594, .iload 2, .ishr, .bipush 1, .iand, .bipush 1, .if_icmp .ne 92, .aload 0, .aload 0, .getfield 594, .iload 2, .invokevirtual 146, .aload 0, .getfield 595, .aload 0, .getfield 604, .lmul, .aload 0, .getfield 603, .aload 0, .getfield 596, .lmul, .lcmp, .ifCond .le 92, .aload 0, .aload 0, .getfield 595, .putfield 603, .aload 0, .aload 0, .getfield 596, .putfield 604, .jsr 92]),
  (92, [.iinc 2 1, .goto 25]),
  (98, [.iinc 1 1, .goto 12]),
  (104, [.return_])]
/-- 163: RailPowerModel.shorted(II)I -/
def am_L163 : List (Nat × List Instr) := [(0, [.aload 0, .iload 1, .invokevirtual 120, .ifCond .ne 10, .bipush (-1), .ireturn]),
  (10, [.iload 2, .bipush 1, .bipush 100000, .invokevirtual 114, .ifCond .ne 23, .bipush (-2), .ireturn]),
  (23, [.aload 0, .invokevirtual 140, .ifCond .eq 33, .bipush (-3), .ireturn]),
  (33, [.aload 0, .iload 1, .iload 2, .invokevirtual 164, .aload 0, .getfield 594, .ireturn])]
/-- 164: RailPowerModel.layFault(II)V -/
def am_L164 : List (Nat × List Instr) := [(0, [.aload 0, .bipush 1, .putfield 591, .aload 0, .getfield 592, .bipush 0, .iload 1, .iastore, .aload 0, .getfield 593, .bipush 0, .iload 2, .iastore, .aload 0, .aload 0, .invokevirtual 144, .putfield 594, .return_])]
/-- 165: RailPowerModel.right(I)I -/
def am_L165 : List (Nat × List Instr) := [(0, [.iload 1, .bipush 1, .bipush 100000, .invokevirtual 114, .ifCond .ne 13, .bipush (-2), .ireturn]),
  (13, [.aload 0, .invokevirtual 140, .ifCond .eq 23, .bipush (-3), .ireturn]),
  (23, [.bipush 0, .istore 2, .jsr 25]),
  (25, [.iload 2, .bipush 24, .if_icmp .ge 51, .aload 0, .iload 2, .invokevirtual 142, .aload 0, .invokevirtual 166, .ifCond .eq 45, .bipush 1, .ireturn]),
  (45, [.iinc 2 1, .goto 25]),
  (51, [.bipush 0, .istore 2, .jsr 53]),
  (53, [.iload 2, .aload 0, .getfield 578, .bipush 0, .iaload, .if_icmp .gt 84, .aload 0, .iload 2, .iload 1, .invokevirtual 164, .aload 0, .invokevirtual 166, .ifCond .ne 78, .bipush 2, .ireturn]),
  (78, [.iinc 2 1, .goto 53]),
  (84, [.bipush 0, .ireturn])]
/-- 166: RailPowerModel.isTripped()Z -/
def am_L166 : List (Nat × List Instr) := [(0, [.bipush 0, .istore 1, .jsr 2]),
  (2, [.iload 1, .aload 0, .getfield 579, .if_icmp .ge 59, .aload 0, .getfield 594, .iload 1, .ishr, .bipush 1, .iand, .bipush 1, .if_icmp .ne 53, .aload 0, .aload 0, .getfield 594, .iload 1, .invokevirtual 146, .aload 0, .getfield 595, .aload 0, .getfield 583, .iload 1, .iaload, .i2l, .aload 0, .getfield 596, .lmul, .lcmp, .ifCond .lt 53, .bipush 1, .areturn]),
  (53, [.iinc 1 1, .goto 2]),
  (59, [.bipush 0, .areturn])]
/-- 167: RailPowerModel.peak(II)J -/
def am_L167 : List (Nat × List Instr) := [(0, [.iload 1, .bipush 1, .bipush 2, .invokevirtual 114, .ifCond .eq 36, .iload 2, .bipush 0, .bipush 1, .invokevirtual 114, .ifCond .ne 29, .aload 0, .iload 2, .bipush 10, .isub, .invokevirtual 128, .ifCond .eq 36, .jsr 29]),
  (29, [.aload 0, .invokevirtual 140, .ifCond .eq 40, .jsr 36]),
  (36, [.sipush (-9223372036854775808), .lreturn]),
  (40, [.aload 0, .iload 1, .invokevirtual 168, .iload 2, .bipush 10, .if_icmp .lt 62, .aload 0, .getfield 606, .iload 2, .bipush 10, .isub, .iaload, .i2l, .lreturn]),
  (62, [.aload 0, .aload 0, .getfield 607, .putfield 595, .aload 0, .aload 0, .getfield 608, .putfield 596, .aload 0, .iload 2, .invokevirtual 154, .lreturn])]
/-- 168: RailPowerModel.findPeak(I)V -/
def am_L168 : List (Nat × List Instr) := [(0, [.bipush 1, .istore 2, .bipush 0, .istore 3, .jsr 4]),
  (4, [.iload 3, .aload 0, .getfield 584, .if_icmp .ge 36, .aload 0, .getfield 605, .iload 3, .aload 0, .getfield 587, .iload 3, .iaload, .iastore, .iload 2, .iload 1, .bipush 1, .iadd, .imul, .istore 2, .iinc 3 1, .goto 4]),
  (36, [.aload 0, .sipush (-1), .putfield 607, .bipush 0, .istore 3, .jsr 45]),
  (45, [.iload 3, .iload 2, .if_icmp .ge 182, .iload 3, .istore 4, .aload 0, .getfield 584, .bipush 1, .isub, .istore 5, .jsr 61]),
  (61, [.iload 5, .ifCond .lt 93, .aload 0, .getfield 587, .iload 5, .iload 4, .iload 1, .bipush 1, .iadd, .irem, .iastore, .iload 4, .iload 1, .bipush 1, .iadd, .idiv, .istore 4, .iinc 5 (-1), .goto 61]),
  (93, [.aload 0, .invokevirtual 162, .aload 0, .getfield 607, .sipush 0, .lcmp, .ifCond .lt 128, .aload 0, .getfield 603, .aload 0, .getfield 608, .lmul, .aload 0, .getfield 607, .aload 0, .getfield 604, .lmul, .lcmp, .ifCond .ge 176, .jsr 128]),
  (128, [.aload 0, .aload 0, .getfield 603, .putfield 607, .aload 0, .aload 0, .getfield 604, .putfield 608, .bipush 0, .istore 5, .jsr 147]),
  (147, [.iload 5, .aload 0, .getfield 584, .if_icmp .ge 176, .aload 0, .getfield 606, .iload 5, .aload 0, .getfield 587, .iload 5, .iaload, .iastore, .iinc 5 1, .goto 147]),
  (176, [.iinc 3 1, .goto 45]),
  (182, [.bipush 0, .istore 3, .jsr 184]),
  (184, [.iload 3, .aload 0, .getfield 584, .if_icmp .ge 210, .aload 0, .getfield 587, .iload 3, .aload 0, .getfield 605, .iload 3, .iaload, .iastore, .iinc 3 1, .goto 184]),
  (210, [.return_])]
/-- 169: RailPowerModel.used(I)J -/
def am_L169 : List (Nat × List Instr) := [(0, [.aload 0, .iload 1, .invokevirtual 128, .ifCond .eq 15, .aload 0, .invokevirtual 140, .ifCond .eq 19, .jsr 15]),
  (15, [.sipush (-9223372036854775808), .lreturn]),
  (19, [.sipush 0, .lstore 2, .bipush 0, .istore 4, .jsr 24]),
  (24, [.iload 4, .bipush 24, .if_icmp .ge 98, .aload 0, .iload 4, .invokevirtual 142, .aload 0, .getfield 597, .iload 1, .iaload, .bipush (-9), .if_icmp .eq 92, .aload 0, .aload 0, .getfield 594, .aload 0, .getfield 592, .aload 0, .getfield 597, .iload 1, .iaload, .iaload, .invokevirtual 149, .lload 2, .aload 0, .getfield 595, .aload 0, .getfield 593, .aload 0, .getfield 597, .iload 1, .iaload, .iaload, .i2l, .lmul, .aload 0, .getfield 596, .ldiv, .ladd, .lstore 2, .jsr 92]),
  (92, [.iinc 4 1, .goto 24]),
  (98, [.lload 2, .lreturn])]
/-- 170: RailPowerModel.given(I)J -/
def am_L170 : List (Nat × List Instr) := [(0, [.aload 0, .iload 1, .invokevirtual 123, .ifCond .eq 15, .aload 0, .invokevirtual 140, .ifCond .eq 19, .jsr 15]),
  (15, [.sipush (-9223372036854775808), .lreturn]),
  (19, [.sipush 0, .lstore 2, .bipush 0, .istore 4, .jsr 24]),
  (24, [.iload 4, .bipush 24, .if_icmp .ge 84, .aload 0, .iload 4, .invokevirtual 142, .aload 0, .getfield 594, .iload 1, .ishr, .bipush 1, .iand, .bipush 1, .if_icmp .ne 78, .aload 0, .aload 0, .getfield 594, .iload 1, .invokevirtual 146, .lload 2, .aload 0, .getfield 578, .bipush 2, .iaload, .i2l, .aload 0, .getfield 595, .lmul, .aload 0, .getfield 596, .ldiv, .ladd, .lstore 2, .jsr 78]),
  (78, [.iinc 4 1, .goto 24]),
  (84, [.lload 2, .lreturn])]
/-- 171: RailPowerModel.best(I)J -/
def am_L171 : List (Nat × List Instr) := [(0, [.iload 1, .bipush 0, .bipush 2, .invokevirtual 114, .ifCond .eq 24, .aload 0, .getfield 579, .bipush 5, .if_icmp .eq 24, .aload 0, .invokevirtual 172, .ifCond .ne 28, .jsr 24]),
  (24, [.sipush (-9223372036854775808), .lreturn]),
  (28, [.aload 0, .bipush (-9), .putfield 609, .aload 0, .getfield 579, .istore 2, .bipush 0, .istore 3, .jsr 41]),
  (41, [.iload 3, .aload 0, .getfield 578, .bipush 0, .iaload, .if_icmp .gt 158, .aload 0, .iload 3, .invokevirtual 121, .ifCond .eq 62, .goto 152]),
  (62, [.aload 0, .getfield 581, .iload 2, .iload 3, .iastore, .aload 0, .getfield 582, .iload 2, .bipush 0, .bastore, .aload 0, .dup, .getfield 579, .bipush 1, .iadd, .putfield 579, .aload 0, .invokevirtual 157, .aload 0, .dup, .getfield 579, .bipush 1, .isub, .putfield 579, .aload 0, .getfield 609, .bipush (-9), .if_icmp .eq 131, .aload 0, .getfield 599, .aload 0, .getfield 611, .lmul, .aload 0, .getfield 610, .aload 0, .getfield 600, .lmul, .lcmp, .ifCond .le 152, .jsr 131]),
  (131, [.aload 0, .iload 3, .putfield 609, .aload 0, .aload 0, .getfield 599, .putfield 610, .aload 0, .aload 0, .getfield 600, .putfield 611, .jsr 152]),
  (152, [.iinc 3 1, .goto 41]),
  (158, [.aload 0, .getfield 609, .bipush (-9), .if_icmp .ne 171, .sipush (-9223372036854775808), .lreturn]),
  (171, [.aload 0, .aload 0, .getfield 610, .putfield 595, .aload 0, .aload 0, .getfield 611, .putfield 596, .iload 1, .ifCond .ne 199, .aload 0, .getfield 609, .i2l, .goto 206]),
  (199, [.aload 0, .iload 1, .bipush 1, .isub, .invokevirtual 154, .jsr 206]),
  (206, [.lreturn])]
/-- 172: RailPowerModel.isAnyThere()Z -/
def am_L172 : List (Nat × List Instr) := [(0, [.aload 0, .invokevirtual 173, .ifCond .le 11, .bipush 1, .goto 12]),
  (11, [.bipush 0, .jsr 12]),
  (12, [.areturn])]
/-- 173: RailPowerModel.ticksThere()I -/
def am_L173 : List (Nat × List Instr) := [(0, [.bipush 0, .istore 1, .bipush 0, .istore 2, .jsr 4]),
  (4, [.iload 2, .bipush 24, .if_icmp .ge 36, .aload 0, .iload 2, .invokevirtual 143, .iload 1, .aload 0, .getfield 591, .ifCond .le 27, .bipush 1, .goto 28]),
  (27, [.bipush 0, .jsr 28]),
  (28, [.iadd, .istore 1, .iinc 2 1, .goto 4]),
  (36, [.iload 1, .ireturn])]
/-- 174: RailPowerModel.sheet(III)I -/
def am_L174 : List (Nat × List Instr) := [(0, [.aload 0, .bipush 0, .putfield 576, .iload 1, .invokevirtual 133, .ifCond .ne 14, .bipush (-1), .ireturn]),
  (14, [.iload 2, .invokevirtual 134, .ifCond .eq 27, .iload 3, .bipush 60, .if_icmp .le 30, .jsr 27]),
  (27, [.bipush (-2), .ireturn]),
  (30, [.iload 3, .ifCond .ge 40, .aload 0, .bipush 4, .invokevirtual 135, .ireturn]),
  (40, [.aload 0, .getfield 588, .iload 1, .iload 2, .iastore, .aload 0, .getfield 589, .iload 1, .iload 3, .iastore, .bipush 0, .istore 4, .jsr 57]),
  (57, [.iload 4, .bipush 60, .if_icmp .ge 83, .aload 0, .getfield 590, .bipush 60, .iload 1, .imul, .iload 4, .iadd, .bipush 0, .iastore, .iinc 4 1, .goto 57]),
  (83, [.bipush 1, .ireturn])]
/-- 175: RailPowerModel.lose(I)I -/
def am_L175 : List (Nat × List Instr) := [(0, [.iload 1, .invokevirtual 133, .ifCond .ne 9, .bipush (-1), .ireturn]),
  (9, [.aload 0, .getfield 588, .iload 1, .iaload, .bipush (-9), .if_icmp .ne 24, .bipush 0, .goto 25]),
  (24, [.bipush 1, .jsr 25]),
  (25, [.istore 2, .aload 0, .getfield 588, .iload 1, .bipush (-9), .iastore, .iload 2, .ireturn])]
/-- 176: RailPowerModel.put(III)I -/
def am_L176 : List (Nat × List Instr) := [(0, [.aload 0, .bipush 0, .putfield 576, .iload 1, .invokevirtual 133, .ifCond .ne 14, .bipush (-1), .ireturn]),
  (14, [.aload 0, .getfield 588, .iload 1, .iaload, .bipush (-9), .if_icmp .ne 31, .aload 0, .bipush 1, .invokevirtual 135, .ireturn]),
  (31, [.iload 2, .bipush 0, .aload 0, .getfield 589, .iload 1, .iaload, .bipush 1, .isub, .invokevirtual 114, .ifCond .ne 53, .aload 0, .bipush 3, .invokevirtual 135, .ireturn]),
  (53, [.aload 0, .getfield 590, .bipush 60, .iload 1, .imul, .iload 2, .iadd, .aload 0, .getfield 588, .iload 1, .iaload, .ifCond .ne 77, .iload 3, .i2b, .goto 93]),
  (77, [.aload 0, .getfield 588, .iload 1, .iaload, .bipush 1, .if_icmp .ne 92, .iload 3, .i2s, .goto 93]),
  (92, [.iload 3, .jsr 93]),
  (93, [.iastore, .bipush 1, .ireturn])]
/-- 177: RailPowerModel.cell(III)J -/
def am_L177 : List (Nat × List Instr) := [(0, [.aload 0, .bipush 0, .putfield 576, .iload 1, .invokevirtual 133, .ifCond .eq 19, .iload 3, .invokevirtual 134, .ifCond .ne 23, .jsr 19]),
  (19, [.sipush (-9223372036854775808), .lreturn]),
  (23, [.aload 0, .getfield 588, .iload 1, .iaload, .bipush (-9), .if_icmp .eq 50, .aload 0, .getfield 588, .iload 1, .iaload, .iload 3, .if_icmp .eq 50, .aload 0, .bipush 2, .invokevirtual 178, .lreturn]),
  (50, [.aload 0, .getfield 588, .iload 1, .iaload, .bipush (-9), .if_icmp .ne 67, .aload 0, .bipush 1, .invokevirtual 178, .lreturn]),
  (67, [.iload 2, .bipush 0, .aload 0, .getfield 589, .iload 1, .iaload, .bipush 1, .isub, .invokevirtual 114, .ifCond .ne 89, .aload 0, .bipush 3, .invokevirtual 178, .lreturn]),
  (89, [.aload 0, .getfield 590, .bipush 60, .iload 1, .imul, .iload 2, .iadd, .iaload, .i2l, .lreturn])]
/-- 178: RailPowerModel.lost(I)J -/
def am_L178 : List (Nat × List Instr) := [(0, [.aload 0, .iload 1, .putfield 576, .sipush (-9223372036854775808), .lreturn])]
/-- 179: RailPowerModel.tell(I)I -/
def am_L179 : List (Nat × List Instr) := [(0, [.aload 0, .iload 1, .invokevirtual 123, .ifCond .ne 10, .bipush (-1), .ireturn]),
  (10, [.aload 0, .getfield 582, .iload 1, .baload, .ifCond .eq 23, .bipush 0, .goto 26]),
  (23, [.bipush 1000, .jsr 26]),
  (26, [.istore 2, .aload 0, .getfield 580, .iload 1, .iaload, .lookupswitch 110 #[(1, 60), (2, 79)]]),
  (60, [.aload 0, .bipush 2, .invokevirtual 180, .aload 0, .bipush 1, .invokevirtual 180, .aload 0, .getfield 581, .iload 1, .iaload, .iload 2, .iadd, .ireturn]),
  (79, [.aload 0, .bipush 3, .invokevirtual 180, .aload 0, .bipush 2, .invokevirtual 180, .aload 0, .bipush 1, .invokevirtual 180, .aload 0, .bipush 1, .invokevirtual 180, .bipush 2, .aload 0, .getfield 581, .iload 1, .iaload, .imul, .iload 2, .iadd, .ireturn]),
  (110, [.aload 0, .bipush 1, .invokevirtual 180, .aload 0, .getfield 581, .iload 1, .iaload, .ireturn])]
/-- 180: RailPowerModel.begins(I)V -/
def am_L180 : List (Nat × List Instr) := [(0, [.aload 0, .bipush 31, .aload 0, .getfield 577, .imul, .iload 1, .iadd, .putfield 577, .return_])]
/-- 181: RailPowerModel.call(I)I -/
def am_L181 : List (Nat × List Instr) := [(0, [.aload 0, .iload 1, .invokevirtual 123, .ifCond .ne 10, .bipush (-1), .ireturn]),
  (10, [.aload 0, .aload 0, .getfield 580, .iload 1, .iaload, .bipush 2, .if_icmp .ne 25, .bipush 5, .goto 26]),
  (25, [.bipush 4, .jsr 26]),
  (26, [.invokevirtual 180, .aload 0, .getfield 580, .iload 1, .iaload, .bipush 2, .if_icmp .ne 44, .bipush 50, .goto 45]),
  (44, [.iload 1, .jsr 45]),
  (45, [.ireturn])]
/-- 182: RailPowerModel.as(II)I -/
def am_L182 : List (Nat × List Instr) := [(0, [.aload 0, .bipush 0, .putfield 576, .aload 0, .iload 1, .invokevirtual 123, .ifCond .ne 15, .bipush (-1), .ireturn]),
  (15, [.iload 2, .bipush 0, .bipush 2, .invokevirtual 114, .ifCond .ne 27, .bipush (-2), .ireturn]),
  (27, [.aload 0, .getfield 580, .iload 1, .iaload, .iload 2, .if_icmp .lt 41, .bipush 1, .goto 46]),
  (41, [.aload 0, .bipush 2, .invokevirtual 135, .jsr 46]),
  (46, [.ireturn])]
/-- 183: RailPowerModel.trace()I -/
def am_L183 : List (Nat × List Instr) := [(0, [.aload 0, .getfield 577, .ireturn])]
/-- 184: RailPowerModel.fault()I -/
def am_L184 : List (Nat × List Instr) := [(0, [.aload 0, .getfield 576, .ireturn])]
/-- 185: RailPowerModel.many(I)I -/
def am_L185 : List (Nat × List Instr) := [(0, [.bipush 0, .istore 2, .iload 1, .tableswitch 82 0 3 #[32, 37, 72, 77]]),
  (32, [.aload 0, .getfield 579, .ireturn]),
  (37, [.bipush 0, .istore 3, .jsr 39]),
  (39, [.iload 3, .aload 0, .getfield 579, .if_icmp .ge 70, .iload 2, .aload 0, .getfield 582, .iload 3, .baload, .ifCond .eq 61, .bipush 0, .goto 62]),
  (61, [.bipush 1, .jsr 62]),
  (62, [.iadd, .istore 2, .iinc 3 1, .goto 39]),
  (70, [.iload 2, .ireturn]),
  (72, [.aload 0, .getfield 584, .ireturn]),
  (77, [.aload 0, .invokevirtual 173, .ireturn]),
  (82, [.bipush (-2), .ireturn])]
/-- 186: RailPowerLaw.law([I)Z -/
def am_L186 : List (Nat × List Instr) := [(0, [.new 8, .dup, .invokevirtual 0, .astore 1, .new 9, .dup, .invokevirtual 112, .astore 2, .bipush 0, .istore 3, .jsr 18]),
  (18, [.iload 3, .aload 0, .arraylength, .bipush 6, .isub, .if_icmp .gt 1200, .aload 0, .iload 3, .iaload, .bipush 63, .iand, .tableswitch 1194 0 32 #[180, 213, 246, 295, 328, 361, 374, 427, 490, 523, 566, 589, 633, 677, 701, 714, 727, 751, 784, 807, 841, 865, 889, 913, 956, 979, 1022, 1066, 1089, 1112, 1145, 1158, 1171]]),
  (180, [.aload 1, .aload 0, .iload 3, .bipush 1, .iadd, .iaload, .aload 0, .iload 3, .bipush 2, .iadd, .iaload, .invokevirtual 9, .aload 2, .aload 0, .iload 3, .bipush 1, .iadd, .iaload, .aload 0, .iload 3, .bipush 2, .iadd, .iaload, .invokevirtual 113, .if_icmp .eq 1194, .bipush 0, .areturn]),
  (213, [.aload 1, .aload 0, .iload 3, .bipush 1, .iadd, .iaload, .aload 0, .iload 3, .bipush 2, .iadd, .iaload, .invokevirtual 13, .aload 2, .aload 0, .iload 3, .bipush 1, .iadd, .iaload, .aload 0, .iload 3, .bipush 2, .iadd, .iaload, .invokevirtual 119, .if_icmp .eq 1194, .bipush 0, .areturn]),
  (246, [.aload 1, .aload 0, .iload 3, .bipush 1, .iadd, .iaload, .aload 0, .iload 3, .bipush 2, .iadd, .iaload, .ifCond .eq 264, .bipush 1, .goto 265]),
  (264, [.bipush 0, .jsr 265]),
  (265, [.invokevirtual 16, .aload 2, .aload 0, .iload 3, .bipush 1, .iadd, .iaload, .aload 0, .iload 3, .bipush 2, .iadd, .iaload, .ifCond .eq 286, .bipush 1, .goto 287]),
  (286, [.bipush 0, .jsr 287]),
  (287, [.invokevirtual 122, .if_icmp .eq 1194, .bipush 0, .areturn]),
  (295, [.aload 1, .aload 0, .iload 3, .bipush 1, .iadd, .iaload, .aload 0, .iload 3, .bipush 2, .iadd, .iaload, .invokevirtual 18, .aload 2, .aload 0, .iload 3, .bipush 1, .iadd, .iaload, .aload 0, .iload 3, .bipush 2, .iadd, .iaload, .invokevirtual 124, .if_icmp .eq 1194, .bipush 0, .areturn]),
  (328, [.aload 1, .aload 0, .iload 3, .bipush 1, .iadd, .iaload, .aload 0, .iload 3, .bipush 2, .iadd, .iaload, .invokevirtual 19, .aload 2, .aload 0, .iload 3, .bipush 1, .iadd, .iaload, .aload 0, .iload 3, .bipush 2, .iadd, .iaload, .invokevirtual 125, .if_icmp .eq 1194, .bipush 0, .areturn]),
  (361, [.aload 1, .invokevirtual 20, .aload 2, .invokevirtual 126, .if_icmp .eq 1194, .bipush 0, .areturn]),
  (374, [.aload 1, .aload 0, .iload 3, .bipush 1, .iadd, .iaload, .aload 0, .iload 3, .bipush 2, .iadd, .iaload, .aload 0, .iload 3, .bipush 3, .iadd, .iaload, .aload 0, .iload 3, .bipush 4, .iadd, .iaload, .invokevirtual 21, .aload 2, .aload 0, .iload 3, .bipush 1, .iadd, .iaload, .aload 0, .iload 3, .bipush 2, .iadd, .iaload, .aload 0, .iload 3, .bipush 3, .iadd, .iaload, .aload 0, .iload 3, .bipush 4, .iadd, .iaload, .invokevirtual 127, .if_icmp .eq 1194, .bipush 0, .areturn]),
  (427, [.aload 1, .aload 0, .iload 3, .bipush 1, .iadd, .iaload, .aload 0, .iload 3, .bipush 2, .iadd, .iaload, .aload 0, .iload 3, .bipush 3, .iadd, .iaload, .aload 0, .iload 3, .bipush 4, .iadd, .iaload, .aload 0, .iload 3, .bipush 5, .iadd, .iaload, .invokevirtual 26, .aload 2, .aload 0, .iload 3, .bipush 1, .iadd, .iaload, .aload 0, .iload 3, .bipush 2, .iadd, .iaload, .aload 0, .iload 3, .bipush 3, .iadd, .iaload, .aload 0, .iload 3, .bipush 4, .iadd, .iaload, .aload 0, .iload 3, .bipush 5, .iadd, .iaload, .invokevirtual 132, .if_icmp .eq 1194, .bipush 0, .areturn]),
  (490, [.aload 1, .aload 0, .iload 3, .bipush 1, .iadd, .iaload, .aload 0, .iload 3, .bipush 2, .iadd, .iaload, .invokevirtual 34, .aload 2, .aload 0, .iload 3, .bipush 1, .iadd, .iaload, .aload 0, .iload 3, .bipush 2, .iadd, .iaload, .invokevirtual 136, .if_icmp .eq 1194, .bipush 0, .areturn]),
  (523, [.aload 1, .aload 0, .iload 3, .bipush 1, .iadd, .iaload, .aload 0, .iload 3, .bipush 2, .iadd, .iaload, .aload 0, .iload 3, .bipush 3, .iadd, .iaload, .invokevirtual 35, .aload 2, .aload 0, .iload 3, .bipush 1, .iadd, .iaload, .aload 0, .iload 3, .bipush 2, .iadd, .iaload, .aload 0, .iload 3, .bipush 3, .iadd, .iaload, .invokevirtual 137, .if_icmp .eq 1194, .bipush 0, .areturn]),
  (566, [.aload 1, .aload 0, .iload 3, .bipush 1, .iadd, .iaload, .invokevirtual 60, .aload 2, .aload 0, .iload 3, .bipush 1, .iadd, .iaload, .invokevirtual 152, .if_icmp .eq 1194, .bipush 0, .areturn]),
  (589, [.aload 1, .aload 0, .iload 3, .bipush 1, .iadd, .iaload, .aload 0, .iload 3, .bipush 2, .iadd, .iaload, .aload 0, .iload 3, .bipush 3, .iadd, .iaload, .invokevirtual 62, .aload 2, .aload 0, .iload 3, .bipush 1, .iadd, .iaload, .aload 0, .iload 3, .bipush 2, .iadd, .iaload, .aload 0, .iload 3, .bipush 3, .iadd, .iaload, .invokevirtual 153, .lcmp, .ifCond .eq 1194, .bipush 0, .areturn]),
  (633, [.aload 1, .aload 0, .iload 3, .bipush 1, .iadd, .iaload, .aload 0, .iload 3, .bipush 2, .iadd, .iaload, .aload 0, .iload 3, .bipush 3, .iadd, .iaload, .invokevirtual 66, .aload 2, .aload 0, .iload 3, .bipush 1, .iadd, .iaload, .aload 0, .iload 3, .bipush 2, .iadd, .iaload, .aload 0, .iload 3, .bipush 3, .iadd, .iaload, .invokevirtual 155, .lcmp, .ifCond .eq 1194, .bipush 0, .areturn]),
  (677, [.aload 1, .aload 0, .iload 3, .bipush 1, .iadd, .iaload, .invokevirtual 68, .aload 2, .aload 0, .iload 3, .bipush 1, .iadd, .iaload, .invokevirtual 156, .lcmp, .ifCond .eq 1194, .bipush 0, .areturn]),
  (701, [.aload 1, .invokevirtual 71, .aload 2, .invokevirtual 158, .if_icmp .eq 1194, .bipush 0, .areturn]),
  (714, [.aload 1, .invokevirtual 73, .aload 2, .invokevirtual 160, .if_icmp .eq 1194, .bipush 0, .areturn]),
  (727, [.aload 1, .aload 0, .iload 3, .bipush 1, .iadd, .iaload, .invokevirtual 74, .aload 2, .aload 0, .iload 3, .bipush 1, .iadd, .iaload, .invokevirtual 161, .lcmp, .ifCond .eq 1194, .bipush 0, .areturn]),
  (751, [.aload 1, .aload 0, .iload 3, .bipush 1, .iadd, .iaload, .aload 0, .iload 3, .bipush 2, .iadd, .iaload, .invokevirtual 77, .aload 2, .aload 0, .iload 3, .bipush 1, .iadd, .iaload, .aload 0, .iload 3, .bipush 2, .iadd, .iaload, .invokevirtual 163, .if_icmp .eq 1194, .bipush 0, .areturn]),
  (784, [.aload 1, .aload 0, .iload 3, .bipush 1, .iadd, .iaload, .invokevirtual 80, .aload 2, .aload 0, .iload 3, .bipush 1, .iadd, .iaload, .invokevirtual 165, .if_icmp .eq 1194, .bipush 0, .areturn]),
  (807, [.aload 1, .aload 0, .iload 3, .bipush 1, .iadd, .iaload, .aload 0, .iload 3, .bipush 2, .iadd, .iaload, .invokevirtual 84, .aload 2, .aload 0, .iload 3, .bipush 1, .iadd, .iaload, .aload 0, .iload 3, .bipush 2, .iadd, .iaload, .invokevirtual 167, .lcmp, .ifCond .eq 1194, .bipush 0, .areturn]),
  (841, [.aload 1, .aload 0, .iload 3, .bipush 1, .iadd, .iaload, .invokevirtual 87, .aload 2, .aload 0, .iload 3, .bipush 1, .iadd, .iaload, .invokevirtual 169, .lcmp, .ifCond .eq 1194, .bipush 0, .areturn]),
  (865, [.aload 1, .aload 0, .iload 3, .bipush 1, .iadd, .iaload, .invokevirtual 90, .aload 2, .aload 0, .iload 3, .bipush 1, .iadd, .iaload, .invokevirtual 170, .lcmp, .ifCond .eq 1194, .bipush 0, .areturn]),
  (889, [.aload 1, .aload 0, .iload 3, .bipush 1, .iadd, .iaload, .invokevirtual 92, .aload 2, .aload 0, .iload 3, .bipush 1, .iadd, .iaload, .invokevirtual 171, .lcmp, .ifCond .eq 1194, .bipush 0, .areturn]),
  (913, [.aload 1, .aload 0, .iload 3, .bipush 1, .iadd, .iaload, .aload 0, .iload 3, .bipush 2, .iadd, .iaload, .aload 0, .iload 3, .bipush 3, .iadd, .iaload, .invokevirtual 94, .aload 2, .aload 0, .iload 3, .bipush 1, .iadd, .iaload, .aload 0, .iload 3, .bipush 2, .iadd, .iaload, .aload 0, .iload 3, .bipush 3, .iadd, .iaload, .invokevirtual 174, .if_icmp .eq 1194, .bipush 0, .areturn]),
  (956, [.aload 1, .aload 0, .iload 3, .bipush 1, .iadd, .iaload, .invokevirtual 96, .aload 2, .aload 0, .iload 3, .bipush 1, .iadd, .iaload, .invokevirtual 175, .if_icmp .eq 1194, .bipush 0, .areturn]),
  (979, [.aload 1, .aload 0, .iload 3, .bipush 1, .iadd, .iaload, .aload 0, .iload 3, .bipush 2, .iadd, .iaload, .aload 0, .iload 3, .bipush 3, .iadd, .iaload, .invokevirtual 97, .aload 2, .aload 0, .iload 3, .bipush 1, .iadd, .iaload, .aload 0, .iload 3, .bipush 2, .iadd, .iaload, .aload 0, .iload 3, .bipush 3, .iadd, .iaload, .invokevirtual 176, .if_icmp .eq 1194, .bipush 0, .areturn]),
  (1022, [.aload 1, .aload 0, .iload 3, .bipush 1, .iadd, .iaload, .aload 0, .iload 3, .bipush 2, .iadd, .iaload, .aload 0, .iload 3, .bipush 3, .iadd, .iaload, .invokevirtual 100, .aload 2, .aload 0, .iload 3, .bipush 1, .iadd, .iaload, .aload 0, .iload 3, .bipush 2, .iadd, .iaload, .aload 0, .iload 3, .bipush 3, .iadd, .iaload, .invokevirtual 177, .lcmp, .ifCond .eq 1194, .bipush 0, .areturn]),
  (1066, [.aload 1, .aload 0, .iload 3, .bipush 1, .iadd, .iaload, .invokevirtual 101, .aload 2, .aload 0, .iload 3, .bipush 1, .iadd, .iaload, .invokevirtual 179, .if_icmp .eq 1194, .bipush 0, .areturn]),
  (1089, [.aload 1, .aload 0, .iload 3, .bipush 1, .iadd, .iaload, .invokevirtual 106, .aload 2, .aload 0, .iload 3, .bipush 1, .iadd, .iaload, .invokevirtual 181, .if_icmp .eq 1194, .bipush 0, .areturn]),
  (1112, [.aload 1, .aload 0, .iload 3, .bipush 1, .iadd, .iaload, .aload 0, .iload 3, .bipush 2, .iadd, .iaload, .invokevirtual 107, .aload 2, .aload 0, .iload 3, .bipush 1, .iadd, .iaload, .aload 0, .iload 3, .bipush 2, .iadd, .iaload, .invokevirtual 182, .if_icmp .eq 1194, .bipush 0, .areturn]),
  (1145, [.aload 1, .invokevirtual 108, .aload 2, .invokevirtual 183, .if_icmp .eq 1194, .bipush 0, .areturn]),
  (1158, [.aload 1, .invokevirtual 109, .aload 2, .invokevirtual 184, .if_icmp .eq 1194, .bipush 0, .areturn]),
  (1171, [.aload 1, .aload 0, .iload 3, .bipush 1, .iadd, .iaload, .invokevirtual 110, .aload 2, .aload 0, .iload 3, .bipush 1, .iadd, .iaload, .invokevirtual 185, .if_icmp .eq 1194, .bipush 0, .areturn]),
  (1194, [.iinc 3 6, .goto 18]),
  (1200, [.bipush 1, .areturn])]
def am_BL : List (List (Nat × List Instr)) := [am_L0, am_L1, am_L2, am_L3, am_L4, am_L5, am_L6, am_L7, am_L8, am_L9, am_L10, am_L11,
  am_L12, am_L13, am_L14, am_L15, am_L16, am_L17, am_L18, am_L19, am_L20, am_L21, am_L22, am_L23,
  am_L24, am_L25, am_L26, am_L27, am_L28, am_L29, am_L30, am_L31, am_L32, am_L33, am_L34, am_L35,
  am_L36, am_L37, am_L38, am_L39, am_L40, am_L41, am_L42, am_L43, am_L44, am_L45, am_L46, am_L47,
  am_L48, am_L49, am_L50, am_L51, am_L52, am_L53, am_L54, am_L55, am_L56, am_L57, am_L58, am_L59,
  am_L60, am_L61, am_L62, am_L63, am_L64, am_L65, am_L66, am_L67, am_L68, am_L69, am_L70, am_L71,
  am_L72, am_L73, am_L74, am_L75, am_L76, am_L77, am_L78, am_L79, am_L80, am_L81, am_L82, am_L83,
  am_L84, am_L85, am_L86, am_L87, am_L88, am_L89, am_L90, am_L91, am_L92, am_L93, am_L94, am_L95,
  am_L96, am_L97, am_L98, am_L99, am_L100, am_L101, am_L102, am_L103, am_L104, am_L105, am_L106, am_L107,
  am_L108, am_L109, am_L110, am_L111, am_L112, am_L113, am_L114, am_L115, am_L116, am_L117, am_L118, am_L119,
  am_L120, am_L121, am_L122, am_L123, am_L124, am_L125, am_L126, am_L127, am_L128, am_L129, am_L130, am_L131,
  am_L132, am_L133, am_L134, am_L135, am_L136, am_L137, am_L138, am_L139, am_L140, am_L141, am_L142, am_L143,
  am_L144, am_L145, am_L146, am_L147, am_L148, am_L149, am_L150, am_L151, am_L152, am_L153, am_L154, am_L155,
  am_L156, am_L157, am_L158, am_L159, am_L160, am_L161, am_L162, am_L163, am_L164, am_L165, am_L166, am_L167,
  am_L168, am_L169, am_L170, am_L171, am_L172, am_L173, am_L174, am_L175, am_L176, am_L177, am_L178, am_L179,
  am_L180, am_L181, am_L182, am_L183, am_L184, am_L185, am_L186]
def am_T : List (MethodName × ByteArray × Nat × Option FieldType) := [(yX8_init, prog_1_method_1_code, 2, none), (yX2_init, prog_4_method_1_code, 2, none),
  (yX6_init, prog_8_method_1_code, 1, none), (yX7_init, prog_9_method_1_code, 2, none),
  (yX1_init, prog_3_method_1_code, 3, none), (yX4_init, prog_6_method_1_code, 1, none),
  (yX0_init, prog_2_method_1_code, 2, none), (yX3_init, prog_5_method_1_code, 1, none),
  (yX5_init, prog_7_method_1_code, 1, none), (yX8_rule, prog_1_method_2_code, 4, (some .int)),
  (yX2_allows, prog_4_method_9_code, 3, (some .boolean)), (yX2_isAnyBeyond, prog_4_method_10_code, 4, (some .boolean)),
  (yX1_forget, prog_3_method_2_code, 2, none), (yX8_station, prog_1_method_3_code, 4, (some .int)),
  (yX2_hasPlace, prog_4_method_4_code, 2, (some .boolean)), (yX2_hasStationAt, prog_4_method_5_code, 3, (some .boolean)),
  (yX8_set, prog_1_method_4_code, 3, (some .int)), (yX2_hasStation, prog_4_method_2_code, 2, (some .boolean)),
  (yX8_trip, prog_1_method_5_code, 4, (some .int)), (yX8_about, prog_1_method_6_code, 4, (some .int)),
  (yX8_train, prog_1_method_7_code, 2, (some .int)), (yX8_run, prog_1_method_8_code, 5, (some .int)),
  (yX2_hasTrain, prog_4_method_3_code, 2, (some .boolean)), (yX8_isTick, prog_1_method_35_code, 1, (some .boolean)),
  (yX2_mayRun, prog_4_method_8_code, 3, (some .boolean)), (yX7_beAt, prog_9_method_2_code, 4, none),
  (yX8_runs, prog_1_method_9_code, 8, (some .int)), (yX8_isSheet, prog_1_method_36_code, 1, (some .boolean)),
  (yX8_isLane, prog_1_method_37_code, 1, (some .boolean)), (yX5_failingAs, prog_7_method_3_code, 2, (some .int)),
  (yX5_holdsFrom, prog_7_method_5_code, 4, (some .boolean)), (yX8_failed, prog_1_method_40_code, 2, (some .int)),
  (yX8_mayRunBy, prog_1_method_41_code, 5, (some .boolean)), (yX8_runBy, prog_1_method_42_code, 6, (some .int)),
  (yX8_putOff, prog_1_method_10_code, 4, (some .int)), (yX8_at, prog_1_method_11_code, 5, (some .int)),
  (yX2_isDark, prog_4_method_7_code, 1, (some .boolean)), (yX2_stationsIn, prog_4_method_6_code, 3, (some .int)),
  (yX1_solve, prog_3_method_4_code, 2, none), (yX1_takeStations, prog_3_method_3_code, 3, none),
  (yX0_clearStations, prog_2_method_2_code, 1, none), (yX0_addStation, prog_2_method_3_code, 4, none),
  (yX1_takeLoads, prog_3_method_5_code, 6, (some .boolean)), (yX0_clearLoads, prog_2_method_4_code, 2, none),
  (yX0_addLoad, prog_2_method_5_code, 4, none), (yX0_settle, prog_2_method_6_code, 3, none),
  (yX0_findFeeding, prog_2_method_7_code, 2, (some .boolean)), (yX0_pulledTogether, prog_2_method_14_code, 4, (some .long)),
  (yX0_weigh, prog_2_method_15_code, 3, none), (yX0_nextFeeding, prog_2_method_16_code, 3, (some .int)),
  (yX0_weighOne, prog_2_method_17_code, 13, none), (yX0_leaveOutTaking, prog_2_method_18_code, 3, (some .boolean)),
  (yX0_leaveOutIdle, prog_2_method_19_code, 4, none), (yX0_highestIfAnyTooHigh, prog_2_method_21_code, 4, (some .int)),
  (yX0_givingBackMost, prog_2_method_20_code, 3, (some .int)), (yX0_voltsAt, prog_2_method_11_code, 9, none),
  (yX0_lostBetween, prog_2_method_12_code, 8, (some .long)), (yX0_lostBeyond, prog_2_method_13_code, 7, (some .long)),
  (yX4_become, prog_6_method_2_code, 5, none), (yX4_isBelow, prog_6_method_3_code, 2, (some .boolean)),
  (yX8_feeds, prog_1_method_12_code, 2, (some .int)), (yX0_bits, prog_2_method_8_code, 3, (some .int)),
  (yX8_volts, prog_1_method_13_code, 4, (some .long)), (yX8_isHalf, prog_1_method_38_code, 1, (some .boolean)),
  (yX4_told, prog_6_method_5_code, 4, (some .long)), (yX4_greatestDivisor, prog_6_method_6_code, 11, (some .long)),
  (yX8_gives, prog_1_method_14_code, 4, (some .long)), (yX0_givenBy, prog_2_method_9_code, 4, none),
  (yX8_lowest, prog_1_method_15_code, 2, (some .long)), (yX1_findLowest, prog_3_method_7_code, 7, (some .boolean)),
  (yX1_sinkToLowest, prog_3_method_8_code, 5, none), (yX8_safe, prog_1_method_16_code, 1, (some .int)),
  (yX1_isSafeWithout, prog_3_method_9_code, 2, (some .boolean)), (yX8_firstOut, prog_1_method_17_code, 2, (some .int)),
  (yX8_most, prog_1_method_18_code, 2, (some .long)), (yX1_findMost, prog_3_method_10_code, 7, none),
  (yX0_raiseToMost, prog_2_method_10_code, 3, none), (yX8_shorted, prog_1_method_19_code, 3, (some .int)),
  (yX8_isFaultCurrent, prog_1_method_39_code, 1, (some .boolean)), (yX1_feedFault, prog_3_method_11_code, 3, none),
  (yX8_right, prog_1_method_20_code, 2, (some .int)), (yX1_trainsTrip, prog_3_method_12_code, 2, (some .boolean)),
  (yX1_someTrips, prog_3_method_14_code, 4, (some .boolean)), (yX1_partsAll, prog_3_method_13_code, 3, (some .boolean)),
  (yX8_peak, prog_1_method_21_code, 5, (some .long)), (yX1_findPeak, prog_3_method_15_code, 6, none),
  (yX1_spread, prog_3_method_16_code, 5, none), (yX8_used, prog_1_method_22_code, 2, (some .long)),
  (yX1_usedBy, prog_3_method_17_code, 5, (some .long)), (yX4_times, prog_6_method_4_code, 3, (some .long)),
  (yX8_given, prog_1_method_23_code, 2, (some .long)), (yX1_givenBy, prog_3_method_18_code, 5, (some .long)),
  (yX8_best, prog_1_method_24_code, 2, (some .long)), (yX1_findBest, prog_3_method_19_code, 2, none),
  (yX8_sheet, prog_1_method_25_code, 4, (some .int)), (yX5_renew, prog_7_method_2_code, 4, none),
  (yX8_lose, prog_1_method_26_code, 2, (some .int)), (yX8_put, prog_1_method_27_code, 4, (some .int)),
  (yX5_holds, prog_7_method_4_code, 2, (some .boolean)), (yX5_write, prog_7_method_6_code, 3, none),
  (yX8_cell, prog_1_method_28_code, 5, (some .long)), (yX8_tell, prog_1_method_29_code, 3, (some .int)),
  (yX8_tellWorks, prog_1_method_46_code, 3, (some .int)), (yX8_leaveTrace, prog_1_method_43_code, 2, none),
  (yX8_tellHouse, prog_1_method_45_code, 2, (some .int)), (yX8_tellPost, prog_1_method_44_code, 2, (some .int)),
  (yX8_call, prog_1_method_30_code, 2, (some .int)), (yX8_as, prog_1_method_31_code, 3, (some .int)),
  (yX8_trace, prog_1_method_32_code, 1, (some .int)), (yX8_fault, prog_1_method_33_code, 1, (some .int)),
  (yX8_many, prog_1_method_34_code, 2, (some .int)), (yX1_busyTicks, prog_3_method_6_code, 3, (some .int)),
  (yX9_init, prog_11_method_1_code, 1, none), (yX9_rule, prog_11_method_10_code, 4, (some .int)),
  (yX9_within, prog_11_method_5_code, 3, (some .boolean)), (yX9_leastOf, prog_11_method_6_code, 1, (some .int)),
  (yX9_mostOf, prog_11_method_7_code, 1, (some .int)), (yX9_isAgainst, prog_11_method_9_code, 3, (some .boolean)),
  (yX9_isBeyond, prog_11_method_8_code, 3, (some .boolean)), (yX9_station, prog_11_method_14_code, 3, (some .int)),
  (yX9_isPlace, prog_11_method_11_code, 2, (some .boolean)), (yX9_isTaken, prog_11_method_13_code, 3, (some .boolean)),
  (yX9_set, prog_11_method_15_code, 4, (some .int)), (yX9_isStation, prog_11_method_12_code, 2, (some .boolean)),
  (yX9_trip, prog_11_method_16_code, 4, (some .int)), (yX9_about, prog_11_method_17_code, 3, (some .int)),
  (yX9_train, prog_11_method_20_code, 2, (some .int)), (yX9_run, prog_11_method_23_code, 5, (some .int)),
  (yX9_isTrain, prog_11_method_18_code, 2, (some .boolean)), (yX9_isTick, prog_11_method_19_code, 1, (some .boolean)),
  (yX9_mayRun, prog_11_method_21_code, 3, (some .boolean)), (yX9_lay, prog_11_method_22_code, 5, none),
  (yX9_runs, prog_11_method_26_code, 10, (some .int)), (yX9_isSheet, prog_11_method_24_code, 1, (some .boolean)),
  (yX9_isLane, prog_11_method_25_code, 1, (some .boolean)), (yX9_fails, prog_11_method_3_code, 2, (some .int)),
  (yX9_putOff, prog_11_method_27_code, 4, (some .int)), (yX9_at, prog_11_method_43_code, 4, (some .int)),
  (yX9_placeOf, prog_11_method_28_code, 4, (some .int)), (yX9_amperesOf, prog_11_method_29_code, 3, (some .int)),
  (yX9_isDark, prog_11_method_41_code, 1, (some .boolean)), (yX9_isIn, prog_11_method_30_code, 3, (some .int)),
  (yX9_solve, prog_11_method_40_code, 3, none), (yX9_layLoads, prog_11_method_37_code, 4, none),
  (yX9_findFeeding, prog_11_method_36_code, 3, (some .int)), (yX9_doesFeed, prog_11_method_35_code, 4, (some .boolean)),
  (yX9_findGiven, prog_11_method_34_code, 17, none), (yX9_neighbour, prog_11_method_31_code, 7, (some .int)),
  (yX9_size, prog_11_method_33_code, 1, (some .int)), (yX9_findVolts, prog_11_method_32_code, 18, none),
  (yX9_isTooHigh, prog_11_method_38_code, 2, (some .boolean)), (yX9_nextBack, prog_11_method_39_code, 7, (some .int)),
  (yX9_feeds, prog_11_method_44_code, 2, (some .int)), (yX9_volts, prog_11_method_45_code, 4, (some .long)),
  (yX9_part, prog_11_method_42_code, 8, (some .long)), (yX9_gives, prog_11_method_46_code, 4, (some .long)),
  (yX9_lowest, prog_11_method_48_code, 2, (some .long)), (yX9_findLowest, prog_11_method_47_code, 3, none),
  (yX9_safe, prog_11_method_50_code, 1, (some .int)), (yX9_isSafe, prog_11_method_49_code, 1, (some .boolean)),
  (yX9_firstOut, prog_11_method_51_code, 3, (some .int)), (yX9_most, prog_11_method_53_code, 2, (some .long)),
  (yX9_findMost, prog_11_method_52_code, 3, none), (yX9_shorted, prog_11_method_55_code, 3, (some .int)),
  (yX9_layFault, prog_11_method_54_code, 3, none), (yX9_right, prog_11_method_57_code, 3, (some .int)),
  (yX9_isTripped, prog_11_method_56_code, 2, (some .boolean)), (yX9_peak, prog_11_method_59_code, 3, (some .long)),
  (yX9_findPeak, prog_11_method_58_code, 6, none), (yX9_used, prog_11_method_60_code, 5, (some .long)),
  (yX9_given, prog_11_method_61_code, 5, (some .long)), (yX9_best, prog_11_method_64_code, 4, (some .long)),
  (yX9_isAnyThere, prog_11_method_62_code, 1, (some .boolean)), (yX9_ticksThere, prog_11_method_63_code, 3, (some .int)),
  (yX9_sheet, prog_11_method_65_code, 5, (some .int)), (yX9_lose, prog_11_method_66_code, 3, (some .int)),
  (yX9_put, prog_11_method_67_code, 4, (some .int)), (yX9_cell, prog_11_method_68_code, 4, (some .long)),
  (yX9_lost, prog_11_method_4_code, 2, (some .long)), (yX9_tell, prog_11_method_70_code, 3, (some .int)),
  (yX9_begins, prog_11_method_69_code, 2, none), (yX9_call, prog_11_method_71_code, 2, (some .int)),
  (yX9_as, prog_11_method_72_code, 3, (some .int)), (yX9_trace, prog_11_method_73_code, 1, (some .int)),
  (yX9_fault, prog_11_method_74_code, 1, (some .int)), (yX9_many, prog_11_method_75_code, 4, (some .int)),
  (x, code, 4, (some .boolean))]
def am_ownL : List Nat := [8, 2, 6, 7, 1, 4, 0, 3, 5, 8, 2, 2, 1, 8, 2, 2, 8, 2, 8, 8, 8, 8, 2, 8, 2, 7, 8, 8, 8, 5,
  5, 8, 8, 8, 8, 8, 2, 2, 1, 1, 0, 0, 1, 0, 0, 0, 0, 0, 0, 0, 0, 0, 0, 0, 0, 0, 0, 0, 4, 4,
  8, 0, 8, 8, 4, 4, 8, 0, 8, 1, 1, 8, 1, 8, 8, 1, 0, 8, 8, 1, 8, 1, 1, 1, 8, 1, 1, 8, 1, 4,
  8, 1, 8, 1, 8, 5, 8, 8, 5, 5, 8, 8, 8, 8, 8, 8, 8, 8, 8, 8, 8, 1, 9, 9, 9, 9, 9, 9, 9, 9,
  9, 9, 9, 9, 9, 9, 9, 9, 9, 9, 9, 9, 9, 9, 9, 9, 9, 9, 9, 9, 9, 9, 9, 9, 9, 9, 9, 9, 9, 9,
  9, 9, 9, 9, 9, 9, 9, 9, 9, 9, 9, 9, 9, 9, 9, 9, 9, 9, 9, 9, 9, 9, 9, 9, 9, 9, 9, 9, 9, 9,
  9, 9, 9, 9, 9, 9, 10]
def am_frL : List Nat := [4, 2, 1, 1, 3, 1, 2, 2, 1, 2, 1, 0, 0, 1, 0, 0, 1, 0, 1, 1, 1, 2, 0, 0, 1, 0, 3, 0, 0, 0,
  0, 0, 2, 1, 1, 6, 1, 0, 5, 1, 0, 0, 1, 0, 0, 4, 3, 0, 2, 0, 1, 0, 0, 3, 0, 2, 1, 1, 0, 0,
  6, 0, 6, 0, 1, 0, 6, 1, 6, 5, 3, 7, 6, 7, 6, 5, 1, 5, 0, 4, 6, 5, 0, 5, 7, 6, 0, 6, 5, 0,
  6, 5, 7, 6, 1, 0, 1, 1, 0, 0, 1, 4, 3, 0, 2, 1, 1, 1, 0, 0, 3, 2, 1, 2, 0, 0, 0, 1, 0, 2,
  1, 0, 1, 0, 1, 1, 0, 3, 0, 1, 2, 0, 3, 1, 1, 0, 1, 5, 0, 1, 1, 0, 4, 2, 3, 2, 1, 0, 0, 1,
  2, 2, 5, 5, 0, 5, 6, 5, 7, 6, 7, 6, 5, 5, 4, 5, 2, 7, 6, 5, 5, 6, 4, 3, 2, 2, 2, 2, 0, 1,
  0, 1, 1, 0, 0, 4, 8]
def am_lcL : List Nat := [87, 45, 24, 24, 65, 24, 44, 44, 24, 45, 23, 0, 0, 22, 0, 0, 21, 0, 21, 21, 21, 43, 0, 0, 21, 0, 67, 0, 0, 0,
  0, 0, 43, 23, 21, 145, 22, 0, 124, 23, 0, 0, 23, 0, 0, 102, 78, 0, 56, 0, 24, 0, 0, 79, 0, 51, 24, 24, 0, 0,
  145, 0, 145, 0, 30, 0, 145, 24, 150, 124, 79, 171, 150, 171, 150, 124, 24, 121, 0, 99, 145, 124, 0, 121, 175, 150, 0, 148, 124, 0,
  148, 124, 171, 150, 23, 0, 20, 22, 0, 0, 21, 85, 63, 0, 42, 21, 21, 21, 0, 0, 70, 48, 24, 44, 0, 0, 0, 22, 0, 43,
  22, 0, 21, 0, 22, 21, 0, 65, 0, 22, 43, 0, 65, 22, 22, 0, 22, 130, 0, 23, 22, 0, 108, 45, 86, 63, 26, 0, 0, 26,
  63, 63, 130, 130, 0, 130, 152, 130, 172, 152, 172, 152, 130, 130, 108, 130, 62, 177, 152, 130, 130, 152, 90, 68, 42, 42, 42, 42, 0, 21,
  0, 21, 22, 0, 0, 90, 199]
def am_naL : List Nat := [1, 1, 1, 1, 2, 1, 2, 1, 1, 3, 3, 2, 1, 3, 2, 2, 3, 2, 3, 3, 1, 5, 2, 1, 3, 4, 6, 1, 1, 2,
  3, 2, 4, 4, 3, 4, 1, 1, 2, 2, 1, 3, 3, 1, 4, 1, 1, 1, 1, 2, 4, 1, 1, 1, 1, 3, 4, 3, 3, 2,
  2, 1, 4, 1, 2, 2, 4, 3, 2, 3, 3, 1, 2, 1, 2, 4, 2, 3, 1, 3, 2, 1, 1, 2, 3, 3, 3, 2, 2, 2,
  2, 2, 2, 1, 4, 3, 2, 4, 2, 3, 4, 2, 2, 2, 2, 2, 2, 3, 1, 1, 2, 1, 1, 3, 3, 1, 1, 3, 2, 3,
  2, 2, 3, 2, 3, 3, 1, 5, 2, 1, 3, 5, 6, 1, 1, 2, 3, 4, 3, 3, 1, 1, 2, 2, 1, 3, 3, 4, 1, 3,
  1, 1, 2, 4, 2, 4, 2, 1, 1, 1, 1, 2, 1, 3, 3, 2, 1, 3, 2, 2, 2, 2, 1, 1, 4, 2, 4, 4, 2, 2,
  2, 2, 3, 1, 1, 2, 1]
def am_stL : List Bool := [false, false, false, false, false, false, false, false, false, false, false, false, false, false, false, false, false, false, false, false,
  false, false, false, true, false, false, false, true, true, false, false, false, false, true, false, false, false, false, false, false,
  false, false, false, false, false, false, false, false, false, false, false, false, false, false, false, false, false, false, false, false,
  false, false, false, true, false, true, false, false, false, false, false, false, false, false, false, false, false, false, true, false,
  false, false, false, false, false, false, false, false, false, false, false, false, false, false, false, false, false, false, false, false,
  false, false, false, false, false, false, false, false, false, false, false, false, false, false, true, true, true, false, false, false,
  false, false, false, false, false, false, false, false, false, true, false, false, false, true, true, false, false, false, false, false,
  false, false, false, false, false, false, false, false, true, false, false, false, false, false, false, false, false, false, false, false,
  false, false, false, false, false, false, false, false, false, false, false, false, false, false, false, false, false, false, false, false,
  false, false, false, false, false, false, true]
def am_clsL : List String := [RX0, RX1, RX2, RX3, RX4, RX5, RX6, RX7, RX8, RX9, "RailPowerLaw", "java/lang/Math"]
def am_F : List (Nat × Nat × Nat × Nat) := [(8, 12, 512, 331), (8, 23, 513, 332), (8, 29, 514, 333), (8, 37, 515, 334), (8, 52, 128, 129), (8, 65, 132, 141), (8, 69, 129, 132), (8, 73, 384, 89), (8, 78, 385, 91), (8, 84, 386, 95), (8, 89, 387, 98), (8, 92, 133, 144),
  (8, 104, 130, 135), (8, 114, 517, 336), (8, 144, 131, 138), (8, 151, 448, 118), (8, 154, 449, 121), (8, 161, 64, 262), (8, 165, 8, 207), (8, 197, 66, 266), (8, 200, 67, 268), (8, 203, 65, 264), (8, 215, 68, 270), (8, 231, 69, 272),
  (8, 235, 194, 253), (8, 244, 193, 251), (8, 245, 192, 248), (8, 253, 72, 278), (8, 259, 71, 276), (8, 262, 70, 274), (8, 268, 321, 320), (8, 277, 320, 318), (8, 293, 516, 335), (0, 9, 0, 191), (0, 15, 1, 193), (0, 18, 2, 194),
  (0, 22, 3, 196), (0, 26, 4, 198), (0, 29, 6, 202), (0, 32, 7, 204), (0, 35, 8, 206), (0, 41, 10, 210), (0, 45, 11, 211), (0, 48, 9, 209), (0, 51, 5, 200), (0, 121, 256, 172), (0, 124, 257, 175), (1, 12, 65, 263),
  (1, 18, 68, 269), (1, 23, 69, 271), (1, 27, 70, 273), (1, 30, 71, 275), (1, 34, 74, 280), (1, 37, 75, 281), (1, 40, 76, 282), (1, 44, 73, 279), (1, 50, 128, 128), (1, 58, 64, 261), (1, 63, 72, 277), (1, 67, 194, 252),
  (1, 73, 132, 140), (1, 76, 129, 131), (1, 80, 386, 94), (1, 85, 385, 90), (1, 96, 131, 137), (1, 109, 133, 143), (1, 116, 130, 134), (1, 120, 448, 116), (1, 125, 449, 120), (1, 144, 6, 203), (1, 148, 7, 205), (1, 155, 256, 171),
  (1, 159, 257, 174), (1, 162, 66, 265), (1, 165, 67, 267), (1, 168, 5, 201), (1, 191, 0, 192), (1, 194, 387, 99), (1, 197, 2, 195), (1, 200, 3, 197), (1, 203, 4, 199), (1, 205, 192, 247), (1, 217, 193, 250), (1, 218, 8, 208),
  (2, 9, 128, 127), (2, 17, 129, 130), (2, 23, 130, 133), (2, 27, 131, 136), (2, 32, 132, 139), (2, 36, 133, 142), (2, 39, 385, 92), (2, 42, 386, 96), (2, 57, 448, 117), (3, 12, 192, 246), (3, 18, 193, 249), (4, 9, 257, 173),
  (4, 15, 256, 170), (5, 9, 320, 317), (5, 15, 321, 319), (5, 19, 322, 321), (6, 7, 386, 93), (6, 13, 387, 97), (7, 9, 448, 115), (7, 15, 449, 119), (9, 7, 578, 802), (9, 13, 580, 804), (9, 16, 581, 805), (9, 19, 582, 806),
  (9, 23, 583, 807), (9, 26, 585, 809), (9, 29, 586, 810), (9, 32, 587, 811), (9, 35, 588, 812), (9, 38, 589, 813), (9, 41, 590, 814), (9, 44, 592, 816), (9, 47, 593, 817), (9, 50, 597, 821), (9, 53, 605, 829), (9, 56, 606, 830),
  (9, 59, 576, 800), (9, 65, 579, 803), (9, 68, 584, 808), (9, 132, 591, 815), (9, 137, 596, 820), (9, 141, 595, 819), (9, 164, 594, 818), (9, 191, 598, 822), (9, 195, 600, 824), (9, 198, 599, 823), (9, 201, 601, 825), (9, 204, 602, 826),
  (9, 213, 603, 827), (9, 216, 604, 828), (9, 230, 607, 831), (9, 233, 608, 832), (9, 245, 609, 833), (9, 248, 611, 835), (9, 251, 610, 834), (9, 257, 577, 801)]
def am_C : List (Nat × Nat × Nat × Nat × Nat × Nat × Nat × Nat) := [(8, 11, 1, 2, 76, 77, 0, 56), (8, 20, 4, 2, 160, 161, 0, 59), (8, 33, 8, 3, 313, 314, 0, 63), (8, 36, 5, 3, 330, 167, 0, 60), (8, 48, 10, 0, 358, 359, 360, 56), (8, 55, 12, 0, 366, 367, 368, 59),
  (8, 58, 14, 0, 374, 375, 376, 56), (8, 62, 15, 0, 378, 379, 380, 56), (8, 81, 17, 0, 386, 387, 388, 56), (8, 95, 22, 0, 407, 408, 409, 56), (8, 98, 23, 1, 411, 412, 0, 55), (8, 101, 24, 0, 414, 415, 416, 56),
  (8, 108, 25, 0, 419, 420, 421, 58), (8, 117, 27, 1, 427, 428, 0, 55), (8, 120, 28, 1, 430, 431, 0, 55), (8, 123, 29, 0, 433, 434, 435, 63), (8, 129, 30, 0, 438, 439, 440, 63), (8, 133, 31, 0, 442, 444, 1, 55),
  (8, 136, 32, 0, 446, 448, 2, 55), (8, 140, 33, 1, 450, 451, 0, 55), (8, 147, 36, 0, 461, 462, 463, 56), (8, 157, 38, 0, 469, 470, 471, 59), (8, 168, 61, 0, 572, 573, 574, 61), (8, 172, 63, 1, 580, 581, 0, 55),
  (8, 177, 55, 0, 584, 542, 543, 61), (8, 181, 64, 0, 585, 586, 587, 60), (8, 185, 67, 0, 600, 601, 602, 61), (8, 188, 39, 0, 608, 474, 475, 59), (8, 193, 69, 0, 610, 611, 612, 59), (8, 206, 72, 0, 625, 626, 627, 59),
  (8, 211, 75, 0, 640, 641, 642, 59), (8, 218, 78, 1, 652, 653, 0, 55), (8, 221, 79, 0, 655, 656, 657, 59), (8, 225, 81, 0, 664, 665, 666, 59), (8, 228, 83, 0, 672, 673, 674, 59), (8, 240, 85, 0, 681, 682, 683, 59),
  (8, 248, 88, 0, 695, 696, 697, 59), (8, 251, 91, 0, 707, 708, 709, 59), (8, 256, 93, 0, 716, 717, 718, 59), (8, 265, 95, 0, 725, 726, 727, 63), (8, 271, 98, 0, 737, 738, 739, 63), (8, 274, 99, 0, 741, 742, 743, 63),
  (8, 280, 102, 0, 753, 755, 17, 55), (8, 284, 104, 0, 761, 763, 19, 55), (8, 287, 105, 0, 765, 767, 20, 55), (8, 290, 103, 0, 757, 759, 18, 55), (8, 296, 37, 0, 789, 466, 467, 56), (8, 299, 111, 0, 790, 791, 792, 59),
  (0, 40, 5, 3, 190, 167, 0, 60), (0, 55, 46, 0, 502, 503, 504, 61), (0, 59, 53, 0, 533, 535, 10, 61), (0, 63, 54, 0, 537, 539, 11, 61), (0, 66, 47, 0, 506, 508, 4, 61), (0, 70, 48, 0, 510, 512, 5, 61),
  (0, 73, 51, 0, 525, 527, 8, 61), (0, 76, 52, 0, 529, 531, 9, 61), (0, 79, 58, 0, 560, 561, 562, 60), (0, 83, 59, 0, 564, 565, 566, 60), (0, 87, 56, 0, 545, 547, 12, 61), (0, 97, 57, 0, 552, 554, 13, 61),
  (0, 110, 49, 0, 514, 516, 6, 61), (0, 113, 50, 0, 518, 520, 7, 61), (0, 117, 55, 0, 541, 542, 543, 61), (1, 11, 5, 3, 166, 167, 0, 60), (1, 55, 6, 2, 185, 186, 0, 61), (1, 62, 7, 3, 240, 241, 0, 62),
  (1, 70, 40, 0, 477, 478, 479, 61), (1, 88, 41, 0, 481, 482, 483, 61), (1, 92, 39, 0, 473, 474, 475, 59), (1, 99, 42, 0, 485, 487, 3, 59), (1, 103, 45, 0, 498, 499, 500, 61), (1, 106, 43, 0, 489, 490, 491, 61),
  (1, 112, 23, 4, 493, 412, 0, 55), (1, 128, 44, 0, 494, 495, 496, 61), (1, 132, 58, 0, 614, 561, 562, 60), (1, 136, 70, 0, 615, 617, 14, 59), (1, 140, 59, 0, 620, 565, 566, 60), (1, 151, 55, 0, 619, 542, 543, 61),
  (1, 173, 69, 0, 630, 611, 612, 59), (1, 177, 76, 0, 644, 645, 646, 61), (1, 181, 46, 0, 659, 503, 504, 61), (1, 185, 82, 0, 668, 670, 15, 59), (1, 188, 79, 0, 676, 656, 657, 59), (1, 210, 86, 0, 686, 688, 16, 59),
  (1, 213, 75, 0, 690, 641, 642, 59), (1, 219, 89, 0, 699, 700, 701, 60), (1, 223, 67, 0, 711, 601, 602, 61), (1, 226, 15, 0, 720, 379, 380, 56), (2, 30, 2, 3, 85, 86, 0, 57), (2, 31, 3, 2, 111, 112, 0, 58),
  (2, 46, 37, 0, 465, 466, 467, 56), (2, 50, 14, 0, 418, 375, 376, 56), (2, 54, 11, 0, 362, 364, 0, 56), (3, 11, 5, 3, 245, 167, 0, 60), (4, 24, 65, 1, 592, 593, 0, 60), (10, 9, 0, 2, 68, 69, 0, 55),
  (10, 12, 112, 2, 796, 797, 0, 64), (10, 13, 9, 0, 350, 351, 352, 55), (10, 17, 113, 0, 909, 910, 911, 64), (10, 18, 13, 0, 370, 371, 372, 55), (10, 21, 119, 0, 930, 931, 932, 64), (10, 22, 16, 0, 382, 383, 384, 55),
  (10, 26, 122, 0, 942, 943, 944, 64), (10, 27, 18, 0, 390, 391, 392, 55), (10, 30, 124, 0, 950, 951, 952, 64), (10, 31, 19, 0, 395, 396, 397, 55), (10, 34, 125, 0, 955, 956, 957, 64), (10, 35, 20, 0, 399, 400, 401, 55),
  (10, 39, 126, 0, 959, 960, 961, 64), (10, 40, 21, 0, 403, 404, 405, 55), (10, 44, 127, 0, 963, 964, 965, 64), (10, 45, 26, 0, 423, 424, 425, 55), (10, 49, 132, 0, 982, 983, 984, 64), (10, 50, 34, 0, 453, 454, 455, 55),
  (10, 53, 136, 0, 997, 998, 999, 64), (10, 54, 35, 0, 457, 458, 459, 55), (10, 58, 137, 0, 1001, 1002, 1003, 64), (10, 59, 60, 0, 568, 569, 570, 55), (10, 63, 152, 0, 1061, 1062, 1063, 64), (10, 64, 62, 0, 576, 577, 578, 55),
  (10, 68, 153, 0, 1065, 1066, 1067, 64), (10, 69, 66, 0, 596, 597, 598, 55), (10, 72, 155, 0, 1074, 1075, 1076, 64), (10, 73, 68, 0, 604, 605, 606, 55), (10, 77, 156, 0, 1078, 1079, 1080, 64), (10, 78, 71, 0, 621, 622, 623, 55),
  (10, 81, 158, 0, 1086, 1087, 1088, 64), (10, 82, 73, 0, 631, 632, 633, 55), (10, 85, 160, 0, 1094, 1095, 1096, 64), (10, 86, 74, 0, 635, 636, 637, 55), (10, 89, 161, 0, 1098, 1099, 1100, 64), (10, 90, 77, 0, 648, 649, 650, 55),
  (10, 93, 163, 0, 1106, 1107, 1108, 64), (10, 94, 80, 0, 660, 661, 662, 55), (10, 97, 165, 0, 1114, 1115, 1116, 64), (10, 98, 84, 0, 677, 678, 679, 55), (10, 102, 167, 0, 1122, 1123, 1124, 64), (10, 103, 87, 0, 691, 692, 693, 55),
  (10, 106, 169, 0, 1131, 1132, 1133, 64), (10, 107, 90, 0, 703, 704, 705, 55), (10, 110, 170, 0, 1135, 1136, 1137, 64), (10, 111, 92, 0, 712, 713, 714, 55), (10, 114, 171, 0, 1139, 1140, 1141, 64), (10, 115, 94, 0, 721, 722, 723, 55),
  (10, 118, 174, 0, 1151, 1152, 1153, 64), (10, 119, 96, 0, 729, 730, 731, 55), (10, 122, 175, 0, 1155, 1156, 1157, 64), (10, 123, 97, 0, 733, 734, 735, 55), (10, 126, 176, 0, 1159, 1160, 1161, 64), (10, 127, 100, 0, 745, 746, 747, 55),
  (10, 130, 177, 0, 1163, 1164, 1165, 64), (10, 131, 101, 0, 749, 750, 751, 55), (10, 134, 179, 0, 1171, 1172, 1173, 64), (10, 135, 106, 0, 769, 770, 771, 55), (10, 138, 181, 0, 1179, 1180, 1181, 64), (10, 139, 107, 0, 773, 774, 775, 55),
  (10, 142, 182, 0, 1183, 1184, 1185, 64), (10, 143, 108, 0, 777, 778, 779, 55), (10, 146, 183, 0, 1187, 1188, 1189, 64), (10, 147, 109, 0, 781, 782, 783, 55), (10, 150, 184, 0, 1191, 1192, 1193, 64), (10, 151, 110, 0, 785, 786, 787, 55),
  (10, 154, 185, 0, 1195, 1196, 1197, 64), (9, 71, 118, 0, 926, 928, 22, 64), (9, 75, 114, 1, 913, 914, 0, 64), (9, 79, 115, 1, 916, 917, 0, 64), (9, 83, 116, 1, 919, 920, 0, 64), (9, 86, 117, 0, 922, 924, 21, 64),
  (9, 90, 120, 0, 934, 936, 23, 64), (9, 93, 121, 0, 938, 940, 24, 64), (9, 96, 123, 0, 946, 948, 25, 64), (9, 100, 128, 0, 967, 969, 26, 64), (9, 103, 129, 1, 971, 972, 0, 64), (9, 106, 130, 0, 974, 976, 27, 64),
  (9, 109, 131, 0, 978, 980, 28, 64), (9, 113, 133, 1, 986, 987, 0, 64), (9, 116, 134, 1, 989, 990, 0, 64), (9, 119, 135, 0, 992, 994, 29, 64), (9, 124, 138, 0, 1005, 1007, 30, 64), (9, 128, 147, 0, 1041, 1043, 39, 64),
  (9, 144, 148, 1, 1045, 1046, 0, 64), (9, 147, 146, 0, 1037, 1039, 38, 64), (9, 151, 149, 0, 1048, 1050, 40, 64), (9, 154, 141, 0, 1017, 1019, 33, 64), (9, 158, 145, 0, 1033, 1035, 37, 64), (9, 161, 139, 0, 1009, 1011, 31, 64),
  (9, 167, 143, 0, 1025, 1027, 35, 64), (9, 171, 144, 0, 1029, 1031, 36, 64), (9, 174, 150, 0, 1053, 1055, 41, 64), (9, 178, 151, 0, 1057, 1059, 42, 64), (9, 181, 140, 0, 1013, 1015, 32, 64), (9, 184, 142, 0, 1021, 1023, 34, 64),
  (9, 187, 154, 0, 1070, 1072, 43, 64), (9, 207, 157, 0, 1082, 1084, 44, 64), (9, 210, 159, 0, 1090, 1092, 45, 64), (9, 219, 162, 0, 1102, 1104, 46, 64), (9, 222, 164, 0, 1110, 1112, 47, 64), (9, 225, 166, 0, 1118, 1120, 48, 64),
  (9, 236, 168, 0, 1126, 1128, 49, 64), (9, 239, 173, 0, 1147, 1149, 51, 64), (9, 242, 172, 0, 1143, 1145, 50, 64), (9, 254, 178, 0, 1167, 1169, 52, 64), (9, 260, 180, 0, 1175, 1177, 53, 64)]
def am_Nw : List (Nat × Nat × Nat × Nat × Nat × Nat) := [(8, 9, 2, 74, 75, 56), (8, 18, 1, 158, 159, 59), (8, 27, 5, 310, 312, 63), (8, 34, 4, 329, 165, 60), (0, 38, 4, 189, 165, 60), (1, 9, 4, 164, 165, 60), (1, 21, 3, 181, 239, 62), (1, 48, 0, 183, 184, 61), (2, 15, 6, 80, 84, 57), (2, 21, 7, 82, 110, 58), (3, 9, 4, 244, 165, 60), (10, 7, 8, 66, 67, 55),
  (10, 10, 9, 794, 795, 64)]
def am_A : List (Nat × Nat × Nat × Nat) := [(8, 27, 6, 310), (1, 21, 5, 181), (2, 15, 3, 80), (2, 21, 4, 82)]
def am_K : List (Nat × Nat × Int × Nat) := [(8, 88, 100000, 394), (9, 99, 100000, 954)]
def am_J : List (Nat × Nat × Int × Nat) := [(8, 127, 2, 437), (8, 175, -9223372036854775808, 583), (8, 191, -1000000000, 609), (8, 209, 1000000000, 639), (0, 101, 1000, 559), (1, 171, -1000000000, 629), (1, 208, 1000000000, 685), (4, 28, -9223372036854775808, 595), (9, 63, -9223372036854775808, 1069), (9, 122, 2, 996), (9, 135, 1000, 1052), (9, 228, -1, 1130)]
def am_G : List (Nat × Nat × Nat × Nat) := [(8, 41, 0, 354), (8, 45, 1, 356)]
def am_O : List (Nat × Nat × Nat) := [(8, 3, 71), (0, 3, 188), (1, 3, 163), (2, 3, 79), (3, 3, 243), (4, 3, 169), (5, 3, 316), (6, 1, 88), (7, 3, 114), (9, 1, 799)]
def am_Mt : List (Nat × Nat × Nat × Nat) := [(0, 91, 0, 522), (0, 103, 1, 549), (0, 106, 2, 556), (4, 18, 3, 589)]
def am_mp0 : Nat × Nat := (523, 524)
def am_mp1 : Nat × Nat := (550, 551)
def am_mp2 : Nat × Nat := (557, 558)
def am_mp3 : Nat × Nat := (590, 591)
def am_mi : Nat := 65
def am_oip : Nat := 72
def am_oic : Nat := 73
def am_cdL : List Nat := [70, 78, 87, 113, 162, 168, 187, 242, 315, 353, 361, 365, 369, 373, 377, 381, 385, 389, 393, 398, 402, 406, 410, 413, 417, 422, 426, 429, 432, 436,
  441, 445, 449, 452, 456, 460, 464, 468, 472, 476, 480, 484, 488, 492, 497, 501, 505, 509, 513, 517, 521, 528, 532, 536, 540, 544, 548, 555, 563, 567,
  571, 575, 579, 582, 588, 594, 599, 603, 607, 613, 618, 624, 628, 634, 638, 643, 647, 651, 654, 658, 663, 667, 671, 675, 680, 684, 689, 694, 698, 702,
  706, 710, 715, 719, 724, 728, 732, 736, 740, 744, 748, 752, 756, 760, 764, 768, 772, 776, 780, 784, 788, 793, 798, 912, 915, 918, 921, 925, 929, 933,
  937, 941, 945, 949, 953, 958, 962, 966, 970, 973, 977, 981, 985, 988, 991, 995, 1000, 1004, 1008, 1012, 1016, 1020, 1024, 1028, 1032, 1036, 1040, 1044, 1047, 1051,
  1056, 1060, 1064, 1068, 1073, 1077, 1081, 1085, 1089, 1093, 1097, 1101, 1105, 1109, 1113, 1117, 1121, 1125, 1129, 1134, 1138, 1142, 1146, 1150, 1154, 1158, 1162, 1166, 1170, 1174,
  1178, 1182, 1186, 1190, 1194, 1198, 0]
def am_AO : List String := ["RailPower$Station", "RailPower$Train", "RailPower$Peak", "RailPower$Sheet"]
def am_ND : List Nat := [12, 13, 6, 3, 2, 3, 4, 2, 6, 36]
end
section
/-! THE ABSTRACT MACHINE. Values: .int, .long, .null, .ref k (own cell k), .retAddr i (outside array i), .float 0 (no value). -/
abbrev aH : Type := List (Nat ⊕ (Nat × Nat)) × (Nat → Nat → Option Nat) × (Nat → Nat → Int32) × (Nat → Nat → Int64)
abbrev aS : Type := List Instr × List Value × List Value × aH
abbrev aR : Type := Option Value × aH
abbrev aO : Type := Option (aS ⊕ (aR ⊕ (Nat × List Value × aS)))
abbrev aE : Type := Nat → Nat × (Nat → Int32)
def am_B (M t : Nat) : List Instr := (((am_BL[M]?).getD []).lookup t).getD []
def am_Td : MethodName × ByteArray × Nat × Option FieldType := (⟨"", "", ""⟩, ⟨#[]⟩, 0, none)
def am_y (M : Nat) : MethodName := ((am_T[M]?).getD am_Td).1
def am_cc (M : Nat) : ByteArray := ((am_T[M]?).getD am_Td).2.1
def am_mL (M : Nat) : Nat := ((am_T[M]?).getD am_Td).2.2.1
def am_rt (M : Nat) : Option FieldType := ((am_T[M]?).getD am_Td).2.2.2
def am_own (M : Nat) : Nat := (am_ownL[M]?).getD 0
def am_fr (M : Nat) : Nat := (am_frL[M]?).getD 0
def am_lc (M : Nat) : Nat := (am_lcL[M]?).getD 0
def am_na (M : Nat) : Nat := (am_naL[M]?).getD 0
def am_st (M : Nat) : Bool := (am_stL[M]?).getD true
def am_cls (c : Nat) : String := (am_clsL[c]?).getD ""
def am_N (c : Nat) : Nat := (am_ND[c]?).getD 0
def am_ty (c i : Nat) : FieldType := match c with
  | 0 => tyX0 i
  | 1 => tyX1 i
  | 2 => tyX2 i
  | 3 => tyX3 i
  | 4 => tyX4 i
  | 5 => tyX5 i
  | 6 => tyX6 i
  | 7 => tyX7 i
  | 8 => tyX8 i
  | _ => tyX9 i
def am_Tx (c : Nat) : u_T := match c with
  | 0 => TX0
  | 1 => TX1
  | 2 => TX2
  | 3 => TX3
  | 4 => TX4
  | 5 => TX5
  | 6 => TX6
  | 7 => TX7
  | 8 => TX8
  | _ => TX9
def am_up {α : Type} (f : Nat → Nat → α) (k i : Nat) (v : α) : Nat → Nat → α := fun a => if a = k then (fun b => if b = i then v else f a b) else f a
def am_blk {α : Type} (f : Nat → Nat → α) (k : Nat) (v : α) : Nat → Nat → α := fun a => if a = k then (fun _ => v) else f a
def am_dm : Value := .float 0
def am_kp : Value → Value := fun v => match v with
  | .long _ => am_dm
  | .double _ => am_dm
  | w => w
def am_set1 : List Value → Nat → Value → List Value
  | [], _, _ => []
  | _ :: L, 0, v => v :: L
  | a :: L, 1, v => am_kp a :: am_set1 L 0 v
  | a :: L, n + 2, v => a :: am_set1 L (n + 1) v
def am_set2 (L : List Value) (n : Nat) (v : Value) : List Value := (am_set1 L n v).set (n + 1) am_dm
/-- an index that is in a row of n -/
def am_in (i : Int32) (n : Nat) : Prop := ¬ (i < 0 ∨ n ≤ i.toNatClampNeg)
def am_inB (i : Int32) (n : Nat) : Bool := !(decide (i < 0) || decide (n ≤ i.toNatClampNeg))
def am_fv (h : aH) (c k i : Nat) : Value := match am_ty c i with
  | .int => .int (h.2.2.1 k i)
  | .boolean => .int (h.2.2.1 k i)
  | .long => .long (h.2.2.2 k i)
  | _ => va_rf (h.2.1 k i)
/-- a field that gets a value -/
def am_pf (h : aH) (c k i : Nat) (v : Value) : Option aH := match am_ty c i, v with
  | .int, .int y => some (h.1, h.2.1, am_up h.2.2.1 k i y, h.2.2.2)
  | .boolean, .int y => if y = 0 ∨ y = 1 then some (h.1, h.2.1, am_up h.2.2.1 k i y, h.2.2.2) else none
  | .long, .long y => some (h.1, h.2.1, h.2.2.1, am_up h.2.2.2 k i y)
  | .object _, .ref j => some (h.1, am_up h.2.1 k i (some j), h.2.2)
  | .array _, .ref j => some (h.1, am_up h.2.1 k i (some j), h.2.2)
  | _, _ => none
def am_obj (h : aH) (k c : Nat) : Bool := match h.1[k]? with
  | some (.inl d) => d == c
  | _ => false
def am_row (h : aH) (k t : Nat) (i : Int32) : Bool := match h.1[k]? with
  | some (.inr (u, n)) => u == t && am_inB i n
  | _ => false
/-- a row of references: its kind -/
def am_rowR (h : aH) (k : Nat) (i : Int32) : Bool := match h.1[k]? with
  | some (.inr (u, n)) => decide (3 ≤ u) && decide (u < 7) && am_inB i n
  | _ => false
def am_et : Nat → FieldType := fun t => match t with
  | 0 => .int
  | 1 => .boolean
  | 2 => .long
  | n + 3 => .object ((am_AO[n]?).getD "")
/-- the row's kind holds cells of class c -/
def am_fit (h : aH) (k j : Nat) : Bool := match h.1[k]?, h.1[j]? with
  | some (.inr (u, _)), some (.inl c) => decide (3 ≤ u) && decide (u < 7) && decide (c < 10) && decide (am_cls c = (am_AO[u - 3]?).getD "")
  | _, _ => false
def am_lay (h : aH) (q : Nat ⊕ (Nat × Nat)) : aH := (h.1 ++ [q], am_blk h.2.1 h.1.length none, am_blk h.2.2.1 h.1.length 0, am_blk h.2.2.2 h.1.length 0)
def am_atN : ArrayType → Nat := fun t => match t with
  | .int => 0
  | .boolean => 1
  | .long => 2
  | _ => 9
def am_cond (c : Jvm.ClassFile.Cond) (x y : Int32) : Bool := match c with
  | .eq => decide (x = y)
  | .ne => decide (¬ x = y)
  | .lt => decide (x < y)
  | .ge => decide (y ≤ x)
  | .gt => decide (y < x)
  | .le => decide (x ≤ y)
def am_tsw (dflt lo hi : Int) (offs : Array Int) (x : Int32) : Nat := if x.toInt < lo ∨ hi < x.toInt then dflt.toNat else ((offs.toList[(x.toInt - lo).toNat]?).getD 0).toNat
def am_lsw (dflt : Int) (ps : Array (Int × Int)) (x : Int32) : Nat := ((((ps.toList.find? (fun q => q.1 == x.toInt)).map (fun q => q.2)).getD dflt)).toNat
def am_push (c : List Instr) (L S : List Value) (h : aH) : aO := some (.inl (c, L, S, h))
def am_recv (h : aH) (k : Nat) (as : List Value) : Bool := am_st k || (match as with
  | .ref r :: _ => am_obj h r (am_own k)
  | _ => false)
/-- the locals of a method that is entered: a long takes two -/
def am_loc : List Value → List Value
  | [] => []
  | v :: vs => if v.category = 2 then v :: am_dm :: am_loc vs else v :: am_loc vs
def am_step (E : aE) (M : Nat) (c0 : List Instr) (L S : List Value) (h : aH) : aO := match c0 with
  | [] => none
  | i :: c => match i with
    | .bipush v => am_push c L (.int (Int32.ofInt v) :: S) h
    | .sipush v => am_push c L (.long (Int64.ofInt v) :: S) h
    | .iload n => (match L[n]? with
      | some (.int x) => am_push c L (.int x :: S) h
      | _ => none)
    | .lload n => (match L[n]? with
      | some (.long x) => am_push c L (.long x :: S) h
      | _ => none)
    | .aload n => (match L[n]? with
      | some (.ref x) => am_push c L (.ref x :: S) h
      | some (.retAddr x) => am_push c L (.retAddr x :: S) h
      | _ => none)
    | .istore n => (match S with
      | .int x :: S' => if n < L.length then am_push c (am_set1 L n (.int x)) S' h else none
      | _ => none)
    | .astore n => (match S with
      | .ref x :: S' => if n < L.length then am_push c (am_set1 L n (.ref x)) S' h else none
      | _ => none)
    | .lstore n => (match S with
      | .long x :: S' => if n + 1 < L.length then am_push c (am_set2 L n (.long x)) S' h else none
      | _ => none)
    | .iinc n v => (match L[n]? with
      | some (.int x) => am_push c (am_set1 L n (.int (x + Int32.ofInt v))) S h
      | _ => none)
    | .iadd => (match S with
      | .int y :: .int x :: S' => am_push c L (.int (x + y) :: S') h
      | _ => none)
    | .isub => (match S with
      | .int y :: .int x :: S' => am_push c L (.int (x - y) :: S') h
      | _ => none)
    | .imul => (match S with
      | .int y :: .int x :: S' => am_push c L (.int (x * y) :: S') h
      | _ => none)
    | .iand => (match S with
      | .int y :: .int x :: S' => am_push c L (.int (x &&& y) :: S') h
      | _ => none)
    | .ior => (match S with
      | .int y :: .int x :: S' => am_push c L (.int (x ||| y) :: S') h
      | _ => none)
    | .ixor => (match S with
      | .int y :: .int x :: S' => am_push c L (.int (x ^^^ y) :: S') h
      | _ => none)
    | .ishl => (match S with
      | .int y :: .int x :: S' => am_push c L (.int (x <<< (y &&& 31)) :: S') h
      | _ => none)
    | .ishr => (match S with
      | .int y :: .int x :: S' => am_push c L (.int (x >>> (y &&& 31)) :: S') h
      | _ => none)
    | .idiv => (match S with
      | .int y :: .int x :: S' => if y = 0 then none else am_push c L (.int (x / y) :: S') h
      | _ => none)
    | .irem => (match S with
      | .int y :: .int x :: S' => if y = 0 then none else am_push c L (.int (x - x / y * y) :: S') h
      | _ => none)
    | .ineg => (match S with
      | .int x :: S' => am_push c L (.int (-x) :: S') h
      | _ => none)
    | .ladd => (match S with
      | .long y :: .long x :: S' => am_push c L (.long (x + y) :: S') h
      | _ => none)
    | .lsub => (match S with
      | .long y :: .long x :: S' => am_push c L (.long (x - y) :: S') h
      | _ => none)
    | .lmul => (match S with
      | .long y :: .long x :: S' => am_push c L (.long (x * y) :: S') h
      | _ => none)
    | .ldiv => (match S with
      | .long y :: .long x :: S' => if y = 0 then none else am_push c L (.long (x / y) :: S') h
      | _ => none)
    | .lrem => (match S with
      | .long y :: .long x :: S' => if y = 0 then none else am_push c L (.long (x - x / y * y) :: S') h
      | _ => none)
    | .lneg => (match S with
      | .long x :: S' => am_push c L (.long (-x) :: S') h
      | _ => none)
    | .lcmp => (match S with
      | .long y :: .long x :: S' => am_push c L (.int (lg_cmp x y) :: S') h
      | _ => none)
    | .i2l => (match S with
      | .int x :: S' => am_push c L (.long x.toInt64 :: S') h
      | _ => none)
    | .i2b => (match S with
      | .int x :: S' => am_push c L (.int x.toInt8.toInt32 :: S') h
      | _ => none)
    | .i2s => (match S with
      | .int x :: S' => am_push c L (.int x.toInt16.toInt32 :: S') h
      | _ => none)
    | .dup => (match S with
      | .ref x :: S' => am_push c L (.ref x :: .ref x :: S') h
      | .int x :: S' => am_push c L (.int x :: .int x :: S') h
      | _ => none)
    | .dup2 => (match S with
      | .int y :: .ref x :: S' => am_push c L (.int y :: .ref x :: .int y :: .ref x :: S') h
      | _ => none)
    | .pop => (match S with
      | .int _ :: S' => am_push c L S' h
      | _ => none)
    | .pop2 => (match S with
      | .ref _ :: S' => if S'.length ≤ 4 then am_push c L S' h else none
      | _ => none)
    | .if_icmp o t => (match S with
      | .int y :: .int x :: S' => if am_cond o x y then am_push (am_B M t.toNat) L S' h else am_push c L S' h
      | _ => none)
    | .ifCond o t => (match S with
      | .int x :: S' => if am_cond o x 0 then am_push (am_B M t.toNat) L S' h else am_push c L S' h
      | _ => none)
    | .goto t => am_push (am_B M t.toNat) L S h
    | .jsr t => am_push (am_B M t.toNat) L S h
    | .tableswitch d lo hi os => (match S with
      | .int x :: S' => am_push (am_B M (am_tsw d lo hi os x)) L S' h
      | _ => none)
    | .lookupswitch d ps => (match S with
      | .int x :: S' => am_push (am_B M (am_lsw d ps x)) L S' h
      | _ => none)
    | .getfield x => (match S with
      | .ref k :: S' => if am_obj h k (x / 64) then am_push c L (am_fv h (x / 64) k (x % 64) :: S') h else none
      | _ => none)
    | .putfield x => (match S with
      | v :: .ref k :: S' => if am_obj h k (x / 64) then (match am_pf h (x / 64) k (x % 64) v with
        | some h' => am_push c L S' h'
        | none => none) else none
      | _ => none)
    | .getstatic x => am_push c L (.retAddr x :: S) h
    | .iaload => (match S with
      | .int i :: .ref k :: S' => if am_row h k 0 i then am_push c L (.int (h.2.2.1 k i.toNatClampNeg) :: S') h else none
      | .int i :: .retAddr k :: S' => if k < 3 ∧ am_inB i (E k).1 then am_push c L (.int ((E k).2 i.toNatClampNeg) :: S') h else none
      | _ => none)
    | .baload => (match S with
      | .int i :: .ref k :: S' => if am_row h k 1 i then am_push c L (.int (h.2.2.1 k i.toNatClampNeg) :: S') h else none
      | _ => none)
    | .laload => (match S with
      | .int i :: .ref k :: S' => if am_row h k 2 i then am_push c L (.long (h.2.2.2 k i.toNatClampNeg) :: S') h else none
      | _ => none)
    | .aaload => (match S with
      | .int i :: .ref k :: S' => if am_rowR h k i then am_push c L (va_rf (h.2.1 k i.toNatClampNeg) :: S') h else none
      | _ => none)
    | .iastore => (match S with
      | .int v :: .int i :: .ref k :: S' => if am_row h k 0 i then am_push c L S' (h.1, h.2.1, am_up h.2.2.1 k i.toNatClampNeg v, h.2.2.2) else none
      | _ => none)
    | .bastore => (match S with
      | .int v :: .int i :: .ref k :: S' => if am_row h k 1 i ∧ (v = 0 ∨ v = 1) then am_push c L S' (h.1, h.2.1, am_up h.2.2.1 k i.toNatClampNeg v, h.2.2.2) else none
      | _ => none)
    | .lastore => (match S with
      | .long v :: .int i :: .ref k :: S' => if am_row h k 2 i then am_push c L S' (h.1, h.2.1, h.2.2.1, am_up h.2.2.2 k i.toNatClampNeg v) else none
      | _ => none)
    | .aastore => (match S with
      | .ref j :: .int i :: .ref k :: S' => if am_rowR h k i ∧ am_fit h k j then am_push c L S' (h.1, am_up h.2.1 k i.toNatClampNeg (some j), h.2.2) else none
      | _ => none)
    | .arraylength => (match S with
      | .retAddr k :: S' => if k = 2 then am_push c L (.int (Int32.ofNat (E k).1) :: S') h else none
      | _ => none)
    | .new x => am_push c L (.ref h.1.length :: S) (am_lay h (.inl x))
    | .newarray t => (match S with
      | .int n :: S' => if ¬ n < 0 ∧ n.toNatClampNeg ≤ 1000 then am_push c L (.ref h.1.length :: S') (am_lay h (.inr (am_atN t, n.toNatClampNeg))) else none
      | _ => none)
    | .anewarray t => (match S with
      | .int n :: S' => if ¬ n < 0 ∧ n.toNatClampNeg ≤ 1000 then am_push c L (.ref h.1.length :: S') (am_lay h (.inr (t, n.toNatClampNeg))) else none
      | _ => none)
    | .fadd => (match S with
      | .int y :: .int x :: S' => if S'.length ≤ 4 then am_push c L (.int (if x < y then y else x) :: S') h else none
      | _ => none)
    | .fsub => (match S with
      | .int y :: .int x :: S' => if S'.length ≤ 4 then am_push c L (.int (if y < x then y else x) :: S') h else none
      | _ => none)
    | .fmul => (match S with
      | .int x :: S' => if S'.length ≤ 4 then am_push c L (.int (if 0 ≤ x then x else 0 - x) :: S') h else none
      | _ => none)
    | .fdiv => (match S with
      | .long x :: S' => if S'.length ≤ 4 then am_push c L (.long (if 0 < x then x else -x) :: S') h else none
      | _ => none)
    | .invokevirtual k => if am_na k ≤ S.length ∧ S.length ≤ am_na k + 4 ∧ (am_loc (S.take (am_na k)).reverse).length ≤ am_mL k ∧ am_recv h k ((S.take (am_na k)).reverse) then some (.inr (.inr (k, (S.take (am_na k)).reverse, (c, L, S.drop (am_na k), h)))) else none
    | .ireturn => (match S with
      | [.int x] => some (.inr (.inl (some (.int x), h)))
      | _ => none)
    | .areturn => (match S with
      | [.int x] => if x = 0 ∨ x = 1 then some (.inr (.inl (some (.int x), h))) else none
      | _ => none)
    | .lreturn => (match S with
      | [.long x] => some (.inr (.inl (some (.long x), h)))
      | _ => none)
    | .return_ => (match S with
      | [] => some (.inr (.inl (none, h)))
      | _ => none)
    | _ => none
def am_ent (M : Nat) (as : List Value) : List Value := am_loc as ++ List.replicate (am_mL M - (am_loc as).length) am_dm
def am_run (E : aE) : Nat → Nat → List Instr → List Value → List Value → aH → Option aR
  | 0, _, _, _, _, _ => none
  | n + 1, M, c, L, S, h => match am_step E M c L S h with
    | none => none
    | some (.inl (c', L', S', h')) => am_run E n M c' L' S' h'
    | some (.inr (.inl r)) => some r
    | some (.inr (.inr (k, as, (c', L', S', h')))) => match am_run E n k (am_B k 0) (am_ent k as) [] h' with
      | none => none
      | some (v, h'') => am_run E n M c' L' (v.toList ++ S') h''
end
section
/-! THE CODE IS AS THE TABLES SAY -/
def am_simple (i : Instr) : Bool := match i with
  | .iadd | .isub | .imul | .iand | .ior | .ixor | .ishl | .ishr | .idiv | .irem | .ineg | .ladd | .lsub | .lmul | .ldiv | .lrem | .lneg | .lcmp | .i2l | .i2b | .i2s | .dup | .dup2 | .pop => true
  | .iaload | .baload | .laload | .aaload | .iastore | .bastore | .lastore | .aastore | .arraylength | .lreturn | .return_ => true
  | _ => false
def am_nn (mk : Fin 4 → Instr) (j : Instr) (n : Nat) : Bool := if h : n < 4 then decide (j = mk ⟨n, h⟩) else false
def am_ins (M pc : Nat) (j : Instr) (len : Nat) (i : Instr) : Bool := match i with
  | .bipush v => (decide (j = .iconst v) && len == 1) || (decide (j = .bipush v) && len == 2 && decide ((Int8.ofInt v).toInt32 = Int32.ofInt v)) || (decide (j = .sipush v) && len == 3 && decide ((Int16.ofInt v).toInt32 = Int32.ofInt v)) || (len == 2 && am_K.any (fun q => q.1 == am_own M && decide (j = .ldc q.2.1) && decide (q.2.2.1 = v)))
  | .sipush v => (decide (j = .lconst 0) && len == 1 && decide (v = 0)) || (decide (j = .lconst 1) && len == 1 && decide (v = 1)) || (len == 3 && am_J.any (fun q => q.1 == am_own M && decide (j = .ldc2_w q.2.1) && decide (q.2.2.1 = v)))
  | .iload n => (decide (j = .iload n) && len == 2) || (am_nn .iload_n j n && len == 1)
  | .lload n => (decide (j = .lload n) && len == 2) || (am_nn .lload_n j n && len == 1)
  | .aload n => (decide (j = .aload n) && len == 2) || (am_nn .aload_n j n && len == 1)
  | .istore n => (decide (j = .istore n) && len == 2) || (am_nn .istore_n j n && len == 1)
  | .lstore n => (decide (j = .lstore n) && len == 2) || (am_nn .lstore_n j n && len == 1)
  | .astore n => (decide (j = .astore n) && len == 2) || (am_nn .astore_n j n && len == 1)
  | .iinc n v => decide (j = .iinc n v) && len == 3
  | .if_icmp o t => decide (j = .if_icmp o (t - pc)) && len == 3 && decide (0 ≤ t)
  | .ifCond o t => decide (j = .ifCond o (t - pc)) && len == 3 && decide (0 ≤ t)
  | .goto t => decide (j = .goto (t - pc)) && len == 3 && decide (0 ≤ t)
  | .tableswitch d lo hi os => decide (j = .tableswitch (d - pc) lo hi (os.map (fun o => o - pc))) && decide (0 ≤ d) && os.toList.all (fun o => decide (0 ≤ o)) && decide (hi < lo + os.size)
  | .lookupswitch d ps => decide (j = .lookupswitch (d - pc) (ps.map (fun q => (q.1, q.2 - pc)))) && decide (0 ≤ d) && ps.toList.all (fun q => decide (0 ≤ q.2)) && ((ps.map (fun q => (q.1, q.2 - (pc : Int)))).toList.zip ((ps.map (fun q => (q.1, q.2 - (pc : Int)))).toList.drop 1)).all (fun (a, next) => a.1 < next.1)
  | .getfield x => len == 3 && decide (x / 64 < 10) && decide (x % 64 < am_N (x / 64)) && am_F.any (fun q => q.1 == am_own M && decide (j = .getfield q.2.1) && q.2.2.1 == x)
  | .putfield x => len == 3 && decide (x / 64 < 10) && decide (x % 64 < am_N (x / 64)) && am_F.any (fun q => q.1 == am_own M && decide (j = .putfield q.2.1) && q.2.2.1 == x) && (decide ((am_Tx (x / 64) (x % 64)).2.2.2 = false) || (decide ((am_y M).name = "<init>") && decide ((am_Tx (x / 64) (x % 64)).1 = am_cls (am_own M))))
  | .getstatic x => len == 3 && am_G.any (fun q => q.1 == am_own M && decide (j = .getstatic q.2.1) && q.2.2.1 == x)
  | .new x => len == 3 && am_Nw.any (fun q => q.1 == am_own M && decide (j = .new q.2.1) && q.2.2.1 == x)
  | .newarray t => len == 2 && decide (j = .newarray t) && decide (am_atN t < 3)
  | .anewarray t => len == 3 && am_A.any (fun q => q.1 == am_own M && decide (j = .anewarray q.2.1) && q.2.2.1 == t)
  | .pop2 => len == 3 && am_O.any (fun q => q.1 == am_own M && decide (j = .invokespecial q.2.1)) && decide (1 ≤ am_fr M) && decide (24 ≤ am_lc M)
  | .fadd => len == 3 && am_Mt.any (fun q => q.1 == am_own M && decide (j = .invokestatic q.2.1) && q.2.2.1 == 0) && decide (1 ≤ am_fr M) && decide (24 ≤ am_lc M)
  | .fsub => len == 3 && am_Mt.any (fun q => q.1 == am_own M && decide (j = .invokestatic q.2.1) && q.2.2.1 == 1) && decide (1 ≤ am_fr M) && decide (24 ≤ am_lc M)
  | .fmul => len == 3 && am_Mt.any (fun q => q.1 == am_own M && decide (j = .invokestatic q.2.1) && q.2.2.1 == 2) && decide (1 ≤ am_fr M) && decide (24 ≤ am_lc M)
  | .fdiv => len == 3 && am_Mt.any (fun q => q.1 == am_own M && decide (j = .invokestatic q.2.1) && q.2.2.1 == 3) && decide (1 ≤ am_fr M) && decide (24 ≤ am_lc M)
  | .invokevirtual k => len == 3 && decide (k < 186) && decide (am_fr k + 1 ≤ am_fr M) && decide (8 + (am_mL k + 11) + am_lc k ≤ am_lc M) && am_C.any (fun q => q.1 == am_own M && q.2.2.1 == k && decide (j = (if q.2.2.2.1 = 0 then .invokevirtual q.2.1 else if q.2.2.2.1 = 1 ∨ q.2.2.2.1 = 4 then .invokestatic q.2.1 else .invokespecial q.2.1)))
  | .ireturn => decide (j = .ireturn) && len == 1 && decide (am_rt M = some .int)
  | .areturn => decide (j = .ireturn) && len == 1 && decide (am_rt M = some .boolean)
  | .lreturn => decide (j = .lreturn) && len == 1 && decide (am_rt M = some .long)
  | .return_ => decide (j = .return_) && len == 1 && decide (am_rt M = none)
  | i => decide (j = i) && am_simple i && len == 1
def am_chk (M : Nat) : Nat → List Instr → Bool
  | _, [] => true
  | pc, i :: c => match i with
    | .jsr t => decide (t = (pc : Int))
    | _ => match decode (am_cc M) pc with
      | .ok (j, len) => am_ins M pc j len i && am_chk M (pc + len) c
      | _ => false
def am_chkM (M : Nat) : Bool := ((am_BL[M]?).getD []).all (fun q => am_chk M q.1 q.2)
end
section
theorem ck_0 : ∀ d, d < 20 → am_chkM (0 + d) = true := by decide +kernel
theorem ck_1 : ∀ d, d < 23 → am_chkM (20 + d) = true := by decide +kernel
theorem ck_2 : ∀ d, d < 13 → am_chkM (43 + d) = true := by decide +kernel
theorem ck_3 : ∀ d, d < 20 → am_chkM (56 + d) = true := by decide +kernel
theorem ck_4 : ∀ d, d < 18 → am_chkM (76 + d) = true := by decide +kernel
theorem ck_5 : ∀ d, d < 25 → am_chkM (94 + d) = true := by decide +kernel
end
section
theorem ck_6 : ∀ d, d < 21 → am_chkM (119 + d) = true := by decide +kernel
theorem ck_7 : ∀ d, d < 10 → am_chkM (140 + d) = true := by decide +kernel
theorem ck_8 : ∀ d, d < 17 → am_chkM (150 + d) = true := by decide +kernel
theorem ck_9 : ∀ d, d < 11 → am_chkM (167 + d) = true := by decide +kernel
theorem ck_10 : ∀ d, d < 8 → am_chkM (178 + d) = true := by decide +kernel
end
section
theorem cl_0 : ((am_L186.drop 0).take 7).all (fun q => am_chk 186 q.1 q.2) = true := by decide +kernel
theorem cl_7 : ((am_L186.drop 7).take 6).all (fun q => am_chk 186 q.1 q.2) = true := by decide +kernel
theorem cl_13 : ((am_L186.drop 13).take 3).all (fun q => am_chk 186 q.1 q.2) = true := by decide +kernel
theorem cl_16 : ((am_L186.drop 16).take 4).all (fun q => am_chk 186 q.1 q.2) = true := by decide +kernel
end
section
theorem cl_20 : ((am_L186.drop 20).take 6).all (fun q => am_chk 186 q.1 q.2) = true := by decide +kernel
theorem cl_26 : ((am_L186.drop 26).take 5).all (fun q => am_chk 186 q.1 q.2) = true := by decide +kernel
theorem cl_31 : ((am_L186.drop 31).take 4).all (fun q => am_chk 186 q.1 q.2) = true := by decide +kernel
theorem cl_35 : ((am_L186.drop 35).take 6).all (fun q => am_chk 186 q.1 q.2) = true := by decide +kernel
end
section
theorem am_all_split {α : Type} {l : List α} {p : α → Bool} (a n : Nat) (h1 : ((l.drop a).take n).all p = true) (h2 : (l.drop (a + n)).all p = true) : (l.drop a).all p = true := by
  rw [← List.take_append_drop n (l.drop a), List.all_append, h1, List.drop_drop, h2]
  rfl
theorem ck_law : am_chkM 186 = true := by
  show am_L186.all (fun q => am_chk 186 q.1 q.2) = true
  rw [← List.drop_zero (l := am_L186)]
  refine am_all_split 0 7 cl_0 ?_
  refine am_all_split 7 6 cl_7 ?_
  refine am_all_split 13 3 cl_13 ?_
  refine am_all_split 16 4 cl_16 ?_
  refine am_all_split 20 6 cl_20 ?_
  refine am_all_split 26 5 cl_26 ?_
  refine am_all_split 31 4 cl_31 ?_
  refine am_all_split 35 6 cl_35 ?_
  rfl
set_option maxRecDepth 20000 in
theorem am_BL_len : am_BL.length = 187 := by decide +kernel
theorem am_chkAll (M : Nat) : am_chkM M = true := by
  by_cases h0 : M < 20
  · have := ck_0 (M - 0) (by omega)
    rwa [show 0 + (M - 0) = M by omega] at this
  by_cases h1 : M < 43
  · have := ck_1 (M - 20) (by omega)
    rwa [show 20 + (M - 20) = M by omega] at this
  by_cases h2 : M < 56
  · have := ck_2 (M - 43) (by omega)
    rwa [show 43 + (M - 43) = M by omega] at this
  by_cases h3 : M < 76
  · have := ck_3 (M - 56) (by omega)
    rwa [show 56 + (M - 56) = M by omega] at this
  by_cases h4 : M < 94
  · have := ck_4 (M - 76) (by omega)
    rwa [show 76 + (M - 76) = M by omega] at this
  by_cases h5 : M < 119
  · have := ck_5 (M - 94) (by omega)
    rwa [show 94 + (M - 94) = M by omega] at this
  by_cases h6 : M < 140
  · have := ck_6 (M - 119) (by omega)
    rwa [show 119 + (M - 119) = M by omega] at this
  by_cases h7 : M < 150
  · have := ck_7 (M - 140) (by omega)
    rwa [show 140 + (M - 140) = M by omega] at this
  by_cases h8 : M < 167
  · have := ck_8 (M - 150) (by omega)
    rwa [show 150 + (M - 150) = M by omega] at this
  by_cases h9 : M < 178
  · have := ck_9 (M - 167) (by omega)
    rwa [show 167 + (M - 167) = M by omega] at this
  by_cases h10 : M < 186
  · have := ck_10 (M - 178) (by omega)
    rwa [show 178 + (M - 178) = M by omega] at this
  by_cases hl : M = 186
  · rw [hl]; exact ck_law
  · have h : am_BL[M]? = none := List.getElem?_eq_none (by rw [am_BL_len]; omega)
    simp [am_chkM, h]
theorem am_chkB (M t : Nat) : am_chk M t (am_B M t) = true := by
  have h := am_chkAll M
  unfold am_chkM at h
  unfold am_B
  generalize (am_BL[M]?).getD [] = l at h ⊢
  induction l with
  | nil => rfl
  | cons q l ih =>
    rw [List.all_cons, Bool.and_eq_true] at h
    rw [show (q :: l) = ((q.1, q.2) :: l) from rfl, List.lookup_cons]
    by_cases e : t == q.1
    · rw [e]
      have e' : t = q.1 := by simpa using e
      subst e'
      exact h.1
    · simp only [Bool.not_eq_true] at e
      rw [e]
      exact ih h.2
end
section
/-! THE WORDS ARE IN THE TABLES -/
def lw_good : List Jvm.Cond := lw_tbl.filter goodWord
def am_wd (p : Nat) (w : Jvm.Cond) : Bool := decide (lw_tbl[p]? = some w) && goodWord w
theorem am_wd_in {p : Nat} {w : Jvm.Cond} (h : am_wd p w = true) : w ∈ lw_good := by
  simp only [am_wd, Bool.and_eq_true, decide_eq_true_eq] at h
  exact List.mem_filter.mpr ⟨List.mem_of_getElem? h.1, h.2⟩
def am_fw (q : Nat × Nat × Nat × Nat) : Jvm.Cond := .fieldLink (am_cls q.1) q.2.1 (am_Tx (q.2.2.1 / 64) (q.2.2.1 % 64)).1 (am_Tx (q.2.2.1 / 64) (q.2.2.1 % 64)).2.1 (am_Tx (q.2.2.1 / 64) (q.2.2.1 % 64)).2.2.1
theorem am_F_ok : am_F.all (fun q => am_wd q.2.2.2 (am_fw q)) = true := by decide +kernel
theorem am_K_ok : am_K.all (fun q => am_wd q.2.2.2 (.constant (am_cls q.1) q.2.1 (Int32.ofInt q.2.2.1))) = true := by decide +kernel
theorem am_J_ok : am_J.all (fun q => am_wd q.2.2.2 (.constantLong (am_cls q.1) q.2.1 (Int64.ofInt q.2.2.1))) = true := by decide +kernel
def am_gn (x : Nat) : String := if x = 0 then "LEAST_RULE" else "GREATEST_RULE"
theorem am_G_ok : am_G.all (fun q => decide (q.2.2.1 < 2) && am_wd q.2.2.2 (.fieldLink (am_cls q.1) q.2.1 "RailPower" (am_gn q.2.2.1) "[I")) = true := by decide +kernel
theorem am_Nw_ok : am_Nw.all (fun q => decide (q.2.2.1 < 10) && am_wd q.2.2.2.1 (.classLink (am_cls q.1) q.2.1 (am_cls q.2.2.1)) && am_wd q.2.2.2.2.1 (.instantiable (am_cls q.2.2.1) (am_N q.2.2.1)) && am_wd q.2.2.2.2.2 (.initialized (am_cls q.2.2.1))) = true := by decide +kernel
theorem am_A_ok : am_A.all (fun q => decide (3 ≤ q.2.2.1) && decide (q.2.2.1 < 7) && am_wd q.2.2.2 (.classLink (am_cls q.1) q.2.1 ((am_AO[q.2.2.1 - 3]?).getD ""))) = true := by decide +kernel
theorem am_O_ok : am_O.all (fun q => am_wd q.2.2 (.methodLink (am_cls q.1) q.2.1 Jvm.Lib.objectInit)) = true := by decide +kernel
theorem am_oi_ok : (am_wd am_oip (.instanceMethod Jvm.Lib.objectInit) && am_wd am_oic (.code Jvm.Lib.objectInit ⟨#[0xb1]⟩ 1 none)) = true := by decide +kernel
theorem am_Mt_ok : am_Mt.all (fun q => decide (q.2.2.1 < 4) && am_wd q.2.2.2 (.methodLink (am_cls q.1) q.2.1 (if q.2.2.1 = 0 then Jvm.Lib.Math.max.name else if q.2.2.1 = 1 then Jvm.Lib.Math.min.name else if q.2.2.1 = 2 then Jvm.Lib.Math.abs.name else Jvm.Lib.MathLoose.abs_long.x))) = true := by decide +kernel
theorem am_mi_ok : (am_wd am_mi (.initialized "java/lang/Math") && am_wd am_mp0.1 (.static Jvm.Lib.Math.max.name) && am_wd am_mp0.2 (.code Jvm.Lib.Math.max.name Jvm.Lib.Math.max.code 2 (some .int)) && am_wd am_mp1.1 (.static Jvm.Lib.Math.min.name) && am_wd am_mp1.2 (.code Jvm.Lib.Math.min.name Jvm.Lib.Math.min.code 2 (some .int)) && am_wd am_mp2.1 (.static Jvm.Lib.Math.abs.name) && am_wd am_mp2.2 (.code Jvm.Lib.Math.abs.name Jvm.Lib.Math.abs.code 1 (some .int)) && am_wd am_mp3.1 (.static Jvm.Lib.MathLoose.abs_long.x) && am_wd am_mp3.2 (.code Jvm.Lib.MathLoose.abs_long.x Jvm.Lib.MathLoose.abs_long.code 2 (some .long))) = true := by decide +kernel
def am_cw (q : Nat × Nat × Nat × Nat × Nat × Nat × Nat × Nat) : Bool :=
  am_wd q.2.2.2.2.2.2.2 (.initialized (am_y q.2.2.1).cls) && (if q.2.2.2.1 = 3 ∨ q.2.2.2.1 = 4 then decide (lw_tbl[q.2.2.2.2.1]? = some (.methodLinkNest (am_cls q.1) q.2.1 (am_y q.2.2.1) "RailPower")) else am_wd q.2.2.2.2.1 (.methodLink (am_cls q.1) q.2.1 (am_y q.2.2.1))) && (if q.2.2.2.1 = 1 ∨ q.2.2.2.1 = 4 then am_wd q.2.2.2.2.2.1 (.static (am_y q.2.2.1)) && am_st q.2.2.1 else am_wd q.2.2.2.2.2.1 (.instanceMethod (am_y q.2.2.1)) && !am_st q.2.2.1) && (if q.2.2.2.1 = 0 then am_wd q.2.2.2.2.2.2.1 (.selects (am_y q.2.2.1).cls (am_y q.2.2.1) (am_y q.2.2.1)) else true) && (if q.2.2.2.1 = 2 ∨ q.2.2.2.1 = 3 then decide ((am_y q.2.2.1).name = "<init>") else true) && decide (q.2.2.2.1 ≤ 4)
theorem am_C_ok1 : (am_C.take 60).all am_cw = true := by decide +kernel
theorem am_C_ok2 : ((am_C.drop 60).take 60).all am_cw = true := by decide +kernel
theorem am_C_ok3 : ((am_C.drop 120)).all am_cw = true := by decide +kernel
theorem am_cd_0 : ∀ d, d < 24 → am_wd ((am_cdL[0 + d]?).getD 0) (.code (am_y (0 + d)) (am_cc (0 + d)) (am_mL (0 + d)) (am_rt (0 + d))) = true := by decide +kernel
theorem am_cd_24 : ∀ d, d < 24 → am_wd ((am_cdL[24 + d]?).getD 0) (.code (am_y (24 + d)) (am_cc (24 + d)) (am_mL (24 + d)) (am_rt (24 + d))) = true := by decide +kernel
theorem am_cd_48 : ∀ d, d < 24 → am_wd ((am_cdL[48 + d]?).getD 0) (.code (am_y (48 + d)) (am_cc (48 + d)) (am_mL (48 + d)) (am_rt (48 + d))) = true := by decide +kernel
theorem am_cd_72 : ∀ d, d < 24 → am_wd ((am_cdL[72 + d]?).getD 0) (.code (am_y (72 + d)) (am_cc (72 + d)) (am_mL (72 + d)) (am_rt (72 + d))) = true := by decide +kernel
theorem am_cd_96 : ∀ d, d < 24 → am_wd ((am_cdL[96 + d]?).getD 0) (.code (am_y (96 + d)) (am_cc (96 + d)) (am_mL (96 + d)) (am_rt (96 + d))) = true := by decide +kernel
theorem am_cd_120 : ∀ d, d < 24 → am_wd ((am_cdL[120 + d]?).getD 0) (.code (am_y (120 + d)) (am_cc (120 + d)) (am_mL (120 + d)) (am_rt (120 + d))) = true := by decide +kernel
theorem am_cd_144 : ∀ d, d < 24 → am_wd ((am_cdL[144 + d]?).getD 0) (.code (am_y (144 + d)) (am_cc (144 + d)) (am_mL (144 + d)) (am_rt (144 + d))) = true := by decide +kernel
theorem am_cd_168 : ∀ d, d < 18 → am_wd ((am_cdL[168 + d]?).getD 0) (.code (am_y (168 + d)) (am_cc (168 + d)) (am_mL (168 + d)) (am_rt (168 + d))) = true := by decide +kernel
theorem am_cd_ok (M : Nat) (hM : M < 186) : Jvm.Cond.code (am_y M) (am_cc M) (am_mL M) (am_rt M) ∈ lw_good := by
  by_cases h0 : M < 24
  · have := am_cd_0 (M - 0) (by omega)
    rw [show 0 + (M - 0) = M by omega] at this
    exact am_wd_in this
  by_cases h24 : M < 48
  · have := am_cd_24 (M - 24) (by omega)
    rw [show 24 + (M - 24) = M by omega] at this
    exact am_wd_in this
  by_cases h48 : M < 72
  · have := am_cd_48 (M - 48) (by omega)
    rw [show 48 + (M - 48) = M by omega] at this
    exact am_wd_in this
  by_cases h72 : M < 96
  · have := am_cd_72 (M - 72) (by omega)
    rw [show 72 + (M - 72) = M by omega] at this
    exact am_wd_in this
  by_cases h96 : M < 120
  · have := am_cd_96 (M - 96) (by omega)
    rw [show 96 + (M - 96) = M by omega] at this
    exact am_wd_in this
  by_cases h120 : M < 144
  · have := am_cd_120 (M - 120) (by omega)
    rw [show 120 + (M - 120) = M by omega] at this
    exact am_wd_in this
  by_cases h144 : M < 168
  · have := am_cd_144 (M - 144) (by omega)
    rw [show 144 + (M - 144) = M by omega] at this
    exact am_wd_in this
  by_cases h168 : M < 186
  · have := am_cd_168 (M - 168) (by omega)
    rw [show 168 + (M - 168) = M by omega] at this
    exact am_wd_in this
  omega
def am_mok (M : Nat) : Bool := decide (am_cls (am_own M) = (am_y M).cls) && plainName (am_y M).cls && decide ((am_y M).cls ≠ "java/lang/invoke/MethodHandle") && decide ((am_y M).cls ≠ "java/lang/invoke/VarHandle") && decide ((parseMethodDescriptor (am_y M).desc).map (fun d => d.parameters.length) = some (am_na M - (if am_st M then 0 else 1))) && (am_st M || decide (1 ≤ am_na M))
theorem am_m_ok : ∀ M, M < 186 → am_mok M = true := by decide +kernel
theorem am_nm_ok : ∀ c, c < 10 → ∀ a, a < am_N c → ∀ b, b < am_N c → a ≠ b → (am_Tx c a).2.1 ≠ (am_Tx c b).2.1 := by decide +kernel
theorem am_ty_ok : ∀ c, c < 10 → ∀ k, k < am_N c → parseFieldDescriptor (am_Tx c k).2.2.1 = some (am_ty c k) := by decide +kernel
theorem am_wx_ok : ∀ c, c < 10 → ∀ w ∈ u_ws (am_cls c) (am_Tx c) (am_N c), w ∈ lw_good := by decide +kernel
theorem am_cl_ok : ∀ c, c < 10 → ∀ q ∈ vwCl[c]?, q.1 = am_cls c ∧ q.2.2 = am_N c := by decide +kernel
def am_tyk (t : FieldType) : Bool := match t with
  | .int | .boolean | .long | .object _ | .array _ => true
  | _ => false
theorem am_tk_ok : ∀ c, c < 10 → ∀ k, k < am_N c → am_tyk (am_ty c k) = true := by decide +kernel
theorem am_ac_ok : (am_wd 109 (.arrayClass .int) && am_wd 237 (.arrayClass .boolean) && am_wd 238 (.arrayClass .long)) = true := by decide +kernel
theorem am_own_lt : ∀ k, k < 186 → am_st k = false → 10 ≤ am_own k → False := by decide +kernel
theorem am_init_rt : ∀ k, k < 186 → (am_y k).name = "<init>" → am_rt k = none := by decide +kernel
end
section
/-! PICTURES OF THE ABSTRACT HEAP IN THE MACHINE'S -/
def am_mp (base : Nat) (xa : Nat → Nat) : Value → Value := fun v => match v with
  | .ref k => .ref (base + k)
  | .retAddr i => .ref (xa i)
  | w => w
def am_fsv (base : Nat) (h : aH) (c k : Nat) : List Value := (List.range (am_N c)).map (fun i => am_mp base id (am_fv h c k i))
def am_va (base : Nat) (h : aH) (t n k : Nat) : vp_A := (n, if t < 2 then .inl (h.2.2.1 k) else if t = 2 then .inr (.inl (h.2.2.2 k)) else .inr (.inr (.inr (.inr (fun i => (h.2.1 k i).map (fun j => base + j))))))
def am_cell (base : Nat) (cA : Nat → ClassId) (h : aH) (k : Nat) : va_E := match h.1[k]? with
  | some (.inl c) => .inr (c, am_fsv base h c k)
  | some (.inr (t, n)) => .inl (cA t, am_va base h t n k)
  | none => .inr (0, [])
def am_wl (base : Nat) (cA : Nat → ClassId) (h : aH) : va_W := (List.range h.1.length).map (fun k => (base + k, am_cell base cA h k))
theorem am_wl_get {base : Nat} {cA : Nat → ClassId} {h : aH} {k : Nat} (hk : k < h.1.length) : (am_wl base cA h)[k]? = some (base + k, am_cell base cA h k) := by
  simp [am_wl, hk]
theorem am_wl_some {base : Nat} {cA : Nat → ClassId} {h : aH} {k : Nat} {q : Nat × va_E} (hq : (am_wl base cA h)[k]? = some q) : k < h.1.length ∧ q = (base + k, am_cell base cA h k) := by
  have hk : k < h.1.length := by
    have := (List.getElem?_eq_some_iff.mp hq).1
    simpa [am_wl] using this
  rw [am_wl_get hk] at hq
  exact ⟨hk, (Option.some.inj hq).symm⟩
theorem am_wl_D (base : Nat) (cA : Nat → ClassId) (h : aH) : va_D (fun q => base ≤ q) (am_wl base cA h) := by
  refine ⟨fun i j p q hp hq e => ?_, fun k q hq => ?_⟩
  · obtain ⟨_, rfl⟩ := am_wl_some hp
    obtain ⟨_, rfl⟩ := am_wl_some hq
    simp only at e
    omega
  · obtain ⟨_, rfl⟩ := am_wl_some hq
    exact Nat.le_add_right _ _
theorem am_wl_set {base : Nat} {cA : Nat → ClassId} {h h' : aH} {k : Nat} (hl : h'.1 = h.1) (ho : ∀ j, j ≠ k → am_cell base cA h' j = am_cell base cA h j) : (am_wl base cA h).set k (base + k, am_cell base cA h' k) = am_wl base cA h' := by
  apply List.ext_getElem?
  intro j
  rw [List.getElem?_set]
  by_cases hj : k = j
  · subst hj
    by_cases hk : k < h.1.length
    · simp [am_wl, hl, hk]
    · simp [am_wl, hl, hk]
  · simp only [hj, if_false]
    by_cases hk : j < h.1.length
    · rw [am_wl_get hk, am_wl_get (by rw [hl]; exact hk), ho j (fun e => hj e.symm)]
    · simp [am_wl, hl, hk]
theorem am_wl_push {base : Nat} {cA : Nat → ClassId} {h : aH} {q : Nat ⊕ (Nat × Nat)} : am_wl base cA (am_lay h q) = am_wl base cA h ++ [(base + h.1.length, am_cell base cA (am_lay h q) h.1.length)] := by
  have hlen : (am_lay h q).1.length = h.1.length + 1 := by simp [am_lay]
  unfold am_wl
  rw [hlen, List.range_succ, List.map_append]
  congr 1
  apply List.map_congr_left
  intro k hk
  have hk : k < h.1.length := List.mem_range.mp hk
  have hne : k ≠ h.1.length := Nat.ne_of_lt hk
  congr 1
  unfold am_cell
  have e1 : (am_lay h q).1[k]? = h.1[k]? := by simp [am_lay, List.getElem?_append_left hk]
  rw [e1]
  have e2 : (am_lay h q).2.1 k = h.2.1 k := by simp [am_lay, am_blk, hne]
  have e3 : (am_lay h q).2.2.1 k = h.2.2.1 k := by simp [am_lay, am_blk, hne]
  have e4 : (am_lay h q).2.2.2 k = h.2.2.2 k := by simp [am_lay, am_blk, hne]
  have e5 : ∀ c i, am_fv (am_lay h q) c k i = am_fv h c k i := fun c i => by unfold am_fv; rw [e2, e3, e4]
  have e6 : ∀ c, am_fsv base (am_lay h q) c k = am_fsv base h c k := fun c => by unfold am_fsv; simp only [e5]
  have e7 : ∀ t n, am_va base (am_lay h q) t n k = am_va base h t n k := fun t n => by unfold am_va; rw [e2, e3, e4]
  simp only [e6, e7]
theorem am_vwCl {c : Nat} (h : c < 10) : vwCl[c]? = some (am_cls c, am_Tx c, am_N c) := by
  rcases (show c = 0 ∨ c = 1 ∨ c = 2 ∨ c = 3 ∨ c = 4 ∨ c = 5 ∨ c = 6 ∨ c = 7 ∨ c = 8 ∨ c = 9 by omega) with rfl | rfl | rfl | rfl | rfl | rfl | rfl | rfl | rfl | rfl <;> rfl
def am_tys (cA : Nat → ClassId) : List (ClassId × FieldType) := (List.range 7).map (fun t => (cA t, am_et t))
theorem am_tys_get {cA : Nat → ClassId} {t : Nat} (h : t < 7) : (am_tys cA)[t]? = some (cA t, am_et t) := by simp [am_tys, h]
/-- locals -/
def am_lrel (base : Nat) (xa : Nat → Nat) (L : List Value) (ls : Array Slot) (nL : Nat) : Prop := ls.size = nL ∧ L.length = nL ∧ lv_wf ls ∧ ∀ (i : Nat) (v : Value), L[i]? = some v → v ≠ am_dm → ls[i]? = some (.val (am_mp base xa v))
def am_lvs (base : Nat) (xa : Nat → Nat) (L : List Value) : List (Nat × Value) := (List.range L.length).flatMap (fun i => match L[i]? with
  | some v => if v = am_dm then [] else [(i, am_mp base xa v)]
  | none => [])
theorem am_lvs_mem {base : Nat} {xa : Nat → Nat} {L : List Value} {i : Nat} {w : Value} : (i, w) ∈ am_lvs base xa L ↔ ∃ v, L[i]? = some v ∧ v ≠ am_dm ∧ w = am_mp base xa v := by
  unfold am_lvs
  rw [List.mem_flatMap]
  constructor
  · rintro ⟨j, hj, hm⟩
    have hj : j < L.length := List.mem_range.mp hj
    rw [List.getElem?_eq_getElem hj] at hm
    dsimp only at hm
    by_cases hd : L[j] = am_dm
    · rw [if_pos hd] at hm; cases hm
    · rw [if_neg hd] at hm
      have := List.mem_singleton.mp hm
      cases this
      exact ⟨_, List.getElem?_eq_getElem hj, hd, rfl⟩
  · rintro ⟨v, h1, h2, rfl⟩
    refine ⟨i, List.mem_range.mpr (List.getElem?_eq_some_iff.mp h1).1, ?_⟩
    rw [h1]
    dsimp only
    rw [if_neg h2]
    exact List.mem_singleton.mpr rfl
theorem am_lrel.has {base : Nat} {xa : Nat → Nat} {L : List Value} {ls : Array Slot} {nL : Nat} (h : am_lrel base xa L ls nL) : lv_has ls nL (am_lvs base xa L) := by
  refine ⟨h.1, h.2.2.1, ?_⟩
  rintro ⟨i, w⟩ hq
  obtain ⟨v, h1, h2, rfl⟩ := am_lvs_mem.mp hq
  exact h.2.2.2 i v h1 h2
theorem am_lrel.of {base : Nat} {xa : Nat → Nat} {L : List Value} {ls : Array Slot} {nL : Nat} {lv : List (Nat × Value)} (h : lv_has ls nL lv) (hL : L.length = nL) (hm : ∀ (i : Nat) (v : Value), L[i]? = some v → v ≠ am_dm → (i, am_mp base xa v) ∈ lv) : am_lrel base xa L ls nL :=
  ⟨h.1, hL, h.2.1, fun i v h1 h2 => h.2.2 _ (hm i v h1 h2)⟩
theorem am_set1_len (L : List Value) (n : Nat) (v : Value) : (am_set1 L n v).length = L.length := by
  induction L generalizing n with
  | nil => rfl
  | cons a L ih => match n with
    | 0 => rfl
    | 1 => simp [am_set1, ih]
    | n + 2 => simp [am_set1, ih]
theorem am_set1_get (L : List Value) (n : Nat) (v : Value) (j : Nat) : (am_set1 L n v)[j]? = if j = n then (if n < L.length then some v else none) else if j + 1 = n ∧ n < L.length + 1 then (L[j]?).map am_kp else L[j]? := by
  induction L generalizing n j with
  | nil => by_cases h : j = n <;> simp [am_set1, h]
  | cons a L ih => match n, j with
    | 0, 0 => simp [am_set1]
    | 0, j + 1 => simp [am_set1]
    | 1, 0 => simp [am_set1]
    | 1, j + 1 =>
      rw [am_set1, List.getElem?_cons_succ, ih]
      by_cases h : j = 0 <;> simp [h]
    | n + 2, 0 => simp [am_set1]
    | n + 2, j + 1 =>
      rw [am_set1, List.getElem?_cons_succ, ih]
      by_cases h : j = n + 1
      · subst h
        have e : (n + 2 < L.length + 1) = (n + 1 < L.length) := propext ⟨fun q => by omega, fun q => by omega⟩
        simp [e]
      · by_cases h2 : j = n
        · simp [h2]
        · simp [h, h2]
theorem am_set2_len (L : List Value) (n : Nat) (v : Value) : (am_set2 L n v).length = L.length := by
  simp [am_set2, am_set1_len]
theorem am_set2_get (L : List Value) (n : Nat) (v : Value) (hn : n + 1 < L.length) (j : Nat) : (am_set2 L n v)[j]? = if j = n then some v else if j = n + 1 then some am_dm else if j + 1 = n then (L[j]?).map am_kp else L[j]? := by
  unfold am_set2
  rw [List.getElem?_set, am_set1_len, am_set1_get]
  by_cases h1 : j = n
  · subst h1
    simp [show j < L.length by omega]
  · by_cases h2 : j = n + 1
    · subst h2
      simp [hn]
    · rw [if_neg (fun e => h2 e.symm), if_neg h1, if_neg h1, if_neg h2]
      by_cases h3 : j + 1 = n
      · rw [if_pos h3, if_pos ⟨h3, by omega⟩]
      · rw [if_neg h3, if_neg (fun e => h3 e.1)]
theorem am_mp_cat (base : Nat) (xa : Nat → Nat) (v : Value) (h : ∀ i, v ≠ .retAddr i) : (am_mp base xa v).category = v.category := by
  cases v <;> first | rfl | exact absurd rfl (h _)
theorem am_kp_cat {v : Value} (h : v.category = 2) : am_kp v = am_dm := by cases v <;> first | rfl | (simp [Value.category] at h)
theorem am_kp_one {v : Value} (h : ¬ v.category = 2) : am_kp v = v := by cases v <;> first | rfl | (simp [Value.category] at h)
theorem am_mp_cat2 {base : Nat} {xa : Nat → Nat} {v : Value} (h : (am_mp base xa v).category = 2) : v.category = 2 := by
  cases v <;> first | exact h | (simp [am_mp, Value.category] at h)
theorem am_lrel_set1 {base : Nat} {xa : Nat → Nat} {L : List Value} {ls' : Array Slot} {nL n : Nat} {v : Value} (hL : L.length = nL) (h : lv_has ls' nL ((n, am_mp base xa v) :: (am_lvs base xa L).filter (fun q => !(q.1 == n) && !(q.1 + 1 == n && q.2.category == 2)))) : am_lrel base xa (am_set1 L n v) ls' nL := by
  refine am_lrel.of h (by rw [am_set1_len, hL]) (fun i w hi hw => ?_)
  rw [am_set1_get] at hi
  by_cases h1 : i = n
  · subst h1
    simp only [if_true] at hi
    split at hi
    · cases hi; exact List.mem_cons_self
    · cases hi
  · rw [if_neg h1] at hi
    refine List.mem_cons_of_mem _ (List.mem_filter.mpr ?_)
    split at hi
    · rename_i h2
      cases hg : L[i]? with
      | none => rw [hg] at hi; cases hi
      | some u =>
        rw [hg] at hi
        have hi : am_kp u = w := Option.some.inj hi
        by_cases hc : u.category = 2
        · rw [am_kp_cat hc] at hi; exact absurd hi.symm hw
        · rw [am_kp_one hc] at hi
          subst hi
          refine ⟨am_lvs_mem.mpr ⟨_, hg, hw, rfl⟩, ?_⟩
          have hc' : ¬ (am_mp base xa u).category = 2 := fun e => hc (am_mp_cat2 e)
          simp [h1, hc']
    · rename_i h2
      refine ⟨am_lvs_mem.mpr ⟨_, hi, hw, rfl⟩, ?_⟩
      have hlt : i < L.length := (List.getElem?_eq_some_iff.mp hi).1
      have h3 : ¬ i + 1 = n := fun e => h2 ⟨e, by omega⟩
      simp [h1, h3]
theorem am_lrel_set2 {base : Nat} {xa : Nat → Nat} {L : List Value} {ls' : Array Slot} {nL n : Nat} {v : Value} (hL : L.length = nL) (hn : n + 1 < L.length) (h : lv_has ls' nL ((n, am_mp base xa v) :: (am_lvs base xa L).filter (fun q => !(q.1 == n) && (!(q.1 == n + 1) && !(q.1 + 1 == n && q.2.category == 2))))) : am_lrel base xa (am_set2 L n v) ls' nL := by
  refine am_lrel.of h (by rw [am_set2_len, hL]) (fun i w hi hw => ?_)
  rw [am_set2_get _ _ _ hn] at hi
  by_cases h1 : i = n
  · subst h1
    simp only [if_true] at hi
    cases hi; exact List.mem_cons_self
  · rw [if_neg h1] at hi
    by_cases h4 : i = n + 1
    · rw [if_pos h4] at hi
      cases hi
      exact absurd rfl hw
    rw [if_neg h4] at hi
    refine List.mem_cons_of_mem _ (List.mem_filter.mpr ?_)
    split at hi
    · rename_i h2
      cases hg : L[i]? with
      | none => rw [hg] at hi; cases hi
      | some u =>
        rw [hg] at hi
        have hi : am_kp u = w := Option.some.inj hi
        by_cases hc : u.category = 2
        · rw [am_kp_cat hc] at hi; exact absurd hi.symm hw
        · rw [am_kp_one hc] at hi
          subst hi
          refine ⟨am_lvs_mem.mpr ⟨_, hg, hw, rfl⟩, ?_⟩
          have hc' : ¬ (am_mp base xa u).category = 2 := fun e => hc (am_mp_cat2 e)
          simp [h1, h4, hc']
    · rename_i h2
      refine ⟨am_lvs_mem.mpr ⟨_, hi, hw, rfl⟩, ?_⟩
      simp [h1, h4, h2]
/-- the locals at a method's entry -/
theorem am_loc_args (base : Nat) (xa : Nat → Nat) (as : List Value) : ∀ (i j : Nat) (w : Value), (am_loc as)[j]? = some w → w ≠ am_dm → (i + j, am_mp base xa w) ∈ lv_args i (as.map (am_mp base xa)) := by
  induction as with
  | nil => intro i j w h; simp [am_loc] at h
  | cons v vs ih =>
    intro i j w h hw
    unfold am_loc at h
    simp only [List.map_cons, lv_args]
    by_cases hc : v.category = 2
    · have hc2 : (am_mp base xa v).category = 2 := by cases v <;> first | exact hc | (simp [Value.category] at hc)
      rw [if_pos hc] at h
      match j, h with
      | 0, h => cases h; exact List.mem_cons_self
      | 1, h => cases h; exact absurd rfl hw
      | j + 2, h =>
        refine List.mem_cons_of_mem _ ?_
        rw [if_pos hc2, show i + (j + 2) = i + 2 + j by omega]
        exact ih _ _ _ h hw
    · have hc2 : ¬ (am_mp base xa v).category = 2 := fun e => hc (am_mp_cat2 e)
      rw [if_neg hc] at h
      match j, h with
      | 0, h => cases h; exact List.mem_cons_self
      | j + 1, h =>
        refine List.mem_cons_of_mem _ ?_
        rw [if_neg hc2, show i + (j + 1) = i + 1 + j by omega]
        exact ih _ _ _ h hw
theorem am_loc_len (base : Nat) (xa : Nat → Nat) (as : List Value) : (lg_sl (as.map (am_mp base xa))).length = (am_loc as).length := by
  induction as with
  | nil => rfl
  | cons v vs ih =>
    simp only [List.map_cons, am_loc, lg_sl, List.flatMap_cons, List.length_append]
    have ih' : (List.flatMap (fun v : Value => if v.category = 2 then [Slot.val v, .second] else [.val v]) (List.map (am_mp base xa) vs)).length = (am_loc vs).length := ih
    rw [ih']
    by_cases hc : v.category = 2
    · have hc2 : (am_mp base xa v).category = 2 := by cases v <;> first | exact hc | (simp [Value.category] at hc)
      simp [hc, hc2]; omega
    · have hc2 : ¬ (am_mp base xa v).category = 2 := fun e => hc (am_mp_cat2 e)
      simp [hc, hc2]; omega
theorem am_lrel_entry {base : Nat} {xa : Nat → Nat} {as : List Value} {M : Nat} (h : (am_loc as).length ≤ am_mL M) : am_lrel base xa (am_ent M as) ((lg_sl (as.map (am_mp base xa)) ++ List.replicate (am_mL M - (lg_sl (as.map (am_mp base xa))).length) Slot.unset).toArray) (am_mL M) := by
  have h1 := lv_entry (as.map (am_mp base xa)) (n := am_mL M) (by rw [am_loc_len]; exact h)
  refine am_lrel.of h1 (by simp [am_ent]; omega) (fun i v hi hv => ?_)
  unfold am_ent at hi
  by_cases hlt : i < (am_loc as).length
  · rw [List.getElem?_append_left hlt] at hi
    have := am_loc_args base xa as 0 i v hi hv
    rwa [Nat.zero_add] at this
  · rw [List.getElem?_append_right (by omega), List.getElem?_replicate] at hi
    split at hi
    · cases hi; exact absurd rfl hv
    · cases hi
end
section
/-! ONE STEP OF THE ABSTRACT MACHINE IS A STEP OF THE MACHINE -/
def am_nest (w : Jvm.Cond) : Bool := match w with
  | .methodLinkNest _ _ _ _ => true
  | _ => false
def am_env (E : aE) (base : Nat) (xa : Nat → Nat) (dC : Nat → ClassId) (dI : Nat → Nat → Nat) (cA : Nat → ClassId) (U : State) : Prop :=
  va_K (dC, dI) vwCl (am_tys cA) U ∧ (∀ w ∈ lw_tbl, am_nest w = true → va_Nw w U) ∧ (∀ C ∈ am_AO, va_AO C U) ∧ (∀ x, x < 2 → va_Z "RailPower" (am_gn x) "[I" (.ref (xa x)) (fun q => base ≤ q) U U.heap) ∧ ((∀ x, x < 2 → va_T .int (xa x) (E x).1 (fun j => .int ((E x).2 j)) (fun q => base ≤ q) U U.heap) ∧ va_X (xa 2) (E 2).1 (E 2).2 U U.heap ∧ xa 2 < base) ∧ base ≤ U.heap.size
def am_ctx (E : aE) (base : Nat) (xa : Nat → Nat) (dC : Nat → ClassId) (dI : Nat → Nat → Nat) (cA : Nat → ClassId) (M : Nat) (p : Program) (R : Room) (s : State) (m : MethodId) (args : Array Value) (meth : Method) (cd : Code) : Prop :=
  p.tables.exec = Jvm.exec ∧ cd.code = am_cc M ∧ cd.maxLocals = am_mL M ∧ s.vm.findClass (am_cls (am_own M)) = some m.cls ∧ (∀ w ∈ lw_good, w.before args s = true) ∧ am_fr M ≤ R.frames ∧ am_lc M ≤ R.locals ∧ am_env E base xa dC dI cA s ∧ ((am_y M).name = "<init>" → meth.name = "<init>")
def am_hp (base : Nat) (dC : Nat → ClassId) (dI : Nat → Nat → Nat) (cA : Nat → ClassId) (s : State) (h : aH) (H : Heap) (locs : List Loc) : Prop :=
  va_P (dC, dI) vwCl (am_wl base cA h) H ∧ H.size = base + h.1.length ∧ va_S (fun q => base ≤ q) s.heap H locs
def am_sz (h : aH) : Nat := (h.1.map (fun q => match q with
  | .inl c => am_N c
  | .inr (_, n) => n)).sum
theorem am_chk_cons {M pc : Nat} {i : Instr} {c : List Instr} (hj : ∀ t, i ≠ .jsr t) (h : am_chk M pc (i :: c) = true) : ∃ j len, decode (am_cc M) pc = .ok (j, len) ∧ am_ins M pc j len i = true ∧ am_chk M (pc + len) c = true := by
  unfold am_chk at h
  split at h
  · exact absurd rfl (hj _)
  · split at h
    · rename_i j len hd
      rw [Bool.and_eq_true] at h
      exact ⟨j, len, hd, h.1, h.2⟩
    · cases h
theorem am_nn_eq {mk : Fin 4 → Instr} {j : Instr} {n : Nat} (h : am_nn mk j n = true) : ∃ k : Fin 4, j = mk k ∧ (k : Nat) = n := by
  unfold am_nn at h
  split at h
  · rename_i hn
    exact ⟨⟨n, hn⟩, of_decide_eq_true h, rfl⟩
  · cases h

theorem in_iadd {M pc : Nat} {c : List Instr} (h : am_chk M pc (.iadd :: c) = true) : decode (am_cc M) pc = .ok (.iadd, 1) ∧ am_chk M (pc + 1) c = true := by
  obtain ⟨j, len, h1, h2, h3⟩ := am_chk_cons (fun t e => by cases e) h
  simp only [am_ins, am_simple, Bool.and_true, Bool.and_eq_true, decide_eq_true_eq, beq_iff_eq] at h2
  obtain ⟨rfl, rfl⟩ := h2
  exact ⟨h1, h3⟩
theorem in_isub {M pc : Nat} {c : List Instr} (h : am_chk M pc (.isub :: c) = true) : decode (am_cc M) pc = .ok (.isub, 1) ∧ am_chk M (pc + 1) c = true := by
  obtain ⟨j, len, h1, h2, h3⟩ := am_chk_cons (fun t e => by cases e) h
  simp only [am_ins, am_simple, Bool.and_true, Bool.and_eq_true, decide_eq_true_eq, beq_iff_eq] at h2
  obtain ⟨rfl, rfl⟩ := h2
  exact ⟨h1, h3⟩
theorem in_imul {M pc : Nat} {c : List Instr} (h : am_chk M pc (.imul :: c) = true) : decode (am_cc M) pc = .ok (.imul, 1) ∧ am_chk M (pc + 1) c = true := by
  obtain ⟨j, len, h1, h2, h3⟩ := am_chk_cons (fun t e => by cases e) h
  simp only [am_ins, am_simple, Bool.and_true, Bool.and_eq_true, decide_eq_true_eq, beq_iff_eq] at h2
  obtain ⟨rfl, rfl⟩ := h2
  exact ⟨h1, h3⟩
theorem in_iand {M pc : Nat} {c : List Instr} (h : am_chk M pc (.iand :: c) = true) : decode (am_cc M) pc = .ok (.iand, 1) ∧ am_chk M (pc + 1) c = true := by
  obtain ⟨j, len, h1, h2, h3⟩ := am_chk_cons (fun t e => by cases e) h
  simp only [am_ins, am_simple, Bool.and_true, Bool.and_eq_true, decide_eq_true_eq, beq_iff_eq] at h2
  obtain ⟨rfl, rfl⟩ := h2
  exact ⟨h1, h3⟩
theorem in_ior {M pc : Nat} {c : List Instr} (h : am_chk M pc (.ior :: c) = true) : decode (am_cc M) pc = .ok (.ior, 1) ∧ am_chk M (pc + 1) c = true := by
  obtain ⟨j, len, h1, h2, h3⟩ := am_chk_cons (fun t e => by cases e) h
  simp only [am_ins, am_simple, Bool.and_true, Bool.and_eq_true, decide_eq_true_eq, beq_iff_eq] at h2
  obtain ⟨rfl, rfl⟩ := h2
  exact ⟨h1, h3⟩
theorem in_ixor {M pc : Nat} {c : List Instr} (h : am_chk M pc (.ixor :: c) = true) : decode (am_cc M) pc = .ok (.ixor, 1) ∧ am_chk M (pc + 1) c = true := by
  obtain ⟨j, len, h1, h2, h3⟩ := am_chk_cons (fun t e => by cases e) h
  simp only [am_ins, am_simple, Bool.and_true, Bool.and_eq_true, decide_eq_true_eq, beq_iff_eq] at h2
  obtain ⟨rfl, rfl⟩ := h2
  exact ⟨h1, h3⟩
theorem in_ishl {M pc : Nat} {c : List Instr} (h : am_chk M pc (.ishl :: c) = true) : decode (am_cc M) pc = .ok (.ishl, 1) ∧ am_chk M (pc + 1) c = true := by
  obtain ⟨j, len, h1, h2, h3⟩ := am_chk_cons (fun t e => by cases e) h
  simp only [am_ins, am_simple, Bool.and_true, Bool.and_eq_true, decide_eq_true_eq, beq_iff_eq] at h2
  obtain ⟨rfl, rfl⟩ := h2
  exact ⟨h1, h3⟩
theorem in_ishr {M pc : Nat} {c : List Instr} (h : am_chk M pc (.ishr :: c) = true) : decode (am_cc M) pc = .ok (.ishr, 1) ∧ am_chk M (pc + 1) c = true := by
  obtain ⟨j, len, h1, h2, h3⟩ := am_chk_cons (fun t e => by cases e) h
  simp only [am_ins, am_simple, Bool.and_true, Bool.and_eq_true, decide_eq_true_eq, beq_iff_eq] at h2
  obtain ⟨rfl, rfl⟩ := h2
  exact ⟨h1, h3⟩
theorem in_idiv {M pc : Nat} {c : List Instr} (h : am_chk M pc (.idiv :: c) = true) : decode (am_cc M) pc = .ok (.idiv, 1) ∧ am_chk M (pc + 1) c = true := by
  obtain ⟨j, len, h1, h2, h3⟩ := am_chk_cons (fun t e => by cases e) h
  simp only [am_ins, am_simple, Bool.and_true, Bool.and_eq_true, decide_eq_true_eq, beq_iff_eq] at h2
  obtain ⟨rfl, rfl⟩ := h2
  exact ⟨h1, h3⟩
theorem in_irem {M pc : Nat} {c : List Instr} (h : am_chk M pc (.irem :: c) = true) : decode (am_cc M) pc = .ok (.irem, 1) ∧ am_chk M (pc + 1) c = true := by
  obtain ⟨j, len, h1, h2, h3⟩ := am_chk_cons (fun t e => by cases e) h
  simp only [am_ins, am_simple, Bool.and_true, Bool.and_eq_true, decide_eq_true_eq, beq_iff_eq] at h2
  obtain ⟨rfl, rfl⟩ := h2
  exact ⟨h1, h3⟩
theorem in_ineg {M pc : Nat} {c : List Instr} (h : am_chk M pc (.ineg :: c) = true) : decode (am_cc M) pc = .ok (.ineg, 1) ∧ am_chk M (pc + 1) c = true := by
  obtain ⟨j, len, h1, h2, h3⟩ := am_chk_cons (fun t e => by cases e) h
  simp only [am_ins, am_simple, Bool.and_true, Bool.and_eq_true, decide_eq_true_eq, beq_iff_eq] at h2
  obtain ⟨rfl, rfl⟩ := h2
  exact ⟨h1, h3⟩
theorem in_ladd {M pc : Nat} {c : List Instr} (h : am_chk M pc (.ladd :: c) = true) : decode (am_cc M) pc = .ok (.ladd, 1) ∧ am_chk M (pc + 1) c = true := by
  obtain ⟨j, len, h1, h2, h3⟩ := am_chk_cons (fun t e => by cases e) h
  simp only [am_ins, am_simple, Bool.and_true, Bool.and_eq_true, decide_eq_true_eq, beq_iff_eq] at h2
  obtain ⟨rfl, rfl⟩ := h2
  exact ⟨h1, h3⟩
theorem in_lsub {M pc : Nat} {c : List Instr} (h : am_chk M pc (.lsub :: c) = true) : decode (am_cc M) pc = .ok (.lsub, 1) ∧ am_chk M (pc + 1) c = true := by
  obtain ⟨j, len, h1, h2, h3⟩ := am_chk_cons (fun t e => by cases e) h
  simp only [am_ins, am_simple, Bool.and_true, Bool.and_eq_true, decide_eq_true_eq, beq_iff_eq] at h2
  obtain ⟨rfl, rfl⟩ := h2
  exact ⟨h1, h3⟩
theorem in_lmul {M pc : Nat} {c : List Instr} (h : am_chk M pc (.lmul :: c) = true) : decode (am_cc M) pc = .ok (.lmul, 1) ∧ am_chk M (pc + 1) c = true := by
  obtain ⟨j, len, h1, h2, h3⟩ := am_chk_cons (fun t e => by cases e) h
  simp only [am_ins, am_simple, Bool.and_true, Bool.and_eq_true, decide_eq_true_eq, beq_iff_eq] at h2
  obtain ⟨rfl, rfl⟩ := h2
  exact ⟨h1, h3⟩
theorem in_ldiv {M pc : Nat} {c : List Instr} (h : am_chk M pc (.ldiv :: c) = true) : decode (am_cc M) pc = .ok (.ldiv, 1) ∧ am_chk M (pc + 1) c = true := by
  obtain ⟨j, len, h1, h2, h3⟩ := am_chk_cons (fun t e => by cases e) h
  simp only [am_ins, am_simple, Bool.and_true, Bool.and_eq_true, decide_eq_true_eq, beq_iff_eq] at h2
  obtain ⟨rfl, rfl⟩ := h2
  exact ⟨h1, h3⟩
theorem in_lrem {M pc : Nat} {c : List Instr} (h : am_chk M pc (.lrem :: c) = true) : decode (am_cc M) pc = .ok (.lrem, 1) ∧ am_chk M (pc + 1) c = true := by
  obtain ⟨j, len, h1, h2, h3⟩ := am_chk_cons (fun t e => by cases e) h
  simp only [am_ins, am_simple, Bool.and_true, Bool.and_eq_true, decide_eq_true_eq, beq_iff_eq] at h2
  obtain ⟨rfl, rfl⟩ := h2
  exact ⟨h1, h3⟩
theorem in_lneg {M pc : Nat} {c : List Instr} (h : am_chk M pc (.lneg :: c) = true) : decode (am_cc M) pc = .ok (.lneg, 1) ∧ am_chk M (pc + 1) c = true := by
  obtain ⟨j, len, h1, h2, h3⟩ := am_chk_cons (fun t e => by cases e) h
  simp only [am_ins, am_simple, Bool.and_true, Bool.and_eq_true, decide_eq_true_eq, beq_iff_eq] at h2
  obtain ⟨rfl, rfl⟩ := h2
  exact ⟨h1, h3⟩
theorem in_lcmp {M pc : Nat} {c : List Instr} (h : am_chk M pc (.lcmp :: c) = true) : decode (am_cc M) pc = .ok (.lcmp, 1) ∧ am_chk M (pc + 1) c = true := by
  obtain ⟨j, len, h1, h2, h3⟩ := am_chk_cons (fun t e => by cases e) h
  simp only [am_ins, am_simple, Bool.and_true, Bool.and_eq_true, decide_eq_true_eq, beq_iff_eq] at h2
  obtain ⟨rfl, rfl⟩ := h2
  exact ⟨h1, h3⟩
theorem in_i2l {M pc : Nat} {c : List Instr} (h : am_chk M pc (.i2l :: c) = true) : decode (am_cc M) pc = .ok (.i2l, 1) ∧ am_chk M (pc + 1) c = true := by
  obtain ⟨j, len, h1, h2, h3⟩ := am_chk_cons (fun t e => by cases e) h
  simp only [am_ins, am_simple, Bool.and_true, Bool.and_eq_true, decide_eq_true_eq, beq_iff_eq] at h2
  obtain ⟨rfl, rfl⟩ := h2
  exact ⟨h1, h3⟩
theorem in_i2b {M pc : Nat} {c : List Instr} (h : am_chk M pc (.i2b :: c) = true) : decode (am_cc M) pc = .ok (.i2b, 1) ∧ am_chk M (pc + 1) c = true := by
  obtain ⟨j, len, h1, h2, h3⟩ := am_chk_cons (fun t e => by cases e) h
  simp only [am_ins, am_simple, Bool.and_true, Bool.and_eq_true, decide_eq_true_eq, beq_iff_eq] at h2
  obtain ⟨rfl, rfl⟩ := h2
  exact ⟨h1, h3⟩
theorem in_i2s {M pc : Nat} {c : List Instr} (h : am_chk M pc (.i2s :: c) = true) : decode (am_cc M) pc = .ok (.i2s, 1) ∧ am_chk M (pc + 1) c = true := by
  obtain ⟨j, len, h1, h2, h3⟩ := am_chk_cons (fun t e => by cases e) h
  simp only [am_ins, am_simple, Bool.and_true, Bool.and_eq_true, decide_eq_true_eq, beq_iff_eq] at h2
  obtain ⟨rfl, rfl⟩ := h2
  exact ⟨h1, h3⟩
theorem in_dup {M pc : Nat} {c : List Instr} (h : am_chk M pc (.dup :: c) = true) : decode (am_cc M) pc = .ok (.dup, 1) ∧ am_chk M (pc + 1) c = true := by
  obtain ⟨j, len, h1, h2, h3⟩ := am_chk_cons (fun t e => by cases e) h
  simp only [am_ins, am_simple, Bool.and_true, Bool.and_eq_true, decide_eq_true_eq, beq_iff_eq] at h2
  obtain ⟨rfl, rfl⟩ := h2
  exact ⟨h1, h3⟩
theorem in_dup2 {M pc : Nat} {c : List Instr} (h : am_chk M pc (.dup2 :: c) = true) : decode (am_cc M) pc = .ok (.dup2, 1) ∧ am_chk M (pc + 1) c = true := by
  obtain ⟨j, len, h1, h2, h3⟩ := am_chk_cons (fun t e => by cases e) h
  simp only [am_ins, am_simple, Bool.and_true, Bool.and_eq_true, decide_eq_true_eq, beq_iff_eq] at h2
  obtain ⟨rfl, rfl⟩ := h2
  exact ⟨h1, h3⟩
theorem in_pop {M pc : Nat} {c : List Instr} (h : am_chk M pc (.pop :: c) = true) : decode (am_cc M) pc = .ok (.pop, 1) ∧ am_chk M (pc + 1) c = true := by
  obtain ⟨j, len, h1, h2, h3⟩ := am_chk_cons (fun t e => by cases e) h
  simp only [am_ins, am_simple, Bool.and_true, Bool.and_eq_true, decide_eq_true_eq, beq_iff_eq] at h2
  obtain ⟨rfl, rfl⟩ := h2
  exact ⟨h1, h3⟩
theorem in_iaload {M pc : Nat} {c : List Instr} (h : am_chk M pc (.iaload :: c) = true) : decode (am_cc M) pc = .ok (.iaload, 1) ∧ am_chk M (pc + 1) c = true := by
  obtain ⟨j, len, h1, h2, h3⟩ := am_chk_cons (fun t e => by cases e) h
  simp only [am_ins, am_simple, Bool.and_true, Bool.and_eq_true, decide_eq_true_eq, beq_iff_eq] at h2
  obtain ⟨rfl, rfl⟩ := h2
  exact ⟨h1, h3⟩
theorem in_baload {M pc : Nat} {c : List Instr} (h : am_chk M pc (.baload :: c) = true) : decode (am_cc M) pc = .ok (.baload, 1) ∧ am_chk M (pc + 1) c = true := by
  obtain ⟨j, len, h1, h2, h3⟩ := am_chk_cons (fun t e => by cases e) h
  simp only [am_ins, am_simple, Bool.and_true, Bool.and_eq_true, decide_eq_true_eq, beq_iff_eq] at h2
  obtain ⟨rfl, rfl⟩ := h2
  exact ⟨h1, h3⟩
theorem in_laload {M pc : Nat} {c : List Instr} (h : am_chk M pc (.laload :: c) = true) : decode (am_cc M) pc = .ok (.laload, 1) ∧ am_chk M (pc + 1) c = true := by
  obtain ⟨j, len, h1, h2, h3⟩ := am_chk_cons (fun t e => by cases e) h
  simp only [am_ins, am_simple, Bool.and_true, Bool.and_eq_true, decide_eq_true_eq, beq_iff_eq] at h2
  obtain ⟨rfl, rfl⟩ := h2
  exact ⟨h1, h3⟩
theorem in_aaload {M pc : Nat} {c : List Instr} (h : am_chk M pc (.aaload :: c) = true) : decode (am_cc M) pc = .ok (.aaload, 1) ∧ am_chk M (pc + 1) c = true := by
  obtain ⟨j, len, h1, h2, h3⟩ := am_chk_cons (fun t e => by cases e) h
  simp only [am_ins, am_simple, Bool.and_true, Bool.and_eq_true, decide_eq_true_eq, beq_iff_eq] at h2
  obtain ⟨rfl, rfl⟩ := h2
  exact ⟨h1, h3⟩
theorem in_iastore {M pc : Nat} {c : List Instr} (h : am_chk M pc (.iastore :: c) = true) : decode (am_cc M) pc = .ok (.iastore, 1) ∧ am_chk M (pc + 1) c = true := by
  obtain ⟨j, len, h1, h2, h3⟩ := am_chk_cons (fun t e => by cases e) h
  simp only [am_ins, am_simple, Bool.and_true, Bool.and_eq_true, decide_eq_true_eq, beq_iff_eq] at h2
  obtain ⟨rfl, rfl⟩ := h2
  exact ⟨h1, h3⟩
theorem in_bastore {M pc : Nat} {c : List Instr} (h : am_chk M pc (.bastore :: c) = true) : decode (am_cc M) pc = .ok (.bastore, 1) ∧ am_chk M (pc + 1) c = true := by
  obtain ⟨j, len, h1, h2, h3⟩ := am_chk_cons (fun t e => by cases e) h
  simp only [am_ins, am_simple, Bool.and_true, Bool.and_eq_true, decide_eq_true_eq, beq_iff_eq] at h2
  obtain ⟨rfl, rfl⟩ := h2
  exact ⟨h1, h3⟩
theorem in_lastore {M pc : Nat} {c : List Instr} (h : am_chk M pc (.lastore :: c) = true) : decode (am_cc M) pc = .ok (.lastore, 1) ∧ am_chk M (pc + 1) c = true := by
  obtain ⟨j, len, h1, h2, h3⟩ := am_chk_cons (fun t e => by cases e) h
  simp only [am_ins, am_simple, Bool.and_true, Bool.and_eq_true, decide_eq_true_eq, beq_iff_eq] at h2
  obtain ⟨rfl, rfl⟩ := h2
  exact ⟨h1, h3⟩
theorem in_aastore {M pc : Nat} {c : List Instr} (h : am_chk M pc (.aastore :: c) = true) : decode (am_cc M) pc = .ok (.aastore, 1) ∧ am_chk M (pc + 1) c = true := by
  obtain ⟨j, len, h1, h2, h3⟩ := am_chk_cons (fun t e => by cases e) h
  simp only [am_ins, am_simple, Bool.and_true, Bool.and_eq_true, decide_eq_true_eq, beq_iff_eq] at h2
  obtain ⟨rfl, rfl⟩ := h2
  exact ⟨h1, h3⟩
theorem in_arraylength {M pc : Nat} {c : List Instr} (h : am_chk M pc (.arraylength :: c) = true) : decode (am_cc M) pc = .ok (.arraylength, 1) ∧ am_chk M (pc + 1) c = true := by
  obtain ⟨j, len, h1, h2, h3⟩ := am_chk_cons (fun t e => by cases e) h
  simp only [am_ins, am_simple, Bool.and_true, Bool.and_eq_true, decide_eq_true_eq, beq_iff_eq] at h2
  obtain ⟨rfl, rfl⟩ := h2
  exact ⟨h1, h3⟩
section Snd
variable {E : aE} {base : Nat} {xa : Nat → Nat} {dC : Nat → ClassId} {dI : Nat → Nat → Nat} {cA : Nat → ClassId}
variable {p : Program} {l : Launch} {e : Env} {R : Room} {s : State} {m : MethodId} {args : Array Value} {below : List Frame} {meth : Method} {cd : Code} {H : Heap} {locs : List Loc} {cells slots : Nat} {Q : State → Prop}
variable {M pc : Nat} {ls : Array Slot} {c : List Instr} {L S : List Value} {h : aH}

theorem go_iadd (C : am_ctx E base xa dC dI cA M p R s m args meth cd) {x y : Int32}  (hc : am_chk M pc (.iadd :: c) = true) (kk : am_chk M (pc + 1) c = true → W p l e R s m args below meth cd H locs cells slots Q (F0 m (pc + 1) ls (.int (x + y) :: S.map (am_mp base xa)))) : W p l e R s m args below meth cd H locs cells slots Q (F0 m pc ls (.int y :: .int x :: S.map (am_mp base xa))) := lv_iadd C.1 C.2.1 (in_iadd hc).1 (kk (in_iadd hc).2)
theorem go_isub (C : am_ctx E base xa dC dI cA M p R s m args meth cd) {x y : Int32}  (hc : am_chk M pc (.isub :: c) = true) (kk : am_chk M (pc + 1) c = true → W p l e R s m args below meth cd H locs cells slots Q (F0 m (pc + 1) ls (.int (x - y) :: S.map (am_mp base xa)))) : W p l e R s m args below meth cd H locs cells slots Q (F0 m pc ls (.int y :: .int x :: S.map (am_mp base xa))) := lv_isub C.1 C.2.1 (in_isub hc).1 (kk (in_isub hc).2)
theorem go_imul (C : am_ctx E base xa dC dI cA M p R s m args meth cd) {x y : Int32}  (hc : am_chk M pc (.imul :: c) = true) (kk : am_chk M (pc + 1) c = true → W p l e R s m args below meth cd H locs cells slots Q (F0 m (pc + 1) ls (.int (x * y) :: S.map (am_mp base xa)))) : W p l e R s m args below meth cd H locs cells slots Q (F0 m pc ls (.int y :: .int x :: S.map (am_mp base xa))) := lv_imul C.1 C.2.1 (in_imul hc).1 (kk (in_imul hc).2)
theorem go_iand (C : am_ctx E base xa dC dI cA M p R s m args meth cd) {x y : Int32}  (hc : am_chk M pc (.iand :: c) = true) (kk : am_chk M (pc + 1) c = true → W p l e R s m args below meth cd H locs cells slots Q (F0 m (pc + 1) ls (.int (x &&& y) :: S.map (am_mp base xa)))) : W p l e R s m args below meth cd H locs cells slots Q (F0 m pc ls (.int y :: .int x :: S.map (am_mp base xa))) := lv_iand C.1 C.2.1 (in_iand hc).1 (kk (in_iand hc).2)
theorem go_ior (C : am_ctx E base xa dC dI cA M p R s m args meth cd) {x y : Int32}  (hc : am_chk M pc (.ior :: c) = true) (kk : am_chk M (pc + 1) c = true → W p l e R s m args below meth cd H locs cells slots Q (F0 m (pc + 1) ls (.int (x ||| y) :: S.map (am_mp base xa)))) : W p l e R s m args below meth cd H locs cells slots Q (F0 m pc ls (.int y :: .int x :: S.map (am_mp base xa))) := lv_ior C.1 C.2.1 (in_ior hc).1 (kk (in_ior hc).2)
theorem go_ixor (C : am_ctx E base xa dC dI cA M p R s m args meth cd) {x y : Int32}  (hc : am_chk M pc (.ixor :: c) = true) (kk : am_chk M (pc + 1) c = true → W p l e R s m args below meth cd H locs cells slots Q (F0 m (pc + 1) ls (.int (x ^^^ y) :: S.map (am_mp base xa)))) : W p l e R s m args below meth cd H locs cells slots Q (F0 m pc ls (.int y :: .int x :: S.map (am_mp base xa))) := lv_ixor C.1 C.2.1 (in_ixor hc).1 (kk (in_ixor hc).2)
theorem go_ishl (C : am_ctx E base xa dC dI cA M p R s m args meth cd) {x y : Int32}  (hc : am_chk M pc (.ishl :: c) = true) (kk : am_chk M (pc + 1) c = true → W p l e R s m args below meth cd H locs cells slots Q (F0 m (pc + 1) ls (.int (x <<< (y &&& 31)) :: S.map (am_mp base xa)))) : W p l e R s m args below meth cd H locs cells slots Q (F0 m pc ls (.int y :: .int x :: S.map (am_mp base xa))) := lv_ishl C.1 C.2.1 (in_ishl hc).1 (kk (in_ishl hc).2)
theorem go_ishr (C : am_ctx E base xa dC dI cA M p R s m args meth cd) {x y : Int32}  (hc : am_chk M pc (.ishr :: c) = true) (kk : am_chk M (pc + 1) c = true → W p l e R s m args below meth cd H locs cells slots Q (F0 m (pc + 1) ls (.int (x >>> (y &&& 31)) :: S.map (am_mp base xa)))) : W p l e R s m args below meth cd H locs cells slots Q (F0 m pc ls (.int y :: .int x :: S.map (am_mp base xa))) := lv_ishr C.1 C.2.1 (in_ishr hc).1 (kk (in_ishr hc).2)
theorem go_idiv (C : am_ctx E base xa dC dI cA M p R s m args meth cd) {x y : Int32} (hy : ¬ y = 0) (hc : am_chk M pc (.idiv :: c) = true) (kk : am_chk M (pc + 1) c = true → W p l e R s m args below meth cd H locs cells slots Q (F0 m (pc + 1) ls (.int (x / y) :: S.map (am_mp base xa)))) : W p l e R s m args below meth cd H locs cells slots Q (F0 m pc ls (.int y :: .int x :: S.map (am_mp base xa))) := lv_idiv C.1 C.2.1 (in_idiv hc).1 hy (kk (in_idiv hc).2)
theorem go_irem (C : am_ctx E base xa dC dI cA M p R s m args meth cd) {x y : Int32} (hy : ¬ y = 0) (hc : am_chk M pc (.irem :: c) = true) (kk : am_chk M (pc + 1) c = true → W p l e R s m args below meth cd H locs cells slots Q (F0 m (pc + 1) ls (.int (x - x / y * y) :: S.map (am_mp base xa)))) : W p l e R s m args below meth cd H locs cells slots Q (F0 m pc ls (.int y :: .int x :: S.map (am_mp base xa))) := lv_irem C.1 C.2.1 (in_irem hc).1 hy (kk (in_irem hc).2)
theorem go_ladd (C : am_ctx E base xa dC dI cA M p R s m args meth cd) {x y : Int64}  (hc : am_chk M pc (.ladd :: c) = true) (kk : am_chk M (pc + 1) c = true → W p l e R s m args below meth cd H locs cells slots Q (F0 m (pc + 1) ls (.long (x + y) :: S.map (am_mp base xa)))) : W p l e R s m args below meth cd H locs cells slots Q (F0 m pc ls (.long y :: .long x :: S.map (am_mp base xa))) := lv_ladd C.1 C.2.1 (in_ladd hc).1 (kk (in_ladd hc).2)
theorem go_lsub (C : am_ctx E base xa dC dI cA M p R s m args meth cd) {x y : Int64}  (hc : am_chk M pc (.lsub :: c) = true) (kk : am_chk M (pc + 1) c = true → W p l e R s m args below meth cd H locs cells slots Q (F0 m (pc + 1) ls (.long (x - y) :: S.map (am_mp base xa)))) : W p l e R s m args below meth cd H locs cells slots Q (F0 m pc ls (.long y :: .long x :: S.map (am_mp base xa))) := lv_lsub C.1 C.2.1 (in_lsub hc).1 (kk (in_lsub hc).2)
theorem go_lmul (C : am_ctx E base xa dC dI cA M p R s m args meth cd) {x y : Int64}  (hc : am_chk M pc (.lmul :: c) = true) (kk : am_chk M (pc + 1) c = true → W p l e R s m args below meth cd H locs cells slots Q (F0 m (pc + 1) ls (.long (x * y) :: S.map (am_mp base xa)))) : W p l e R s m args below meth cd H locs cells slots Q (F0 m pc ls (.long y :: .long x :: S.map (am_mp base xa))) := lv_lmul C.1 C.2.1 (in_lmul hc).1 (kk (in_lmul hc).2)
theorem go_ldiv (C : am_ctx E base xa dC dI cA M p R s m args meth cd) {x y : Int64} (hy : ¬ y = 0) (hc : am_chk M pc (.ldiv :: c) = true) (kk : am_chk M (pc + 1) c = true → W p l e R s m args below meth cd H locs cells slots Q (F0 m (pc + 1) ls (.long (x / y) :: S.map (am_mp base xa)))) : W p l e R s m args below meth cd H locs cells slots Q (F0 m pc ls (.long y :: .long x :: S.map (am_mp base xa))) := lv_ldiv C.1 C.2.1 (in_ldiv hc).1 hy (kk (in_ldiv hc).2)
theorem go_lrem (C : am_ctx E base xa dC dI cA M p R s m args meth cd) {x y : Int64} (hy : ¬ y = 0) (hc : am_chk M pc (.lrem :: c) = true) (kk : am_chk M (pc + 1) c = true → W p l e R s m args below meth cd H locs cells slots Q (F0 m (pc + 1) ls (.long (x - x / y * y) :: S.map (am_mp base xa)))) : W p l e R s m args below meth cd H locs cells slots Q (F0 m pc ls (.long y :: .long x :: S.map (am_mp base xa))) := lv_lrem C.1 C.2.1 (in_lrem hc).1 hy (kk (in_lrem hc).2)
theorem go_ineg (C : am_ctx E base xa dC dI cA M p R s m args meth cd) {x : Int32}  (hc : am_chk M pc (.ineg :: c) = true) (kk : am_chk M (pc + 1) c = true → W p l e R s m args below meth cd H locs cells slots Q (F0 m (pc + 1) ls (.int (-x) :: S.map (am_mp base xa)))) : W p l e R s m args below meth cd H locs cells slots Q (F0 m pc ls (.int x :: S.map (am_mp base xa))) := lv_ineg C.1 C.2.1 (in_ineg hc).1 (kk (in_ineg hc).2)
theorem go_lneg (C : am_ctx E base xa dC dI cA M p R s m args meth cd) {x : Int64}  (hc : am_chk M pc (.lneg :: c) = true) (kk : am_chk M (pc + 1) c = true → W p l e R s m args below meth cd H locs cells slots Q (F0 m (pc + 1) ls (.long (-x) :: S.map (am_mp base xa)))) : W p l e R s m args below meth cd H locs cells slots Q (F0 m pc ls (.long x :: S.map (am_mp base xa))) := lv_lneg C.1 C.2.1 (in_lneg hc).1 (kk (in_lneg hc).2)
theorem go_lcmp (C : am_ctx E base xa dC dI cA M p R s m args meth cd) {x y : Int64}  (hc : am_chk M pc (.lcmp :: c) = true) (kk : am_chk M (pc + 1) c = true → W p l e R s m args below meth cd H locs cells slots Q (F0 m (pc + 1) ls (.int (lg_cmp x y) :: S.map (am_mp base xa)))) : W p l e R s m args below meth cd H locs cells slots Q (F0 m pc ls (.long y :: .long x :: S.map (am_mp base xa))) := W.lcmp C.1 C.2.1 (in_lcmp hc).1 (kk (in_lcmp hc).2)
theorem go_i2l (C : am_ctx E base xa dC dI cA M p R s m args meth cd) {x : Int32}  (hc : am_chk M pc (.i2l :: c) = true) (kk : am_chk M (pc + 1) c = true → W p l e R s m args below meth cd H locs cells slots Q (F0 m (pc + 1) ls (.long x.toInt64 :: S.map (am_mp base xa)))) : W p l e R s m args below meth cd H locs cells slots Q (F0 m pc ls (.int x :: S.map (am_mp base xa))) := lv_i2l C.1 C.2.1 (in_i2l hc).1 rfl (kk (in_i2l hc).2)
theorem go_i2b (C : am_ctx E base xa dC dI cA M p R s m args meth cd) {x : Int32}  (hc : am_chk M pc (.i2b :: c) = true) (kk : am_chk M (pc + 1) c = true → W p l e R s m args below meth cd H locs cells slots Q (F0 m (pc + 1) ls (.int x.toInt8.toInt32 :: S.map (am_mp base xa)))) : W p l e R s m args below meth cd H locs cells slots Q (F0 m pc ls (.int x :: S.map (am_mp base xa))) := lv_i2b C.1 C.2.1 (in_i2b hc).1 rfl (kk (in_i2b hc).2)
theorem go_i2s (C : am_ctx E base xa dC dI cA M p R s m args meth cd) {x : Int32}  (hc : am_chk M pc (.i2s :: c) = true) (kk : am_chk M (pc + 1) c = true → W p l e R s m args below meth cd H locs cells slots Q (F0 m (pc + 1) ls (.int x.toInt16.toInt32 :: S.map (am_mp base xa)))) : W p l e R s m args below meth cd H locs cells slots Q (F0 m pc ls (.int x :: S.map (am_mp base xa))) := lv_i2s C.1 C.2.1 (in_i2s hc).1 rfl (kk (in_i2s hc).2)
theorem go_dup (C : am_ctx E base xa dC dI cA M p R s m args meth cd) {v : Value} (hv : v.category = 1) (hc : am_chk M pc (.dup :: c) = true) (kk : am_chk M (pc + 1) c = true → W p l e R s m args below meth cd H locs cells slots Q (F0 m (pc + 1) ls (v :: v :: S.map (am_mp base xa)))) : W p l e R s m args below meth cd H locs cells slots Q (F0 m pc ls (v :: S.map (am_mp base xa))) := lv_dup C.1 C.2.1 (in_dup hc).1 hv (kk (in_dup hc).2)
theorem go_pop (C : am_ctx E base xa dC dI cA M p R s m args meth cd) {v : Value} (hv : v.category = 1) (hc : am_chk M pc (.pop :: c) = true) (kk : am_chk M (pc + 1) c = true → W p l e R s m args below meth cd H locs cells slots Q (F0 m (pc + 1) ls (S.map (am_mp base xa)))) : W p l e R s m args below meth cd H locs cells slots Q (F0 m pc ls (v :: S.map (am_mp base xa))) := lv_pop C.1 C.2.1 (in_pop hc).1 hv (kk (in_pop hc).2)
theorem go_dup2 (C : am_ctx E base xa dC dI cA M p R s m args meth cd) {v u : Value} (hv : v.category = 1) (hu : u.category = 1) (hc : am_chk M pc (.dup2 :: c) = true) (kk : am_chk M (pc + 1) c = true → W p l e R s m args below meth cd H locs cells slots Q (F0 m (pc + 1) ls (v :: u :: v :: u :: S.map (am_mp base xa)))) : W p l e R s m args below meth cd H locs cells slots Q (F0 m pc ls (v :: u :: S.map (am_mp base xa))) := lv_dup2_11 C.1 C.2.1 (in_dup2 hc).1 hv hu (kk (in_dup2 hc).2)
theorem go_bipush (C : am_ctx E base xa dC dI cA M p R s m args meth cd) {v : Int} (hc : am_chk M pc (.bipush v :: c) = true) (kk : ∀ len, am_chk M (pc + len) c = true → W p l e R s m args below meth cd H locs cells slots Q (F0 m (pc + len) ls (.int (Int32.ofInt v) :: S.map (am_mp base xa)))) : W p l e R s m args below meth cd H locs cells slots Q (F0 m pc ls (S.map (am_mp base xa))) := by
  obtain ⟨j, len, h1, h2, h3⟩ := am_chk_cons (fun t e => by cases e) hc
  simp only [am_ins, Bool.or_eq_true, Bool.and_eq_true, decide_eq_true_eq, beq_iff_eq, List.any_eq_true] at h2
  rcases h2 with ((⟨rfl, rfl⟩ | ⟨⟨rfl, rfl⟩, hv⟩) | ⟨⟨rfl, rfl⟩, hv⟩) | ⟨rfl, q, hq, ⟨hq1, rfl⟩, hq2⟩
  · exact lv_iconst C.1 C.2.1 h1 rfl (kk _ h3)
  · exact lv_bipush C.1 C.2.1 h1 hv (kk _ h3)
  · exact lv_sipush C.1 C.2.1 h1 hv (kk _ h3)
  · have hw := am_wd_in (List.all_eq_true.mp am_K_ok q hq)
    rw [hq1, hq2] at hw
    exact lv_ldc C.1 C.2.1 C.2.2.2.1 (C.2.2.2.2.1 _ hw) h1 (kk _ h3)
theorem go_sipush (C : am_ctx E base xa dC dI cA M p R s m args meth cd) {v : Int} (hc : am_chk M pc (.sipush v :: c) = true) (kk : ∀ len, am_chk M (pc + len) c = true → W p l e R s m args below meth cd H locs cells slots Q (F0 m (pc + len) ls (.long (Int64.ofInt v) :: S.map (am_mp base xa)))) : W p l e R s m args below meth cd H locs cells slots Q (F0 m pc ls (S.map (am_mp base xa))) := by
  obtain ⟨j, len, h1, h2, h3⟩ := am_chk_cons (fun t e => by cases e) hc
  simp only [am_ins, Bool.or_eq_true, Bool.and_eq_true, decide_eq_true_eq, beq_iff_eq, List.any_eq_true] at h2
  rcases h2 with (⟨⟨rfl, rfl⟩, rfl⟩ | ⟨⟨rfl, rfl⟩, rfl⟩) | ⟨rfl, q, hq, ⟨hq1, rfl⟩, hq2⟩
  · exact lv_lconst C.1 C.2.1 h1 rfl (kk _ h3)
  · exact lv_lconst C.1 C.2.1 h1 rfl (kk _ h3)
  · have hw := am_wd_in (List.all_eq_true.mp am_J_ok q hq)
    rw [hq1, hq2] at hw
    exact lv_ldc2 C.1 C.2.1 C.2.2.2.1 (C.2.2.2.2.1 _ hw) h1 (kk _ h3)
theorem go_iload (C : am_ctx E base xa dC dI cA M p R s m args meth cd) {n : Nat} {x : Int32} (hl : am_lrel base xa L ls (am_mL M)) (hx : L[n]? = some (.int x)) (hc : am_chk M pc (.iload n :: c) = true) (kk : ∀ len, am_chk M (pc + len) c = true → W p l e R s m args below meth cd H locs cells slots Q (F0 m (pc + len) ls (.int x :: S.map (am_mp base xa)))) : W p l e R s m args below meth cd H locs cells slots Q (F0 m pc ls (S.map (am_mp base xa))) := by
  obtain ⟨j, len, h1, h2, h3⟩ := am_chk_cons (fun t e => by cases e) hc
  simp only [am_ins, Bool.or_eq_true, Bool.and_eq_true, decide_eq_true_eq, beq_iff_eq] at h2
  have hg := hl.2.2.2 n _ hx (fun e => by cases e)
  rcases h2 with ⟨rfl, rfl⟩ | ⟨hn, rfl⟩
  · exact lv_iload C.1 C.2.1 h1 hg (kk _ h3)
  · obtain ⟨k, rfl, hk⟩ := am_nn_eq hn
    exact lv_iload_n C.1 C.2.1 h1 hk hg (kk _ h3)
theorem go_lload (C : am_ctx E base xa dC dI cA M p R s m args meth cd) {n : Nat} {x : Int64} (hl : am_lrel base xa L ls (am_mL M)) (hx : L[n]? = some (.long x)) (hc : am_chk M pc (.lload n :: c) = true) (kk : ∀ len, am_chk M (pc + len) c = true → W p l e R s m args below meth cd H locs cells slots Q (F0 m (pc + len) ls (.long x :: S.map (am_mp base xa)))) : W p l e R s m args below meth cd H locs cells slots Q (F0 m pc ls (S.map (am_mp base xa))) := by
  obtain ⟨j, len, h1, h2, h3⟩ := am_chk_cons (fun t e => by cases e) hc
  simp only [am_ins, Bool.or_eq_true, Bool.and_eq_true, decide_eq_true_eq, beq_iff_eq] at h2
  have hg := hl.2.2.2 n _ hx (fun e => by cases e)
  rcases h2 with ⟨rfl, rfl⟩ | ⟨hn, rfl⟩
  · exact lv_lload C.1 C.2.1 h1 hg (kk _ h3)
  · obtain ⟨k, rfl, hk⟩ := am_nn_eq hn
    exact lv_lload_n C.1 C.2.1 h1 hk hg (kk _ h3)
theorem go_aloadR (C : am_ctx E base xa dC dI cA M p R s m args meth cd) {n x : Nat} (hl : am_lrel base xa L ls (am_mL M)) (hx : L[n]? = some (.ref x)) (hc : am_chk M pc (.aload n :: c) = true) (kk : ∀ len, am_chk M (pc + len) c = true → W p l e R s m args below meth cd H locs cells slots Q (F0 m (pc + len) ls (.ref (base + x) :: S.map (am_mp base xa)))) : W p l e R s m args below meth cd H locs cells slots Q (F0 m pc ls (S.map (am_mp base xa))) := by
  obtain ⟨j, len, h1, h2, h3⟩ := am_chk_cons (fun t e => by cases e) hc
  simp only [am_ins, Bool.or_eq_true, Bool.and_eq_true, decide_eq_true_eq, beq_iff_eq] at h2
  have hg : ls[n]? = some (.val (.ref (base + x))) := hl.2.2.2 n _ hx (fun e => by cases e)
  rcases h2 with ⟨rfl, rfl⟩ | ⟨hn, rfl⟩
  · exact lv_aload C.1 C.2.1 h1 hg (kk _ h3)
  · obtain ⟨k, rfl, hk⟩ := am_nn_eq hn
    exact lv_aload_n C.1 C.2.1 h1 hk hg (kk _ h3)
theorem go_aloadX (C : am_ctx E base xa dC dI cA M p R s m args meth cd) {n x : Nat} (hl : am_lrel base xa L ls (am_mL M)) (hx : L[n]? = some (.retAddr x)) (hc : am_chk M pc (.aload n :: c) = true) (kk : ∀ len, am_chk M (pc + len) c = true → W p l e R s m args below meth cd H locs cells slots Q (F0 m (pc + len) ls (.ref (xa x) :: S.map (am_mp base xa)))) : W p l e R s m args below meth cd H locs cells slots Q (F0 m pc ls (S.map (am_mp base xa))) := by
  obtain ⟨j, len, h1, h2, h3⟩ := am_chk_cons (fun t e => by cases e) hc
  simp only [am_ins, Bool.or_eq_true, Bool.and_eq_true, decide_eq_true_eq, beq_iff_eq] at h2
  have hg : ls[n]? = some (.val (.ref (xa x))) := hl.2.2.2 n _ hx (fun e => by cases e)
  rcases h2 with ⟨rfl, rfl⟩ | ⟨hn, rfl⟩
  · exact lv_aload C.1 C.2.1 h1 hg (kk _ h3)
  · obtain ⟨k, rfl, hk⟩ := am_nn_eq hn
    exact lv_aload_n C.1 C.2.1 h1 hk hg (kk _ h3)
theorem go_istore (C : am_ctx E base xa dC dI cA M p R s m args meth cd) {n : Nat} {x : Int32} (hl : am_lrel base xa L ls (am_mL M)) (hn : n < L.length) (hc : am_chk M pc (.istore n :: c) = true) (kk : ∀ len ls', am_chk M (pc + len) c = true → am_lrel base xa (am_set1 L n (.int x)) ls' (am_mL M) → W p l e R s m args below meth cd H locs cells slots Q (F0 m (pc + len) ls' (S.map (am_mp base xa)))) : W p l e R s m args below meth cd H locs cells slots Q (F0 m pc ls (.int x :: S.map (am_mp base xa))) := by
  obtain ⟨j, len, h1, h2, h3⟩ := am_chk_cons (fun t e => by cases e) hc
  simp only [am_ins, Bool.or_eq_true, Bool.and_eq_true, decide_eq_true_eq, beq_iff_eq] at h2
  rcases h2 with ⟨rfl, rfl⟩ | ⟨hn4, rfl⟩
  · exact lv_istore C.1 C.2.1 h1 hl.has (by rw [← hl.2.1]; exact hn) rfl (fun ls' h9 => kk _ ls' h3 (am_lrel_set1 (v := .int x) hl.2.1 h9))
  · obtain ⟨k, rfl, hk⟩ := am_nn_eq hn4
    exact lv_istore_n C.1 C.2.1 h1 hk hl.has (by rw [← hl.2.1]; exact hn) rfl (fun ls' h9 => kk _ ls' h3 (am_lrel_set1 (v := .int x) hl.2.1 h9))
theorem go_lstore (C : am_ctx E base xa dC dI cA M p R s m args meth cd) {n : Nat} {x : Int64} (hl : am_lrel base xa L ls (am_mL M)) (hn : n + 1 < L.length) (hc : am_chk M pc (.lstore n :: c) = true) (kk : ∀ len ls', am_chk M (pc + len) c = true → am_lrel base xa (am_set2 L n (.long x)) ls' (am_mL M) → W p l e R s m args below meth cd H locs cells slots Q (F0 m (pc + len) ls' (S.map (am_mp base xa)))) : W p l e R s m args below meth cd H locs cells slots Q (F0 m pc ls (.long x :: S.map (am_mp base xa))) := by
  obtain ⟨j, len, h1, h2, h3⟩ := am_chk_cons (fun t e => by cases e) hc
  simp only [am_ins, Bool.or_eq_true, Bool.and_eq_true, decide_eq_true_eq, beq_iff_eq] at h2
  rcases h2 with ⟨rfl, rfl⟩ | ⟨hn4, rfl⟩
  · exact lv_lstore C.1 C.2.1 h1 hl.has (by rw [← hl.2.1]; exact hn) rfl (fun ls' h9 => kk _ ls' h3 (am_lrel_set2 (v := .long x) hl.2.1 hn h9))
  · obtain ⟨k, rfl, hk⟩ := am_nn_eq hn4
    exact lv_lstore_n C.1 C.2.1 h1 hk hl.has (by rw [← hl.2.1]; exact hn) rfl (fun ls' h9 => kk _ ls' h3 (am_lrel_set2 (v := .long x) hl.2.1 hn h9))
theorem go_astore (C : am_ctx E base xa dC dI cA M p R s m args meth cd) {n : Nat} {x : Nat} (hl : am_lrel base xa L ls (am_mL M)) (hn : n < L.length) (hc : am_chk M pc (.astore n :: c) = true) (kk : ∀ len ls', am_chk M (pc + len) c = true → am_lrel base xa (am_set1 L n (.ref x)) ls' (am_mL M) → W p l e R s m args below meth cd H locs cells slots Q (F0 m (pc + len) ls' (S.map (am_mp base xa)))) : W p l e R s m args below meth cd H locs cells slots Q (F0 m pc ls (.ref (base + x) :: S.map (am_mp base xa))) := by
  obtain ⟨j, len, h1, h2, h3⟩ := am_chk_cons (fun t e => by cases e) hc
  simp only [am_ins, Bool.or_eq_true, Bool.and_eq_true, decide_eq_true_eq, beq_iff_eq] at h2
  rcases h2 with ⟨rfl, rfl⟩ | ⟨hn4, rfl⟩
  · exact lv_astore C.1 C.2.1 h1 hl.has (by rw [← hl.2.1]; exact hn) rfl (fun ls' h9 => kk _ ls' h3 (am_lrel_set1 (v := .ref x) hl.2.1 h9))
  · obtain ⟨k, rfl, hk⟩ := am_nn_eq hn4
    exact lv_astore_n C.1 C.2.1 h1 hk hl.has (by rw [← hl.2.1]; exact hn) rfl (fun ls' h9 => kk _ ls' h3 (am_lrel_set1 (v := .ref x) hl.2.1 h9))
theorem go_iinc (C : am_ctx E base xa dC dI cA M p R s m args meth cd) {n : Nat} {v : Int} {x : Int32} (hl : am_lrel base xa L ls (am_mL M)) (hx : L[n]? = some (.int x)) (hc : am_chk M pc (.iinc n v :: c) = true) (kk : ∀ len ls', am_chk M (pc + len) c = true → am_lrel base xa (am_set1 L n (.int (x + Int32.ofInt v))) ls' (am_mL M) → W p l e R s m args below meth cd H locs cells slots Q (F0 m (pc + len) ls' (S.map (am_mp base xa)))) : W p l e R s m args below meth cd H locs cells slots Q (F0 m pc ls (S.map (am_mp base xa))) := by
  obtain ⟨j, len, h1, h2, h3⟩ := am_chk_cons (fun t e => by cases e) hc
  simp only [am_ins, Bool.and_eq_true, decide_eq_true_eq, beq_iff_eq] at h2
  obtain ⟨rfl, rfl⟩ := h2
  have hm : (n, Value.int x) ∈ am_lvs base xa L := am_lvs_mem.mpr ⟨_, hx, (fun e => by cases e), rfl⟩
  obtain ⟨k, hk⟩ := List.getElem?_of_mem hm
  exact lv_iinc C.1 C.2.1 h1 hl.has hk rfl (by rw [← hl.2.1]; exact (List.getElem?_eq_some_iff.mp hx).1) rfl (fun ls' h9 => kk _ ls' h3 (am_lrel_set1 (v := .int (x + Int32.ofInt v)) hl.2.1 h9))
theorem go_goto (C : am_ctx E base xa dC dI cA M p R s m args meth cd) {t : Int} (hc : am_chk M pc (.goto t :: c) = true) (kk : am_chk M t.toNat (am_B M t.toNat) = true → W p l e R s m args below meth cd H locs cells slots Q (F0 m t.toNat ls (S.map (am_mp base xa)))) : W p l e R s m args below meth cd H locs cells slots Q (F0 m pc ls (S.map (am_mp base xa))) := by
  obtain ⟨j, len, h1, h2, h3⟩ := am_chk_cons (fun t e => by cases e) hc
  simp only [am_ins, Bool.and_eq_true, decide_eq_true_eq, beq_iff_eq] at h2
  obtain ⟨⟨rfl, rfl⟩, h4⟩ := h2
  exact lv_goto C.1 C.2.1 h1 (by omega) (kk (am_chkB M _))
theorem go_jsr {t : Int} (hc : am_chk M pc (.jsr t :: c) = true) (kk : am_chk M t.toNat (am_B M t.toNat) = true → W p l e R s m args below meth cd H locs cells slots Q (F0 m t.toNat ls (S.map (am_mp base xa)))) : W p l e R s m args below meth cd H locs cells slots Q (F0 m pc ls (S.map (am_mp base xa))) := by
  have h1 : t = (pc : Int) := by simpa [am_chk] using hc
  have h2 : t.toNat = pc := by omega
  rw [h2] at kk
  exact kk (am_chkB M _)
theorem go_icmp (C : am_ctx E base xa dC dI cA M p R s m args meth cd) {o : Jvm.ClassFile.Cond} {t : Int} {x y : Int32} (hc : am_chk M pc (.if_icmp o t :: c) = true) (kt : am_chk M t.toNat (am_B M t.toNat) = true → am_cond o x y = true → W p l e R s m args below meth cd H locs cells slots Q (F0 m t.toNat ls (S.map (am_mp base xa)))) (kf : am_chk M (pc + 3) c = true → am_cond o x y = false → W p l e R s m args below meth cd H locs cells slots Q (F0 m (pc + 3) ls (S.map (am_mp base xa)))) : W p l e R s m args below meth cd H locs cells slots Q (F0 m pc ls (.int y :: .int x :: S.map (am_mp base xa))) := by
  obtain ⟨j, len, h1, h2, h3⟩ := am_chk_cons (fun t e => by cases e) hc
  simp only [am_ins, Bool.and_eq_true, decide_eq_true_eq, beq_iff_eq] at h2
  obtain ⟨⟨rfl, rfl⟩, h4⟩ := h2
  cases o
  · exact lv_icmp_eq C.1 C.2.1 h1 (by omega) (fun q => kt (am_chkB M _) (decide_eq_true q)) (fun q => kf h3 (decide_eq_false q))
  · exact lv_icmp_ne C.1 C.2.1 h1 (by omega) (fun q => kt (am_chkB M _) (decide_eq_true q)) (fun q => kf h3 (decide_eq_false (fun z => z q)))
  · exact lv_icmp_lt C.1 C.2.1 h1 (by omega) (fun q => kt (am_chkB M _) (decide_eq_true q)) (fun q => kf h3 (decide_eq_false q))
  · exact lv_icmp_ge C.1 C.2.1 h1 (by omega) (fun q => kt (am_chkB M _) (decide_eq_true q)) (fun q => kf h3 (decide_eq_false q))
  · exact lv_icmp_gt C.1 C.2.1 h1 (by omega) (fun q => kt (am_chkB M _) (decide_eq_true q)) (fun q => kf h3 (decide_eq_false q))
  · exact lv_icmp_le C.1 C.2.1 h1 (by omega) (fun q => kt (am_chkB M _) (decide_eq_true q)) (fun q => kf h3 (decide_eq_false q))
theorem go_ifc (C : am_ctx E base xa dC dI cA M p R s m args meth cd) {o : Jvm.ClassFile.Cond} {t : Int} {x : Int32} (hc : am_chk M pc (.ifCond o t :: c) = true) (kt : am_chk M t.toNat (am_B M t.toNat) = true → am_cond o x 0 = true → W p l e R s m args below meth cd H locs cells slots Q (F0 m t.toNat ls (S.map (am_mp base xa)))) (kf : am_chk M (pc + 3) c = true → am_cond o x 0 = false → W p l e R s m args below meth cd H locs cells slots Q (F0 m (pc + 3) ls (S.map (am_mp base xa)))) : W p l e R s m args below meth cd H locs cells slots Q (F0 m pc ls (.int x :: S.map (am_mp base xa))) := by
  obtain ⟨j, len, h1, h2, h3⟩ := am_chk_cons (fun t e => by cases e) hc
  simp only [am_ins, Bool.and_eq_true, decide_eq_true_eq, beq_iff_eq] at h2
  obtain ⟨⟨rfl, rfl⟩, h4⟩ := h2
  cases o
  · exact lv_if_eq C.1 C.2.1 h1 (by omega) (fun q => kt (am_chkB M _) (decide_eq_true q)) (fun q => kf h3 (decide_eq_false q))
  · exact lv_if_ne C.1 C.2.1 h1 (by omega) (fun q => kt (am_chkB M _) (decide_eq_true q)) (fun q => kf h3 (decide_eq_false (fun z => z q)))
  · exact lv_if_lt C.1 C.2.1 h1 (by omega) (fun q => kt (am_chkB M _) (decide_eq_true q)) (fun q => kf h3 (decide_eq_false q))
  · exact lv_if_ge C.1 C.2.1 h1 (by omega) (fun q => kt (am_chkB M _) (decide_eq_true q)) (fun q => kf h3 (decide_eq_false q))
  · exact lv_if_gt C.1 C.2.1 h1 (by omega) (fun q => kt (am_chkB M _) (decide_eq_true q)) (fun q => kf h3 (decide_eq_false q))
  · exact lv_if_le C.1 C.2.1 h1 (by omega) (fun q => kt (am_chkB M _) (decide_eq_true q)) (fun q => kf h3 (decide_eq_false q))
theorem go_tsw (C : am_ctx E base xa dC dI cA M p R s m args meth cd) {d lo hi : Int} {os : Array Int} {x : Int32} (hc : am_chk M pc (.tableswitch d lo hi os :: c) = true) (kk : am_chk M (am_tsw d lo hi os x) (am_B M (am_tsw d lo hi os x)) = true → W p l e R s m args below meth cd H locs cells slots Q (F0 m (am_tsw d lo hi os x) ls (S.map (am_mp base xa)))) : W p l e R s m args below meth cd H locs cells slots Q (F0 m pc ls (.int x :: S.map (am_mp base xa))) := by
  obtain ⟨j, len, h1, h2, h3⟩ := am_chk_cons (fun t e => by cases e) hc
  simp only [am_ins, Bool.and_eq_true, decide_eq_true_eq, beq_iff_eq, List.all_eq_true] at h2
  obtain ⟨⟨⟨rfl, hd⟩, ho⟩, hs⟩ := h2
  have kk := kk (am_chkB M _)
  unfold am_tsw at kk
  by_cases hx : x.toInt < lo ∨ hi < x.toInt
  · rw [if_pos hx] at kk
    exact lv_tableOut C.1 C.2.1 h1 hx (by omega) kk
  · rw [if_neg hx] at kk
    have h5 : (x.toInt - lo).toNat < os.size := by omega
    have h6 : os.toList[(x.toInt - lo).toNat]? = some os[(x.toInt - lo).toNat] := by simp [h5]
    have h7 := ho _ (List.mem_of_getElem? h6)
    rw [h6] at kk
    simp only [Option.getD_some] at kk
    refine lv_tableIn (off := os[(x.toInt - lo).toNat] - pc) C.1 C.2.1 h1 (fun q => hx (Or.inl q)) (fun q => hx (Or.inr q)) (by simp [h5]) (by omega) kk
theorem am_lsw_off (pc : Int) (d : Int) (x : Int) (ps : List (Int × Int)) : Jvm.Op.lookupswitch.offset (ps.map (fun q => (q.1, q.2 - pc))) (d - pc) x = ((ps.find? (fun q => q.1 == x)).map (fun q => q.2)).getD d - pc := by
  induction ps with
  | nil => simp [Jvm.Op.lookupswitch.offset]
  | cons q ps ih =>
    by_cases hq : q.1 = x
    · simp [Jvm.Op.lookupswitch.offset, List.find?_cons, hq]
    · have hq' : (q.1 == x) = false := by simpa using hq
      simp only [List.map_cons, Jvm.Op.lookupswitch.offset, List.find?_cons, hq', hq, if_false]
      simpa using ih
theorem go_lsw (C : am_ctx E base xa dC dI cA M p R s m args meth cd) {d : Int} {ps : Array (Int × Int)} {x : Int32} (hc : am_chk M pc (.lookupswitch d ps :: c) = true) (kk : am_chk M (am_lsw d ps x) (am_B M (am_lsw d ps x)) = true → W p l e R s m args below meth cd H locs cells slots Q (F0 m (am_lsw d ps x) ls (S.map (am_mp base xa)))) : W p l e R s m args below meth cd H locs cells slots Q (F0 m pc ls (.int x :: S.map (am_mp base xa))) := by
  obtain ⟨j, len, h1, h2, h3⟩ := am_chk_cons (fun t e => by cases e) hc
  simp only [am_ins, Bool.and_eq_true, decide_eq_true_eq, beq_iff_eq] at h2
  obtain ⟨⟨⟨rfl, hd⟩, ho⟩, hs⟩ := h2
  have kk := kk (am_chkB M _)
  have h7 : 0 ≤ ((ps.toList.find? (fun q => q.1 == x.toInt)).map (fun q => q.2)).getD d := by
    cases hf : ps.toList.find? (fun q => q.1 == x.toInt) with
    | none => exact hd
    | some q => exact of_decide_eq_true (List.all_eq_true.mp ho q (List.mem_of_find?_eq_some hf))
  have h8 := am_lsw_off (pc : Int) d x.toInt ps.toList
  refine lv_lookup C.1 C.2.1 h1 hs rfl ?_ kk
  rw [Array.toList_map, h8]
  unfold am_lsw
  omega
end Snd
end
section
/-! STEPS THAT TOUCH THE HEAP -/
theorem am_fv_mp (base : Nat) (xa : Nat → Nat) (h : aH) (c k i : Nat) : am_mp base id (am_fv h c k i) = am_mp base xa (am_fv h c k i) := by
  unfold am_fv
  cases am_ty c i <;> first | rfl | (cases h.2.1 k i <;> rfl)
theorem am_obj_eq {h : aH} {k c : Nat} (ho : am_obj h k c = true) : h.1[k]? = some (.inl c) := by
  unfold am_obj at ho
  split at ho
  · rename_i d hd
    rw [hd, eq_of_beq ho]
  · cases ho
theorem am_obj_wl {base : Nat} {cA : Nat → ClassId} {h : aH} {k c : Nat} (ho : am_obj h k c = true) : (am_wl base cA h)[k]? = some (base + k, .inr (c, am_fsv base h c k)) := by
  have h1 := am_obj_eq ho
  rw [am_wl_get (List.getElem?_eq_some_iff.mp h1).1]
  unfold am_cell
  rw [h1]
theorem am_inB_in {i : Int32} {n : Nat} (h : am_inB i n = true) : vp_in i n := by
  simp only [am_inB, Bool.not_eq_true', Bool.or_eq_false_iff, decide_eq_false_iff_not] at h
  exact fun q => q.elim h.1 h.2
theorem am_row_eq {h : aH} {k t : Nat} {i : Int32} (hr : am_row h k t i = true) : ∃ n, h.1[k]? = some (.inr (t, n)) ∧ vp_in i n := by
  unfold am_row at hr
  split at hr
  · rename_i u n hd
    rw [Bool.and_eq_true] at hr
    have := eq_of_beq hr.1
    subst this
    exact ⟨n, hd, am_inB_in hr.2⟩
  · cases hr
theorem am_rowR_eq {h : aH} {k : Nat} {i : Int32} (hr : am_rowR h k i = true) : ∃ t n, h.1[k]? = some (.inr (t, n)) ∧ vp_in i n ∧ 3 ≤ t ∧ t < 7 := by
  unfold am_rowR at hr
  split at hr
  · rename_i u n hd
    simp only [Bool.and_eq_true, decide_eq_true_eq] at hr
    exact ⟨u, n, hd, am_inB_in hr.2, hr.1.1, hr.1.2⟩
  · cases hr
theorem am_arr_wl {base : Nat} {cA : Nat → ClassId} {h : aH} {k t n : Nat} (h1 : h.1[k]? = some (.inr (t, n))) : (am_wl base cA h)[k]? = some (base + k, .inl (cA t, am_va base h t n k)) := by
  rw [am_wl_get (List.getElem?_eq_some_iff.mp h1).1]
  unfold am_cell
  rw [h1]
theorem am_cell_congr {base : Nat} {cA : Nat → ClassId} {h h' : aH} {j : Nat} (h1 : h'.1 = h.1) (h2 : h'.2.1 j = h.2.1 j) (h3 : h'.2.2.1 j = h.2.2.1 j) (h4 : h'.2.2.2 j = h.2.2.2 j) : am_cell base cA h' j = am_cell base cA h j := by
  unfold am_cell
  have e5 : ∀ c i, am_fv h' c j i = am_fv h c j i := fun c i => by unfold am_fv; rw [h2, h3, h4]
  have e6 : ∀ c, am_fsv base h' c j = am_fsv base h c j := fun c => by unfold am_fsv; simp only [e5]
  have e7 : ∀ t n, am_va base h' t n j = am_va base h t n j := fun t n => by unfold am_va; rw [h2, h3, h4]
  rw [h1]
  simp only [e6, e7]
theorem am_up_ne {α : Type} {f : Nat → Nat → α} {k i j : Nat} {v : α} (hj : j ≠ k) : am_up f k i v j = f j := by unfold am_up; rw [if_neg hj]
theorem am_up_eq {α : Type} {f : Nat → Nat → α} {k i : Nat} {v : α} : am_up f k i v k = fun b => if b = i then v else f k b := by unfold am_up; rw [if_pos rfl]
theorem am_pf_lay {h h' : aH} {c k i : Nat} {v : Value} (hp : am_pf h c k i v = some h') : h'.1 = h.1 := by
  unfold am_pf at hp
  split at hp <;> first | (cases hp; rfl) | cases hp | (split at hp <;> first | (cases hp; rfl) | cases hp)
theorem am_pf_ne {base : Nat} {cA : Nat → ClassId} {h h' : aH} {c k i : Nat} {v : Value} (hp : am_pf h c k i v = some h') {j : Nat} (hj : j ≠ k) : am_cell base cA h' j = am_cell base cA h j := by
  refine am_cell_congr (am_pf_lay hp) ?_ ?_ ?_ <;>
  · unfold am_pf at hp
    split at hp <;> first | (cases hp; simp [am_up_ne hj]) | (split at hp <;> first | (cases hp; simp [am_up_ne hj]) | cases hp) | cases hp
theorem am_pf_fv {base : Nat} {xa : Nat → Nat} {h h' : aH} {c k i : Nat} {v : Value} (hp : am_pf h c k i v = some h') (j : Nat) : am_mp base id (am_fv h' c k j) = if j = i then am_mp base xa v else am_mp base id (am_fv h c k j) := by
  by_cases hj : j = i
  · subst hj
    rw [if_pos rfl]
    unfold am_pf at hp
    unfold am_fv
    split at hp
    all_goals first
      | (rename_i ht _ _; cases hp; rw [ht]; simp [am_up_eq, am_mp, va_rf]; done)
      | (rename_i ht _; cases hp; rw [ht]; simp [am_up_eq, am_mp, va_rf]; done)
      | (rename_i ht; cases hp; rw [ht]; simp [am_up_eq, am_mp, va_rf]; done)
      | (split at hp <;> first | (cases hp; simp [am_up_eq, am_mp, va_rf, *]; done) | cases hp)
      | cases hp
  · rw [if_neg hj]
    have e1 : h'.2.1 k j = h.2.1 k j ∧ h'.2.2.1 k j = h.2.2.1 k j ∧ h'.2.2.2 k j = h.2.2.2 k j := by
      unfold am_pf at hp
      split at hp <;> first | (cases hp; simp [am_up_eq, hj]; done) | (split at hp <;> first | (cases hp; simp [am_up_eq, hj]; done) | cases hp) | cases hp
    unfold am_fv
    rw [e1.1, e1.2.1, e1.2.2]
theorem am_pf_cell {base : Nat} {xa : Nat → Nat} {cA : Nat → ClassId} {h h' : aH} {c k i : Nat} {v : Value} (ho : am_obj h k c = true) (hp : am_pf h c k i v = some h') : am_cell base cA h' k = .inr (c, (am_fsv base h c k).set i (am_mp base xa v)) := by
  unfold am_cell
  rw [am_pf_lay hp, am_obj_eq ho]
  show (Sum.inr (c, am_fsv base h' c k) : va_E) = _
  congr 2
  apply List.ext_getElem?
  intro j
  unfold am_fsv
  rw [List.getElem?_set]
  by_cases hj : i = j
  · subst hj
    by_cases hn : i < am_N c
    · simp [hn, am_pf_fv (xa := xa) hp]
    · simp [hn]
  · rw [if_neg hj]
    by_cases hn : j < am_N c
    · simp [hn, am_pf_fv (xa := xa) hp, Ne.symm hj]
    · simp [hn]
theorem am_catsum {base : Nat} {xa : Nat → Nat} {S : List Value} (h : S.length ≤ 4) : ((S.map (am_mp base xa)).map (fun v => v.category)).sum ≤ 8 := by
  have hg : ∀ l : List Value, (l.map (fun v => v.category)).sum ≤ 2 * l.length := by
    intro l
    induction l with
    | nil => simp
    | cons v l ih =>
      have : v.category ≤ 2 := by cases v <;> simp [Value.category]
      simp only [List.map_cons, List.sum_cons, List.length_cons]
      omega
  have := hg (S.map (am_mp base xa))
  rw [List.length_map] at this
  omega
theorem am_pf_fit {base : Nat} {xa : Nat → Nat} {h h' : aH} {c k i : Nat} {v : Value} (hp : am_pf h c k i v = some h') : narrow (am_ty c i) (am_mp base xa v) = am_mp base xa v ∧ fits (am_ty c i) (am_mp base xa v) = true := by
  unfold am_pf at hp
  split at hp
  · rename_i ht; rw [ht]; exact ⟨rfl, rfl⟩
  · rename_i ht; rw [ht]
    split at hp
    · rename_i hy
      rcases hy with rfl | rfl <;> exact ⟨rfl, rfl⟩
    · cases hp
  · rename_i ht; rw [ht]; exact ⟨rfl, rfl⟩
  · rename_i ht; rw [ht]; exact ⟨rfl, rfl⟩
  · rename_i ht; rw [ht]; exact ⟨rfl, rfl⟩
  · cases hp

section SndP
variable {p : Program} {l : Launch} {e : Env} {R : Room} {s : State} {m : MethodId} {args : Array Value} {below : List Frame} {meth : Method} {c : Code} {H H0 : Heap} {locs : List Loc} {cells slots : Nat} {Q : State → Prop}
variable {cc : ByteArray} {pc : Nat} {ls : Array Slot} {rest : List Value} {D : va_G} {cl : List vw_C} {tys : List (ClassId × FieldType)} {ws : va_W} {A : Nat → Prop} {a : Nat}
theorem am_put (hexec : p.tables.exec = Jvm.exec) (hb : c.code = cc) {own ref C : String} {T : u_T} {N ci index : Nat} {Ts : List Jvm.Cond} (hts : ∀ w ∈ Ts, w.before args s = true) (hin : ∀ w ∈ u_ws C T N, w ∈ Ts) (ty0 : Nat → FieldType) (hty : ∀ k, k < N → parseFieldDescriptor (T k).2.2.1 = some (ty0 k)) (hnm : ∀ a, a < N → ∀ b, b < N → a ≠ b → (T a).2.1 ≠ (T b).2.1) (hown : s.vm.findClass own = some m.cls) (hK : va_K D cl tys s) (hP : va_P D cl ws H) (hD : va_D A ws) (hS0 : va_S A H0 H locs) (q0 : Nat) {fs : List Value} (he : ws[q0]? = some (a, .inr (ci, fs))) (hc : cl[ci]? = some (C, T, N)) (k : Nat) (hk : k < N) (hlink : (Jvm.Cond.fieldLink own index ref (T k).2.1 (T k).2.2.1).before args s = true) (hsame : ∀ x, s.fieldFound? (T k).1 (T k).2.1 (T k).2.2.1 = some x → s.fieldFound? ref (T k).2.1 (T k).2.2.1 = some x) (hfin : (T k).2.2.2 = false) {ty : FieldType} {v : Value} (hd : parseFieldDescriptor (T k).2.2.1 = some ty) (hn : narrow ty v = v) (hfit : fits ty v = true) (hl : k < fs.length)
    (hdg : decode cc pc = .ok (.putfield index, 3)) (kk : ∀ (H1 : Heap) (locs1 : List Loc), va_P D cl (ws.set q0 (a, .inr (ci, fs.set k v))) H1 → va_D A (ws.set q0 (a, .inr (ci, fs.set k v))) → va_S A H0 H1 locs1 → H1.size = H.size → W p l e R s m args below meth c H1 locs1 cells slots Q (F0 m (pc + 3) ls rest)) : W p l e R s m args below meth c H locs cells slots Q (F0 m pc ls (v :: .ref a :: rest)) := by
  have hap := va_apart (own := own) hts hin ty0 hty hnm hK hc
  obtain ⟨r, h1, cell, q1, q2, q3, q4⟩ := hP q0 _ he
  have hr : r = (C, T, N) := Option.some.inj (h1.symm.trans hc)
  subst hr
  obtain ⟨hS, hfc, kC, hkC, hkind⟩ := hK.1 ci _ hc
  obtain ⟨cf, kf, fi, f, hi, hsl⟩ := hS k hk
  have hlay := hts _ (hin _ (u_in_lay hk))
  unfold u_lay at hlay
  rw [if_neg (by rw [hfin]; decide)] at hlay
  have hst := (u_facts hfc hkC (u_lays hts hin hk) hi).1
  have h6 := u_store hfc hkC hkind hlay hi hd hn hfit
  refine W.putK hexec hb (f := f) ⟨hown, hlink, ⟨_, _, _, hsame _ hi⟩, hst⟩ (by rw [q2]; exact h6) q1 q3 (by rw [hsl]; exact k2_hasslot (q4 k hk)) rfl rfl hdg fun H' e1 e2 e3 => ?_
  rw [hsl] at e1 ⊢
  exact kk H' _ (hP.set hD he ⟨_, hc, t_OB.to (V := updV (vp_V fs) k v) ⟨_, e1, q2, q3, t_set q4 hap hk v⟩ (fun j _ => vp_updV_set hl v j)⟩ e3) (hD.set he) (hS0.put e2 e3 (hD.2 q0 _ he)) e2
theorem am_putF (hexec : p.tables.exec = Jvm.exec) (hb : c.code = cc) {own ref C : String} {T : u_T} {N ci index : Nat} {Ts : List Jvm.Cond} (hts : ∀ w ∈ Ts, w.before args s = true) (hin : ∀ w ∈ u_ws C T N, w ∈ Ts) (ty0 : Nat → FieldType) (hty : ∀ k, k < N → parseFieldDescriptor (T k).2.2.1 = some (ty0 k)) (hnm : ∀ a, a < N → ∀ b, b < N → a ≠ b → (T a).2.1 ≠ (T b).2.1) (hown : s.vm.findClass own = some m.cls) (hK : va_K D cl tys s) (hP : va_P D cl ws H) (hD : va_D A ws) (hS0 : va_S A H0 H locs) (q0 : Nat) {fs : List Value} (he : ws[q0]? = some (a, .inr (ci, fs))) (hc : cl[ci]? = some (C, T, N)) (k : Nat) (hk : k < N) (hlink : (Jvm.Cond.fieldLink own index ref (T k).2.1 (T k).2.2.1).before args s = true) (hsame : ∀ x, s.fieldFound? (T k).1 (T k).2.1 (T k).2.2.1 = some x → s.fieldFound? ref (T k).2.1 (T k).2.2.1 = some x) (hin2 : meth.name = "<init>") (hdecl : (T k).1 = own) (hfin : (T k).2.2.2 = true) {ty : FieldType} {v : Value} (hd : parseFieldDescriptor (T k).2.2.1 = some ty) (hn : narrow ty v = v) (hfit : fits ty v = true) (hl : k < fs.length)
    (hdg : decode cc pc = .ok (.putfield index, 3)) (kk : ∀ (H1 : Heap) (locs1 : List Loc), va_P D cl (ws.set q0 (a, .inr (ci, fs.set k v))) H1 → va_D A (ws.set q0 (a, .inr (ci, fs.set k v))) → va_S A H0 H1 locs1 → H1.size = H.size → W p l e R s m args below meth c H1 locs1 cells slots Q (F0 m (pc + 3) ls rest)) : W p l e R s m args below meth c H locs cells slots Q (F0 m pc ls (v :: .ref a :: rest)) := by
  have hap := va_apart (own := own) hts hin ty0 hty hnm hK hc
  obtain ⟨r, h1, cell, q1, q2, q3, q4⟩ := hP q0 _ he
  have hr : r = (C, T, N) := Option.some.inj (h1.symm.trans hc)
  subst hr
  obtain ⟨hS, hfc, kC, hkC, hkind⟩ := hK.1 ci _ hc
  obtain ⟨cf, kf, fi, f, hi, hsl⟩ := hS k hk
  have hlay := hts _ (hin _ (u_in_lay hk))
  unfold u_lay at hlay
  rw [if_pos hfin] at hlay
  have hst := (u_facts hfc hkC (u_lays hts hin hk) hi).1
  have hcf : m.cls = cf := by
    obtain ⟨_, _, c', _, _, _, -, -, hf', -, -, -, hown2, -⟩ := Cond.laysFinal_spec hlay
    have e1 : c' = cf := by have := hi.symm.trans hf'; simp at this; exact this.1.symm
    rw [hdecl] at hown2
    rw [← e1]; exact Option.some.inj (hown.symm.trans hown2)
  have h6 := u_fits hfc hkC hkind (Or.inr hlay) hi hd hn hfit
  refine W.putFinK hexec hb hown hlink (hsame _ hi) hst hcf hin2 (by rw [q2]; exact h6) q1 q3 (by rw [hsl]; exact k2_hasslot (q4 k hk)) rfl rfl hdg fun H' e1 e2 e3 => ?_
  rw [hsl] at e1 ⊢
  exact kk H' _ (hP.set hD he ⟨_, hc, t_OB.to (V := updV (vp_V fs) k v) ⟨_, e1, q2, q3, t_set q4 hap hk v⟩ (fun j _ => vp_updV_set hl v j)⟩ e3) (hD.set he) (hS0.put e2 e3 (hD.2 q0 _ he)) e2
end SndP

section SndA
variable {p : Program} {l : Launch} {e : Env} {R : Room} {s : State} {m : MethodId} {args : Array Value} {below : List Frame} {meth : Method} {c : Code} {H H0 : Heap} {locs : List Loc} {cells slots : Nat} {Q : State → Prop}
variable {cc : ByteArray} {pc : Nat} {ls : Array Slot} {rest : List Value} {D : va_G} {cl : List vw_C} {tys : List (ClassId × FieldType)} {ws : va_W} {A : Nat → Prop} {a : Nat}

theorem am_iast (hexec : p.tables.exec = Jvm.exec) (hb : c.code = cc) (hK : va_K D cl tys s) (hP : va_P D cl ws H) (hD : va_D A ws) (hS : va_S A H0 H locs) (q0 t0 : Nat) {cA : ClassId} {n : Nat} {f : Nat → Int32} (ha : ws[q0]? = some (a, .inl (cA, n, .inl (f)))) (ht : tys[t0]? = some (cA, .int)) {i : Int32} {x : Int32} (hin : vp_in i n) (hdg : decode cc pc = .ok (.iastore, 1))
    (kk : ∀ (H1 : Heap) (locs1 : List Loc), va_P D cl (ws.set q0 (a, .inl (cA, n, .inl (upd f i.toNatClampNeg x)))) H1 → va_S A H0 H1 locs1 → H1.size = H.size → W p l e R s m args below meth c H1 locs1 cells slots Q (F0 m (pc + 1) ls rest)) : W p l e R s m args below meth c H locs cells slots Q (F0 m pc ls (.int x :: .int i :: .ref a :: rest)) := by
  refine W.iast hexec hb (hP q0 _ ha) ((hK.2 t0 _ ht).1 n (fun j => .int (f j))) (fun q => by cases q) (by show ¬ (i < 0 ∨ (arrV _ _ _).slots.size ≤ _); rw [arrV_size]; exact hin) rfl rfl hdg fun H1 e z oq => ?_
  refine kk H1 _ (hP.set hD ha ?_ oq) (hS.put z oq (hD.2 q0 _ ha)) z
  show H1[a]? = some (vp_cell _ _)
  rw [e]
  rw [vp_cell_i, vp_cell_i, arrV_store]
  congr 2
  funext q
  by_cases hq : q = i.toNatClampNeg
  · subst hq
    simp [updV, upd]
    try rfl
  · simp [updV, upd, hq]

theorem am_zast (hexec : p.tables.exec = Jvm.exec) (hb : c.code = cc) (hK : va_K D cl tys s) (hP : va_P D cl ws H) (hD : va_D A ws) (hS : va_S A H0 H locs) (q0 t0 : Nat) {cA : ClassId} {n : Nat} {f : Nat → Int32} (ha : ws[q0]? = some (a, .inl (cA, n, .inl (f)))) (ht : tys[t0]? = some (cA, .boolean)) {i : Int32} {x : Int32} (hin : vp_in i n) (hdg : decode cc pc = .ok (.bastore, 1))
    (kk : ∀ (H1 : Heap) (locs1 : List Loc), va_P D cl (ws.set q0 (a, .inl (cA, n, .inl (upd f i.toNatClampNeg (vp_nar .boolean x))))) H1 → va_S A H0 H1 locs1 → H1.size = H.size → W p l e R s m args below meth c H1 locs1 cells slots Q (F0 m (pc + 1) ls rest)) : W p l e R s m args below meth c H locs cells slots Q (F0 m pc ls (.int x :: .int i :: .ref a :: rest)) := by
  refine W.zast hexec hb (hP q0 _ ha) ((hK.2 t0 _ ht).1 n (fun j => .int (f j))) (fun q => by cases q) (by show ¬ (i < 0 ∨ (arrV _ _ _).slots.size ≤ _); rw [arrV_size]; exact hin) rfl rfl hdg fun H1 e z oq => ?_
  refine kk H1 _ (hP.set hD ha ?_ oq) (hS.put z oq (hD.2 q0 _ ha)) z
  show H1[a]? = some (vp_cell _ _)
  rw [e]
  rw [vp_cell_i, vp_cell_i, arrV_store]
  congr 2
  funext q
  by_cases hq : q = i.toNatClampNeg
  · subst hq
    simp [updV, upd, vp_nar]
    try rfl
  · simp [updV, upd, vp_nar, hq]

theorem am_last (hexec : p.tables.exec = Jvm.exec) (hb : c.code = cc) (hK : va_K D cl tys s) (hP : va_P D cl ws H) (hD : va_D A ws) (hS : va_S A H0 H locs) (q0 t0 : Nat) {cA : ClassId} {n : Nat} {f : Nat → Int64} (ha : ws[q0]? = some (a, .inl (cA, n, .inr (.inl (f))))) (ht : tys[t0]? = some (cA, .long)) {i : Int32} {x : Int64} (hin : vp_in i n) (hdg : decode cc pc = .ok (.lastore, 1))
    (kk : ∀ (H1 : Heap) (locs1 : List Loc), va_P D cl (ws.set q0 (a, .inl (cA, n, .inr (.inl (vp_updL f i.toNatClampNeg x))))) H1 → va_S A H0 H1 locs1 → H1.size = H.size → W p l e R s m args below meth c H1 locs1 cells slots Q (F0 m (pc + 1) ls rest)) : W p l e R s m args below meth c H locs cells slots Q (F0 m pc ls (.long x :: .int i :: .ref a :: rest)) := by
  refine W.last hexec hb (hP q0 _ ha) ((hK.2 t0 _ ht).1 n (fun j => .long (f j))) (fun q => by cases q) (by show ¬ (i < 0 ∨ (arrV _ _ _).slots.size ≤ _); rw [arrV_size]; exact hin) rfl rfl hdg fun H1 e z oq => ?_
  refine kk H1 _ (hP.set hD ha ?_ oq) (hS.put z oq (hD.2 q0 _ ha)) z
  show H1[a]? = some (vp_cell _ _)
  rw [e]
  rw [vp_cell_l, vp_cell_l, arrV_store]
  congr 2
  funext q
  by_cases hq : q = i.toNatClampNeg
  · subst hq
    simp [updV, vp_updL]
    try rfl
  · simp [updV, vp_updL, hq]

theorem am_astq (hexec : p.tables.exec = Jvm.exec) (hb : c.code = cc) (hK : va_K D cl tys s) (hP : va_P D cl ws H) (hD : va_D A ws) (hS : va_S A H0 H locs) (q0 t0 qk ci : Nat) {cA : ClassId} {r : vw_C} {n v : Nat} {vs : List Value} {f : Nat → Option Nat} (ha : ws[q0]? = some (a, .inl (cA, n, .inr (.inr (.inr (.inr f)))))) (ht : tys[t0]? = some (cA, .object r.1)) (hv : ws[qk]? = some (v, .inr (ci, vs))) (hc : cl[ci]? = some r) {i : Int32} (hin : vp_in i n) (hdg : decode cc pc = .ok (.aastore, 1))
    (kk : ∀ (H1 : Heap) (locs1 : List Loc), va_P D cl (ws.set q0 (a, .inl (cA, n, .inr (.inr (.inr (.inr (va_up f i.toNatClampNeg (some v)))))))) H1 → va_S A H0 H1 locs1 → H1.size = H.size → W p l e R s m args below meth c H1 locs1 cells slots Q (F0 m (pc + 1) ls rest)) : W p l e R s m args below meth c H locs cells slots Q (F0 m pc ls (.ref v :: .int i :: .ref a :: rest)) := by
  have hlt : i.toNatClampNeg < n := Nat.not_le.mp fun q => hin (Or.inr q)
  have h0 : ¬ i < 0 := fun q => hin (Or.inl q)
  obtain ⟨r', hr', cellV, g1, g2, g3, -⟩ := hP qk _ hv
  have hcls := (hK.1 ci r hc).2
  obtain ⟨kA, comp, k1, k2, k3, -⟩ := (hK.2 t0 _ ht).2
  have hcomp : comp = D.1 ci := Option.some.inj (k3.symm.trans hcls.1)
  subst hcomp
  obtain ⟨kC, hkC, -⟩ := hcls.2
  refine W.aast hexec hb (hP q0 _ ha) (fun q h => by cases h) (fun h => by cases h) k1 k2 rfl hkC ⟨h0, by show _ < (arrV _ _ _).slots.size; rw [arrV_size]; exact hlt⟩ g1 (fun q h => by rw [g3] at h; cases h) (by rw [g2]; exact hkC) (by rw [g2]; exact va_assign hcls) rfl rfl hdg fun H1 e z oq => ?_
  refine kk H1 _ (hP.set hD ha ?_ oq) (hS.put z oq (hD.2 q0 _ ha)) z
  show H1[a]? = some (vp_cell _ _)
  rw [e]
  rw [vp_cell_q, vp_cell_q, arrV_store]
  congr 2
  funext q
  by_cases hq : q = i.toNatClampNeg
  · subst hq
    simp [updV, va_up, va_rf]
  · simp [updV, va_up, hq]
end SndA

section SndH
variable {E : aE} {base : Nat} {xa : Nat → Nat} {dC : Nat → ClassId} {dI : Nat → Nat → Nat} {cA : Nat → ClassId}
variable {p : Program} {l : Launch} {e : Env} {R : Room} {s : State} {m : MethodId} {args : Array Value} {below : List Frame} {meth : Method} {cd : Code} {H : Heap} {locs : List Loc} {cells slots : Nat} {Q : State → Prop}
variable {M pc : Nat} {ls : Array Slot} {c : List Instr} {L S : List Value} {h h' : aH}

theorem go_getf (C : am_ctx E base xa dC dI cA M p R s m args meth cd) (P : am_hp base dC dI cA s h H locs) {x k : Nat} (ho : am_obj h k (x / 64) = true) (hc : am_chk M pc (.getfield x :: c) = true) (kk : am_chk M (pc + 3) c = true → W p l e R s m args below meth cd H locs cells slots Q (F0 m (pc + 3) ls (am_mp base xa (am_fv h (x / 64) k (x % 64)) :: S.map (am_mp base xa)))) : W p l e R s m args below meth cd H locs cells slots Q (F0 m pc ls (.ref (base + k) :: S.map (am_mp base xa))) := by
  obtain ⟨j, len, h1, h2, h3⟩ := am_chk_cons (fun t e => by cases e) hc
  simp only [am_ins, Bool.and_eq_true, decide_eq_true_eq, beq_iff_eq, List.any_eq_true] at h2
  obtain ⟨⟨⟨rfl, hc1⟩, hi⟩, q, hq, ⟨hq1, rfl⟩, hq2⟩ := h2
  have hw := C.2.2.2.2.1 _ (am_wd_in (List.all_eq_true.mp am_F_ok q hq))
  unfold am_fw at hw
  rw [hq1, hq2] at hw
  have kk := kk h3
  rw [← am_fv_mp] at kk
  exact va_get (D := (dC, dI)) (C := am_cls (x / 64)) (T := am_Tx (x / 64)) (N := am_N (x / 64)) C.1 C.2.1 C.2.2.2.2.1 (am_wx_ok _ hc1) C.2.2.2.1 C.2.2.2.2.2.2.2.1.1 P.1 k (am_obj_wl ho) (am_vwCl hc1) (x % 64) hi hw (fun _ h9 => h9) (by simp [am_fsv, hi]) h1 kk
theorem go_putf (C : am_ctx E base xa dC dI cA M p R s m args meth cd) (P : am_hp base dC dI cA s h H locs) {x k : Nat} {v : Value} (ho : am_obj h k (x / 64) = true) (hp : am_pf h (x / 64) k (x % 64) v = some h') (hc : am_chk M pc (.putfield x :: c) = true) (kk : ∀ H' locs', am_chk M (pc + 3) c = true → am_hp base dC dI cA s h' H' locs' → W p l e R s m args below meth cd H' locs' cells slots Q (F0 m (pc + 3) ls (S.map (am_mp base xa)))) : W p l e R s m args below meth cd H locs cells slots Q (F0 m pc ls (am_mp base xa v :: .ref (base + k) :: S.map (am_mp base xa))) := by
  obtain ⟨j, len, h1, h2, h3⟩ := am_chk_cons (fun t e => by cases e) hc
  simp only [am_ins, Bool.and_eq_true, Bool.or_eq_true, decide_eq_true_eq, beq_iff_eq, List.any_eq_true] at h2
  obtain ⟨⟨⟨⟨rfl, hc1⟩, hi⟩, q, hq, ⟨hq1, rfl⟩, hq2⟩, hfin⟩ := h2
  have hw := C.2.2.2.2.1 _ (am_wd_in (List.all_eq_true.mp am_F_ok q hq))
  unfold am_fw at hw
  rw [hq1, hq2] at hw
  have hset : (am_wl base cA h).set k (base + k, .inr (x / 64, (am_fsv base h (x / 64) k).set (x % 64) (am_mp base xa v))) = am_wl base cA h' := by
    rw [← am_pf_cell (xa := xa) ho hp]
    exact am_wl_set (am_pf_lay hp) (fun j hj => am_pf_ne hp hj)
  have hfit := am_pf_fit (base := base) (xa := xa) hp
  have fin : ∀ (H1 : Heap) (locs1 : List Loc), va_P (dC, dI) vwCl ((am_wl base cA h).set k (base + k, .inr (x / 64, (am_fsv base h (x / 64) k).set (x % 64) (am_mp base xa v)))) H1 → va_S (fun q => base ≤ q) s.heap H1 locs1 → H1.size = H.size → am_hp base dC dI cA s h' H1 locs1 := by
    intro H1 locs1 g1 g2 g3
    rw [hset] at g1
    exact ⟨g1, by rw [g3, P.2.1, am_pf_lay hp], g2⟩
  by_cases hff : (am_Tx (x / 64) (x % 64)).2.2.2 = false
  · exact am_put (D := (dC, dI)) (C := am_cls (x / 64)) (T := am_Tx (x / 64)) (N := am_N (x / 64)) C.1 C.2.1 C.2.2.2.2.1 (am_wx_ok _ hc1) (am_ty (x / 64)) (am_ty_ok _ hc1) (am_nm_ok _ hc1) C.2.2.2.1 C.2.2.2.2.2.2.2.1.1 P.1 (am_wl_D base cA h) P.2.2 k (am_obj_wl ho) (am_vwCl hc1) (x % 64) hi hw (fun _ h9 => h9) hff (am_ty_ok _ hc1 _ hi) hfit.1 hfit.2 (by simp [am_fsv, hi]) h1 (fun H1 locs1 g1 g2 g3 g4 => kk H1 locs1 h3 (fin H1 locs1 g1 g3 g4))
  · obtain ⟨hfi1, hfi2⟩ := hfin.resolve_left hff
    exact am_putF (D := (dC, dI)) (C := am_cls (x / 64)) (T := am_Tx (x / 64)) (N := am_N (x / 64)) C.1 C.2.1 C.2.2.2.2.1 (am_wx_ok _ hc1) (am_ty (x / 64)) (am_ty_ok _ hc1) (am_nm_ok _ hc1) C.2.2.2.1 C.2.2.2.2.2.2.2.1.1 P.1 (am_wl_D base cA h) P.2.2 k (am_obj_wl ho) (am_vwCl hc1) (x % 64) hi hw (fun _ h9 => h9) (C.2.2.2.2.2.2.2.2 hfi1) hfi2 (by simpa using hff) (am_ty_ok _ hc1 _ hi) hfit.1 hfit.2 (by simp [am_fsv, hi]) h1 (fun H1 locs1 g1 g2 g3 g4 => kk H1 locs1 h3 (fin H1 locs1 g1 g3 g4))
theorem am_tyK (C : am_ctx E base xa dC dI cA M p R s m args meth cd) {t : Nat} (ht : t < 7) : (am_tys cA)[t]? = some (cA t, am_et t) := am_tys_get ht
theorem go_iaload (C : am_ctx E base xa dC dI cA M p R s m args meth cd) (P : am_hp base dC dI cA s h H locs) {k : Nat} {i : Int32} (hr : am_row h k 0 i = true) (hc : am_chk M pc (.iaload :: c) = true) (kk : am_chk M (pc + 1) c = true → W p l e R s m args below meth cd H locs cells slots Q (F0 m (pc + 1) ls (.int (h.2.2.1 k i.toNatClampNeg) :: S.map (am_mp base xa)))) : W p l e R s m args below meth cd H locs cells slots Q (F0 m pc ls (.int i :: .ref (base + k) :: S.map (am_mp base xa))) := by
  obtain ⟨n, h1, h2⟩ := am_row_eq hr
  exact va_iald C.1 C.2.1 C.2.2.2.2.2.2.2.1.1 P.1 k 0 (am_arr_wl h1) (am_tys_get (by decide)) h2 (in_iaload hc).1 (kk (in_iaload hc).2)
theorem go_baload (C : am_ctx E base xa dC dI cA M p R s m args meth cd) (P : am_hp base dC dI cA s h H locs) {k : Nat} {i : Int32} (hr : am_row h k 1 i = true) (hc : am_chk M pc (.baload :: c) = true) (kk : am_chk M (pc + 1) c = true → W p l e R s m args below meth cd H locs cells slots Q (F0 m (pc + 1) ls (.int (h.2.2.1 k i.toNatClampNeg) :: S.map (am_mp base xa)))) : W p l e R s m args below meth cd H locs cells slots Q (F0 m pc ls (.int i :: .ref (base + k) :: S.map (am_mp base xa))) := by
  obtain ⟨n, h1, h2⟩ := am_row_eq hr
  exact va_zald C.1 C.2.1 C.2.2.2.2.2.2.2.1.1 P.1 k 1 (am_arr_wl h1) (am_tys_get (by decide)) h2 (in_baload hc).1 (kk (in_baload hc).2)
theorem go_laload (C : am_ctx E base xa dC dI cA M p R s m args meth cd) (P : am_hp base dC dI cA s h H locs) {k : Nat} {i : Int32} (hr : am_row h k 2 i = true) (hc : am_chk M pc (.laload :: c) = true) (kk : am_chk M (pc + 1) c = true → W p l e R s m args below meth cd H locs cells slots Q (F0 m (pc + 1) ls (.long (h.2.2.2 k i.toNatClampNeg) :: S.map (am_mp base xa)))) : W p l e R s m args below meth cd H locs cells slots Q (F0 m pc ls (.int i :: .ref (base + k) :: S.map (am_mp base xa))) := by
  obtain ⟨n, h1, h2⟩ := am_row_eq hr
  exact va_lald C.1 C.2.1 C.2.2.2.2.2.2.2.1.1 P.1 k 2 (am_arr_wl h1) (am_tys_get (by decide)) h2 (in_laload hc).1 (kk (in_laload hc).2)
theorem go_xld (C : am_ctx E base xa dC dI cA M p R s m args meth cd) (P : am_hp base dC dI cA s h H locs) {k : Nat} {i : Int32} (hk : k < 3) (hi : am_inB i (E k).1 = true) (hc : am_chk M pc (.iaload :: c) = true) (kk : am_chk M (pc + 1) c = true → W p l e R s m args below meth cd H locs cells slots Q (F0 m (pc + 1) ls (.int ((E k).2 i.toNatClampNeg) :: S.map (am_mp base xa)))) : W p l e R s m args below meth cd H locs cells slots Q (F0 m pc ls (.int i :: .ref (xa k) :: S.map (am_mp base xa))) := by
  obtain ⟨hT, hX, hb⟩ := C.2.2.2.2.2.2.2.1.2.2.2.2.1
  by_cases hk2 : k < 2
  · exact va_ti C.1 C.2.1 (hT k hk2) P.2.2 (am_inB_in hi) rfl (in_iaload hc).1 (kk (in_iaload hc).2)
  have hk3 : k = 2 := by omega
  subst hk3
  exact va_sld C.1 C.2.1 hX (Nat.lt_of_lt_of_le hb C.2.2.2.2.2.2.2.1.2.2.2.2.2) (Nat.not_le.mpr hb) P.2.2 (am_inB_in hi) (in_iaload hc).1 (kk (in_iaload hc).2)
theorem go_xlen (C : am_ctx E base xa dC dI cA M p R s m args meth cd) (P : am_hp base dC dI cA s h H locs) {k : Nat} (hk : k = 2) (hc : am_chk M pc (.arraylength :: c) = true) (kk : am_chk M (pc + 1) c = true → W p l e R s m args below meth cd H locs cells slots Q (F0 m (pc + 1) ls (.int (Int32.ofNat (E k).1) :: S.map (am_mp base xa)))) : W p l e R s m args below meth cd H locs cells slots Q (F0 m pc ls (.ref (xa k) :: S.map (am_mp base xa))) := by
  subst hk
  obtain ⟨hT, hX, hb⟩ := C.2.2.2.2.2.2.2.1.2.2.2.2.1
  exact va_slen C.1 C.2.1 hX (Nat.lt_of_lt_of_le hb C.2.2.2.2.2.2.2.1.2.2.2.2.2) (Nat.not_le.mpr hb) P.2.2 (in_arraylength hc).1 (kk (in_arraylength hc).2)
theorem am_rf_mp (base : Nat) (xa : Nat → Nat) (r : Option Nat) : va_rf (r.map (fun j => base + j)) = am_mp base xa (va_rf r) := by cases r <;> rfl
theorem am_va_q {base : Nat} {h : aH} {t n k : Nat} (ht : 3 ≤ t) : am_va base h t n k = (n, .inr (.inr (.inr (.inr (fun i => (h.2.1 k i).map (fun j => base + j)))))) := by
  unfold am_va
  rw [if_neg (by omega), if_neg (by omega)]
theorem am_et_q {t : Nat} (ht : 3 ≤ t) : am_et t = .object ((am_AO[t - 3]?).getD "") := by
  obtain ⟨k, rfl⟩ : ∃ k, t = k + 3 := ⟨t - 3, by omega⟩
  rfl
theorem go_aaload (C : am_ctx E base xa dC dI cA M p R s m args meth cd) (P : am_hp base dC dI cA s h H locs) {k : Nat} {i : Int32} (hr : am_rowR h k i = true) (hc : am_chk M pc (.aaload :: c) = true) (kk : am_chk M (pc + 1) c = true → W p l e R s m args below meth cd H locs cells slots Q (F0 m (pc + 1) ls (am_mp base xa (va_rf (h.2.1 k i.toNatClampNeg)) :: S.map (am_mp base xa)))) : W p l e R s m args below meth cd H locs cells slots Q (F0 m pc ls (.int i :: .ref (base + k) :: S.map (am_mp base xa))) := by
  obtain ⟨t, n, h1, h2, h3, h4⟩ := am_rowR_eq hr
  have kk := kk (in_aaload hc).2
  rw [← am_rf_mp] at kk
  exact va_aldq (f := fun i => (h.2.1 k i).map (fun j => base + j)) C.1 C.2.1 C.2.2.2.2.2.2.2.1.1 P.1 k t (by rw [am_arr_wl h1, am_va_q h3]) (by rw [am_tys_get h4, am_et_q h3]) h2 (in_aaload hc).1 kk
theorem go_iastore (C : am_ctx E base xa dC dI cA M p R s m args meth cd) (P : am_hp base dC dI cA s h H locs) {k : Nat} {i : Int32} {v : Int32} (hr : am_row h k 0 i = true)  (hc : am_chk M pc (.iastore :: c) = true) (kk : ∀ H' locs', am_chk M (pc + 1) c = true → am_hp base dC dI cA s ((h.1, h.2.1, am_up h.2.2.1 k i.toNatClampNeg v, h.2.2.2)) H' locs' → W p l e R s m args below meth cd H' locs' cells slots Q (F0 m (pc + 1) ls (S.map (am_mp base xa)))) : W p l e R s m args below meth cd H locs cells slots Q (F0 m pc ls (.int v :: .int i :: .ref (base + k) :: S.map (am_mp base xa))) := by
  obtain ⟨n, h1, h2⟩ := am_row_eq hr
  refine am_iast C.1 C.2.1 C.2.2.2.2.2.2.2.1.1 P.1 (am_wl_D base cA h) P.2.2 k 0 (am_arr_wl h1) (am_tys_get (by decide)) h2 (in_iastore hc).1 (fun H1 locs1 g1 g2 g3 => kk H1 locs1 (in_iastore hc).2 ⟨?_, by rw [g3, P.2.1], g2⟩)
  · refine Eq.mp (congrArg (fun z => va_P (dC, dI) vwCl z H1) (Eq.trans (congrArg (fun z => (am_wl base cA h).set k z) ?_) (am_wl_set (h' := (h.1, h.2.1, am_up h.2.2.1 k i.toNatClampNeg v, h.2.2.2)) (k := k) rfl (fun j hj => am_cell_congr rfl (by first | rfl | exact am_up_ne hj) (by first | rfl | exact am_up_ne hj) (by first | rfl | exact am_up_ne hj))))) g1
    unfold am_cell
    dsimp only
    rw [h1]
    dsimp only [am_va]
    rw [am_up_eq]
    rfl
theorem go_bastore (C : am_ctx E base xa dC dI cA M p R s m args meth cd) (P : am_hp base dC dI cA s h H locs) {k : Nat} {i : Int32} {v : Int32} (hr : am_row h k 1 i = true) (hv : v = 0 ∨ v = 1) (hc : am_chk M pc (.bastore :: c) = true) (kk : ∀ H' locs', am_chk M (pc + 1) c = true → am_hp base dC dI cA s ((h.1, h.2.1, am_up h.2.2.1 k i.toNatClampNeg v, h.2.2.2)) H' locs' → W p l e R s m args below meth cd H' locs' cells slots Q (F0 m (pc + 1) ls (S.map (am_mp base xa)))) : W p l e R s m args below meth cd H locs cells slots Q (F0 m pc ls (.int v :: .int i :: .ref (base + k) :: S.map (am_mp base xa))) := by
  obtain ⟨n, h1, h2⟩ := am_row_eq hr
  refine am_zast C.1 C.2.1 C.2.2.2.2.2.2.2.1.1 P.1 (am_wl_D base cA h) P.2.2 k 1 (am_arr_wl h1) (am_tys_get (by decide)) h2 (in_bastore hc).1 (fun H1 locs1 g1 g2 g3 => kk H1 locs1 (in_bastore hc).2 ⟨?_, by rw [g3, P.2.1], g2⟩)
  · refine Eq.mp (congrArg (fun z => va_P (dC, dI) vwCl z H1) (Eq.trans (congrArg (fun z => (am_wl base cA h).set k z) ?_) (am_wl_set (h' := (h.1, h.2.1, am_up h.2.2.1 k i.toNatClampNeg v, h.2.2.2)) (k := k) rfl (fun j hj => am_cell_congr rfl (by first | rfl | exact am_up_ne hj) (by first | rfl | exact am_up_ne hj) (by first | rfl | exact am_up_ne hj))))) g1
    unfold am_cell
    dsimp only
    rw [h1]
    dsimp only [am_va]
    rw [show vp_nar .boolean v = v by rcases hv with rfl | rfl <;> rfl]
    rw [am_up_eq]
    rfl
theorem go_lastore (C : am_ctx E base xa dC dI cA M p R s m args meth cd) (P : am_hp base dC dI cA s h H locs) {k : Nat} {i : Int32} {v : Int64} (hr : am_row h k 2 i = true)  (hc : am_chk M pc (.lastore :: c) = true) (kk : ∀ H' locs', am_chk M (pc + 1) c = true → am_hp base dC dI cA s ((h.1, h.2.1, h.2.2.1, am_up h.2.2.2 k i.toNatClampNeg v)) H' locs' → W p l e R s m args below meth cd H' locs' cells slots Q (F0 m (pc + 1) ls (S.map (am_mp base xa)))) : W p l e R s m args below meth cd H locs cells slots Q (F0 m pc ls (.long v :: .int i :: .ref (base + k) :: S.map (am_mp base xa))) := by
  obtain ⟨n, h1, h2⟩ := am_row_eq hr
  refine am_last C.1 C.2.1 C.2.2.2.2.2.2.2.1.1 P.1 (am_wl_D base cA h) P.2.2 k 2 (am_arr_wl h1) (am_tys_get (by decide)) h2 (in_lastore hc).1 (fun H1 locs1 g1 g2 g3 => kk H1 locs1 (in_lastore hc).2 ⟨?_, by rw [g3, P.2.1], g2⟩)
  · refine Eq.mp (congrArg (fun z => va_P (dC, dI) vwCl z H1) (Eq.trans (congrArg (fun z => (am_wl base cA h).set k z) ?_) (am_wl_set (h' := (h.1, h.2.1, h.2.2.1, am_up h.2.2.2 k i.toNatClampNeg v)) (k := k) rfl (fun j hj => am_cell_congr rfl (by first | rfl | exact am_up_ne hj) (by first | rfl | exact am_up_ne hj) (by first | rfl | exact am_up_ne hj))))) g1
    unfold am_cell
    dsimp only
    rw [h1]
    dsimp only [am_va]
    rw [am_up_eq]
    rfl
theorem go_aastore (C : am_ctx E base xa dC dI cA M p R s m args meth cd) (P : am_hp base dC dI cA s h H locs) {k j : Nat} {i : Int32} (hr : am_rowR h k i = true) (hf : am_fit h k j = true) (hc : am_chk M pc (.aastore :: c) = true) (kk : ∀ H' locs', am_chk M (pc + 1) c = true → am_hp base dC dI cA s (h.1, am_up h.2.1 k i.toNatClampNeg (some j), h.2.2) H' locs' → W p l e R s m args below meth cd H' locs' cells slots Q (F0 m (pc + 1) ls (S.map (am_mp base xa)))) : W p l e R s m args below meth cd H locs cells slots Q (F0 m pc ls (.ref (base + j) :: .int i :: .ref (base + k) :: S.map (am_mp base xa))) := by
  obtain ⟨t, n, h1, h2, h3, h4⟩ := am_rowR_eq hr
  unfold am_fit at hf
  rw [h1] at hf
  split at hf
  · rename_i u n' c' e1 e2
    cases e1
    simp only [Bool.and_eq_true, decide_eq_true_eq] at hf
    have hj : (am_wl base cA h)[j]? = some (base + j, .inr (c', am_fsv base h c' j)) := am_obj_wl (by unfold am_obj; rw [e2]; simp)
    refine am_astq (f := fun i => (h.2.1 k i).map (fun j => base + j)) (r := (am_cls c', am_Tx c', am_N c')) C.1 C.2.1 C.2.2.2.2.2.2.2.1.1 P.1 (am_wl_D base cA h) P.2.2 k t j c' (by rw [am_arr_wl h1, am_va_q h3]) (by rw [am_tys_get h4, am_et_q h3, ← hf.2]) hj (am_vwCl hf.1.2) h2 (in_aastore hc).1 (fun H1 locs1 g1 g2 g3 => kk H1 locs1 (in_aastore hc).2 ⟨?_, by rw [g3, P.2.1], g2⟩)
    refine Eq.mp (congrArg (fun z => va_P (dC, dI) vwCl z H1) (Eq.trans (congrArg (fun z => (am_wl base cA h).set k z) ?_) (am_wl_set (h' := (h.1, am_up h.2.1 k i.toNatClampNeg (some j), h.2.2)) (k := k) rfl (fun q hq => am_cell_congr rfl (am_up_ne hq) rfl rfl)))) g1
    unfold am_cell
    dsimp only
    rw [h1]
    dsimp only
    rw [am_va_q h3]
    dsimp only
    simp only [am_up_eq]
    congr 8
    funext b
    unfold va_up
    by_cases hb : b = i.toNatClampNeg
    · simp [hb]
    · simp [hb]
  · cases hf
theorem go_gets (C : am_ctx E base xa dC dI cA M p R s m args meth cd) (P : am_hp base dC dI cA s h H locs) {x : Nat} (hc : am_chk M pc (.getstatic x :: c) = true) (kk : am_chk M (pc + 3) c = true → W p l e R s m args below meth cd H locs cells slots Q (F0 m (pc + 3) ls (.ref (xa x) :: S.map (am_mp base xa)))) : W p l e R s m args below meth cd H locs cells slots Q (F0 m pc ls (S.map (am_mp base xa))) := by
  obtain ⟨j, len, h1, h2, h3⟩ := am_chk_cons (fun t e => by cases e) hc
  simp only [am_ins, Bool.and_eq_true, decide_eq_true_eq, beq_iff_eq, List.any_eq_true] at h2
  obtain ⟨rfl, q, hq, ⟨hq1, rfl⟩, hq2⟩ := h2
  have hw0 := List.all_eq_true.mp am_G_ok q hq
  rw [Bool.and_eq_true, decide_eq_true_eq] at hw0
  have hw := C.2.2.2.2.1 _ (am_wd_in hw0.2)
  rw [hq1, hq2] at hw
  have hx : x < 2 := hq2 ▸ hw0.1
  exact va_gets C.1 C.2.1 (C.2.2.2.2.2.2.2.1.2.2.2.1 x hx) P.2.2 C.2.2.2.1 hw (fun _ h9 => h9) h1 (kk h3)
theorem go_fadd (C : am_ctx E base xa dC dI cA M p R s m args meth cd) {x y : Int32} (hl : ls.size = am_mL M) (hS : S.length ≤ 4) (h1c : cells ≤ R.cells) (h1s : slots ≤ R.slots) (hc : am_chk M pc (.fadd :: c) = true) (kk : am_chk M (pc + 3) c = true → W p l e R s m args below meth cd H locs cells slots Q (F0 m (pc + 3) ls (.int (if x < y then y else x) :: S.map (am_mp base xa)))) : W p l e R s m args below meth cd H locs cells slots Q (F0 m pc ls (.int y :: .int x :: S.map (am_mp base xa))) := by
  obtain ⟨j, len, h1, h2, h3⟩ := am_chk_cons (fun t e => by cases e) hc
  simp only [am_ins, Bool.and_eq_true, decide_eq_true_eq, beq_iff_eq, List.any_eq_true] at h2
  obtain ⟨⟨⟨rfl, q, hq, ⟨hq1, rfl⟩, hq2⟩, hfr⟩, hlc⟩ := h2
  have hw0 := List.all_eq_true.mp am_Mt_ok q hq
  rw [Bool.and_eq_true, decide_eq_true_eq] at hw0
  have hw := C.2.2.2.2.1 _ (am_wd_in hw0.2)
  rw [hq1, hq2] at hw
  have hi := am_mi_ok
  simp only [Bool.and_eq_true] at hi
  obtain ⟨⟨⟨⟨⟨⟨⟨⟨m0, m1⟩, m2⟩, m3⟩, m4⟩, m5⟩, m6⟩, m7⟩, m8⟩ := hi
  exact va_mmax C.1 C.2.1 (C.2.2.1.trans hl.symm) C.2.2.2.1 hw (C.2.2.2.2.1 _ (am_wd_in m1)) (C.2.2.2.2.1 _ (am_wd_in m0)) (C.2.2.2.2.1 _ (am_wd_in m2)) (Nat.le_trans hfr C.2.2.2.2.2.1) (Nat.le_trans (by have := am_catsum (base := base) (xa := xa) hS; omega) (Nat.le_trans hlc C.2.2.2.2.2.2.1)) h1c h1s h1 (kk h3)
theorem go_fsub (C : am_ctx E base xa dC dI cA M p R s m args meth cd) {x y : Int32} (hl : ls.size = am_mL M) (hS : S.length ≤ 4) (h1c : cells ≤ R.cells) (h1s : slots ≤ R.slots) (hc : am_chk M pc (.fsub :: c) = true) (kk : am_chk M (pc + 3) c = true → W p l e R s m args below meth cd H locs cells slots Q (F0 m (pc + 3) ls (.int (if y < x then y else x) :: S.map (am_mp base xa)))) : W p l e R s m args below meth cd H locs cells slots Q (F0 m pc ls (.int y :: .int x :: S.map (am_mp base xa))) := by
  obtain ⟨j, len, h1, h2, h3⟩ := am_chk_cons (fun t e => by cases e) hc
  simp only [am_ins, Bool.and_eq_true, decide_eq_true_eq, beq_iff_eq, List.any_eq_true] at h2
  obtain ⟨⟨⟨rfl, q, hq, ⟨hq1, rfl⟩, hq2⟩, hfr⟩, hlc⟩ := h2
  have hw0 := List.all_eq_true.mp am_Mt_ok q hq
  rw [Bool.and_eq_true, decide_eq_true_eq] at hw0
  have hw := C.2.2.2.2.1 _ (am_wd_in hw0.2)
  rw [hq1, hq2] at hw
  have hi := am_mi_ok
  simp only [Bool.and_eq_true] at hi
  obtain ⟨⟨⟨⟨⟨⟨⟨⟨m0, m1⟩, m2⟩, m3⟩, m4⟩, m5⟩, m6⟩, m7⟩, m8⟩ := hi
  exact va_mmin C.1 C.2.1 (C.2.2.1.trans hl.symm) C.2.2.2.1 hw (C.2.2.2.2.1 _ (am_wd_in m3)) (C.2.2.2.2.1 _ (am_wd_in m0)) (C.2.2.2.2.1 _ (am_wd_in m4)) (Nat.le_trans hfr C.2.2.2.2.2.1) (Nat.le_trans (by have := am_catsum (base := base) (xa := xa) hS; omega) (Nat.le_trans hlc C.2.2.2.2.2.2.1)) h1c h1s h1 (kk h3)
theorem go_fmul (C : am_ctx E base xa dC dI cA M p R s m args meth cd) {x : Int32} (hl : ls.size = am_mL M) (hS : S.length ≤ 4) (h1c : cells ≤ R.cells) (h1s : slots ≤ R.slots) (hc : am_chk M pc (.fmul :: c) = true) (kk : am_chk M (pc + 3) c = true → W p l e R s m args below meth cd H locs cells slots Q (F0 m (pc + 3) ls (.int (if 0 ≤ x then x else 0 - x) :: S.map (am_mp base xa)))) : W p l e R s m args below meth cd H locs cells slots Q (F0 m pc ls (.int x :: S.map (am_mp base xa))) := by
  obtain ⟨j, len, h1, h2, h3⟩ := am_chk_cons (fun t e => by cases e) hc
  simp only [am_ins, Bool.and_eq_true, decide_eq_true_eq, beq_iff_eq, List.any_eq_true] at h2
  obtain ⟨⟨⟨rfl, q, hq, ⟨hq1, rfl⟩, hq2⟩, hfr⟩, hlc⟩ := h2
  have hw0 := List.all_eq_true.mp am_Mt_ok q hq
  rw [Bool.and_eq_true, decide_eq_true_eq] at hw0
  have hw := C.2.2.2.2.1 _ (am_wd_in hw0.2)
  rw [hq1, hq2] at hw
  have hi := am_mi_ok
  simp only [Bool.and_eq_true] at hi
  obtain ⟨⟨⟨⟨⟨⟨⟨⟨m0, m1⟩, m2⟩, m3⟩, m4⟩, m5⟩, m6⟩, m7⟩, m8⟩ := hi
  exact va_mabs C.1 C.2.1 (C.2.2.1.trans hl.symm) C.2.2.2.1 hw (C.2.2.2.2.1 _ (am_wd_in m5)) (C.2.2.2.2.1 _ (am_wd_in m0)) (C.2.2.2.2.1 _ (am_wd_in m6)) (Nat.le_trans hfr C.2.2.2.2.2.1) (Nat.le_trans (by have := am_catsum (base := base) (xa := xa) hS; omega) (Nat.le_trans hlc C.2.2.2.2.2.2.1)) h1c h1s h1 (kk h3)
theorem go_fdiv (C : am_ctx E base xa dC dI cA M p R s m args meth cd) {x : Int64} (hl : ls.size = am_mL M) (hS : S.length ≤ 4) (h1c : cells ≤ R.cells) (h1s : slots ≤ R.slots) (hc : am_chk M pc (.fdiv :: c) = true) (kk : am_chk M (pc + 3) c = true → W p l e R s m args below meth cd H locs cells slots Q (F0 m (pc + 3) ls (.long (if 0 < x then x else -x) :: S.map (am_mp base xa)))) : W p l e R s m args below meth cd H locs cells slots Q (F0 m pc ls (.long x :: S.map (am_mp base xa))) := by
  obtain ⟨j, len, h1, h2, h3⟩ := am_chk_cons (fun t e => by cases e) hc
  simp only [am_ins, Bool.and_eq_true, decide_eq_true_eq, beq_iff_eq, List.any_eq_true] at h2
  obtain ⟨⟨⟨rfl, q, hq, ⟨hq1, rfl⟩, hq2⟩, hfr⟩, hlc⟩ := h2
  have hw0 := List.all_eq_true.mp am_Mt_ok q hq
  rw [Bool.and_eq_true, decide_eq_true_eq] at hw0
  have hw := C.2.2.2.2.1 _ (am_wd_in hw0.2)
  rw [hq1, hq2] at hw
  have hi := am_mi_ok
  simp only [Bool.and_eq_true] at hi
  obtain ⟨⟨⟨⟨⟨⟨⟨⟨m0, m1⟩, m2⟩, m3⟩, m4⟩, m5⟩, m6⟩, m7⟩, m8⟩ := hi
  exact va_mabs_long C.1 C.2.1 (C.2.2.1.trans hl.symm) C.2.2.2.1 hw (C.2.2.2.2.1 _ (am_wd_in m7)) (C.2.2.2.2.1 _ (am_wd_in m0)) (C.2.2.2.2.1 _ (am_wd_in m8)) (Nat.le_trans hfr C.2.2.2.2.2.1) (Nat.le_trans (by have := am_catsum (base := base) (xa := xa) hS; omega) (Nat.le_trans hlc C.2.2.2.2.2.2.1)) h1c h1s h1 (kk h3)
theorem go_objinit (C : am_ctx E base xa dC dI cA M p R s m args meth cd) {k : Nat} (hl : ls.size = am_mL M) (hS : S.length ≤ 4) (hc : am_chk M pc (.pop2 :: c) = true) (kk : am_chk M (pc + 3) c = true → W p l e R s m args below meth cd H locs cells slots Q (F0 m (pc + 3) ls (S.map (am_mp base xa)))) : W p l e R s m args below meth cd H locs cells slots Q (F0 m pc ls (.ref (base + k) :: S.map (am_mp base xa))) := by
  obtain ⟨j, len, h1, h2, h3⟩ := am_chk_cons (fun t e => by cases e) hc
  simp only [am_ins, Bool.and_eq_true, decide_eq_true_eq, beq_iff_eq, List.any_eq_true] at h2
  obtain ⟨⟨⟨rfl, q, hq, hq1, rfl⟩, hfr⟩, hlc⟩ := h2
  have hw := C.2.2.2.2.1 _ (am_wd_in (List.all_eq_true.mp am_O_ok q hq))
  rw [hq1] at hw
  have hi := am_oi_ok
  rw [Bool.and_eq_true] at hi
  refine W.objInit C.1 C.2.1 C.2.2.2.1 hw (C.2.2.2.2.1 _ (am_wd_in hi.1)) (C.2.2.2.2.1 _ (am_wd_in hi.2)) rfl (hl.trans C.2.2.1.symm) rfl h1 (Nat.le_trans hfr C.2.2.2.2.2.1) (Nat.le_trans ?_ (Nat.le_trans hlc C.2.2.2.2.2.2.1)) (kk h3)
  have := am_catsum (base := base) (xa := xa) hS
  show 2 * 0 + _ + 12 ≤ 24
  omega
theorem am_lay_hp {q : Nat ⊕ (Nat × Nat)} {H1 : Heap} (P : am_hp base dC dI cA s h H locs) (z : H1.size = H.size + 1) (o : ∀ x, x < H.size → H1[x]? = H[x]?) (hb : base ≤ s.heap.size) (hat : va_at (dC, dI) vwCl (base + h.1.length, am_cell base cA (am_lay h q) h.1.length) H1) : am_hp base dC dI cA s (am_lay h q) H1 locs := by
  refine ⟨?_, ?_, ?_⟩
  · rw [am_wl_push]
    refine va_P.app (P.1.kept (fun k x hx => o x.1 ((P.1 k x hx).lt))) (fun k x hx => ?_)
    have hz : k < 1 := (List.getElem?_eq_some_iff.mp hx).1
    rw [show k = 0 by omega] at hx
    cases hx
    exact hat
  · rw [z, P.2.1]
    simp [am_lay]
    omega
  · exact ⟨Nat.le_trans P.2.2.1 (by omega), fun x h1 h2 => (o x (Nat.lt_of_lt_of_le h1 P.2.2.1)).trans (P.2.2.2.1 x h1 h2), P.2.2.2.2⟩
theorem am_sz_lay (h : aH) (q : Nat ⊕ (Nat × Nat)) : am_sz (am_lay h q) = am_sz h + (match q with
  | .inl c => am_N c
  | .inr (_, n) => n) := by rcases q with c | ⟨t, n⟩ <;> simp [am_sz, am_lay]
theorem am_lay_at (h : aH) (q : Nat ⊕ (Nat × Nat)) : (am_lay h q).1[h.1.length]? = some q := by simp [am_lay]
theorem go_new (C : am_ctx E base xa dC dI cA M p R s m args meth cd) (P : am_hp base dC dI cA s h H locs) {x : Nat} (h1c : cells + 1 ≤ R.cells) (h1s : slots + am_N x ≤ R.slots) (hc : am_chk M pc (.new x :: c) = true) (kk : ∀ H' locs', am_chk M (pc + 3) c = true → am_hp base dC dI cA s (am_lay h (.inl x)) H' locs' → W p l e R s m args below meth cd H' locs' (cells + 1) (slots + am_N x) Q (F0 m (pc + 3) ls (.ref (base + h.1.length) :: S.map (am_mp base xa)))) : W p l e R s m args below meth cd H locs cells slots Q (F0 m pc ls (S.map (am_mp base xa))) := by
  obtain ⟨j, len, h1, h2, h3⟩ := am_chk_cons (fun t e => by cases e) hc
  simp only [am_ins, Bool.and_eq_true, decide_eq_true_eq, beq_iff_eq, List.any_eq_true] at h2
  obtain ⟨rfl, q, hq, ⟨hq1, rfl⟩, hq2⟩ := h2
  have hw0 := List.all_eq_true.mp am_Nw_ok q hq
  simp only [Bool.and_eq_true, decide_eq_true_eq] at hw0
  obtain ⟨⟨⟨hx, w1⟩, w2⟩, w3⟩ := hw0
  rw [hq1, hq2] at w1
  rw [hq2] at w2 w3 hx
  have hKn := C.2.2.2.2.2.2.2.1.1.1 x _ (am_vwCl hx)
  refine W.newcK C.1 C.2.1 C.2.2.2.1 (C.2.2.2.2.1 _ (am_wd_in w1)) (C.2.2.2.2.1 _ (am_wd_in w2)) (C.2.2.2.2.1 _ (am_wd_in w3)) rfl h1 h1c h1s hKn.2.1 P.2.1 (fun H1 kC hkC e1 z1 o1 => ?_)
  refine kk H1 locs h3 (am_lay_hp P (by rw [z1, P.2.1]) (fun q hq => o1 q (by rw [← P.2.1]; exact hq)) C.2.2.2.2.2.2.2.1.2.2.2.2.2 ?_)
  unfold am_cell
  rw [am_lay_at]
  refine ⟨_, am_vwCl hx, (u_born (am_ty x) C.2.2.2.2.1 (am_wx_ok x hx) hKn hkC e1 (am_ty_ok x hx)).to (fun j hj => ?_)⟩
  have e2 : am_fv (am_lay h (.inl x)) x h.1.length j = defaultValue (am_ty x j) := by
    have hk := am_tk_ok x hx j hj
    unfold am_fv am_lay am_blk
    cases ht : am_ty x j <;> rw [ht] at hk <;> simp [am_tyk] at hk <;> simp [defaultValue, va_rf]
  show _ = (am_fsv base (am_lay h (.inl x)) x h.1.length).getD j .null
  unfold am_fsv
  rw [List.getD_eq_getElem?_getD, List.getElem?_map, List.getElem?_range hj]
  show _ = am_mp base id (am_fv (am_lay h (.inl x)) x h.1.length j)
  rw [e2]
  have hk := am_tk_ok x hx j hj
  cases ht : am_ty x j <;> rw [ht] at hk <;> simp [am_tyk] at hk <;> rfl
theorem go_newarray (C : am_ctx E base xa dC dI cA M p R s m args meth cd) (P : am_hp base dC dI cA s h H locs) {t : ArrayType} {n : Int32} (hn : ¬ n < 0) (hn2 : n.toNatClampNeg ≤ 1000) (h1c : cells + 1 ≤ R.cells) (h1s : slots + n.toNatClampNeg ≤ R.slots) (hc : am_chk M pc (.newarray t :: c) = true) (kk : ∀ H' locs', am_chk M (pc + 2) c = true → am_hp base dC dI cA s (am_lay h (.inr (am_atN t, n.toNatClampNeg))) H' locs' → W p l e R s m args below meth cd H' locs' (cells + 1) (slots + n.toNatClampNeg) Q (F0 m (pc + 2) ls (.ref (base + h.1.length) :: S.map (am_mp base xa)))) : W p l e R s m args below meth cd H locs cells slots Q (F0 m pc ls (.int n :: S.map (am_mp base xa))) := by
  obtain ⟨j, len, h1, h2, h3⟩ := am_chk_cons (fun t e => by cases e) hc
  simp only [am_ins, Bool.and_eq_true, decide_eq_true_eq, beq_iff_eq] at h2
  obtain ⟨⟨rfl, rfl⟩, ht⟩ := h2
  have hty : newarray.typeOf t = am_et (am_atN t) := by cases t <;> first | rfl | (simp [am_atN] at ht)
  have harr : Jvm.Cond.arrayClass (newarray.typeOf t) ∈ lw_good := by
    have ho := am_ac_ok
    simp only [Bool.and_eq_true] at ho
    cases t <;> first | exact am_wd_in ho.1.1 | exact am_wd_in ho.1.2 | exact am_wd_in ho.2 | (simp [am_atN] at ht)
  have hby : n.toNatClampNeg * componentBytes (newarray.typeOf t) ≤ 536870912 := by
    have : componentBytes (newarray.typeOf t) ≤ 8 := by cases t <;> simp [newarray.typeOf, componentBytes]
    calc n.toNatClampNeg * componentBytes (newarray.typeOf t) ≤ 1000 * 8 := Nat.mul_le_mul hn2 this
      _ ≤ 536870912 := by decide
  refine va_newaK C.1 C.2.1 (C.2.2.2.2.1 _ harr) rfl h1 rfl hn rfl hby h1c h1s P.2.1 (fun H1 cA' e1 z1 o1 hAr hNm => ?_)
  refine kk H1 locs h3 (am_lay_hp P (by rw [z1, P.2.1]) (fun q hq => o1 q (by rw [← P.2.1]; exact hq)) C.2.2.2.2.2.2.2.1.2.2.2.2.2 ?_)
  have hRA := (C.2.2.2.2.2.2.2.1.1.2 (am_atN t) _ (am_tys_get (by omega))).2
  have hcA : cA' = cA (am_atN t) := by
    rw [hty] at hNm
    cases t <;> first | exact Option.some.inj (hNm.symm.trans hRA) | (simp [am_atN] at ht)
  unfold am_cell
  rw [am_lay_at]
  show H1[base + h.1.length]? = some (vp_cell _ _)
  rw [e1, hcA, hty]
  cases t <;> first | (simp [am_atN] at ht; done) | (simp [am_atN, am_va, am_lay, am_blk, am_et, defaultValue, vp_cell])
theorem go_anewarray (C : am_ctx E base xa dC dI cA M p R s m args meth cd) (P : am_hp base dC dI cA s h H locs) {t : Nat} {n : Int32} (hn : ¬ n < 0) (hn2 : n.toNatClampNeg ≤ 1000) (h1c : cells + 1 ≤ R.cells) (h1s : slots + n.toNatClampNeg ≤ R.slots) (hc : am_chk M pc (.anewarray t :: c) = true) (kk : ∀ H' locs', am_chk M (pc + 3) c = true → am_hp base dC dI cA s (am_lay h (.inr (t, n.toNatClampNeg))) H' locs' → W p l e R s m args below meth cd H' locs' (cells + 1) (slots + n.toNatClampNeg) Q (F0 m (pc + 3) ls (.ref (base + h.1.length) :: S.map (am_mp base xa)))) : W p l e R s m args below meth cd H locs cells slots Q (F0 m pc ls (.int n :: S.map (am_mp base xa))) := by
  obtain ⟨j, len, h1, h2, h3⟩ := am_chk_cons (fun t e => by cases e) hc
  simp only [am_ins, Bool.and_eq_true, decide_eq_true_eq, beq_iff_eq, List.any_eq_true] at h2
  obtain ⟨rfl, q, hq, ⟨hq1, rfl⟩, hq2⟩ := h2
  have hw0 := List.all_eq_true.mp am_A_ok q hq
  simp only [Bool.and_eq_true, decide_eq_true_eq] at hw0
  obtain ⟨⟨ht3, ht7⟩, w1⟩ := hw0
  rw [hq1, hq2] at w1
  rw [hq2] at ht3 ht7
  have hAOm : (am_AO[t - 3]?).getD "" ∈ am_AO := by
    have : t - 3 < am_AO.length := by show t - 3 < 4; omega
    rw [List.getElem?_eq_getElem this]
    exact List.getElem_mem this
  refine W.anew C.1 C.2.1 C.2.2.2.1 (C.2.2.2.2.1 _ (am_wd_in w1)) (va_AO.use (C.2.2.2.2.2.2.2.1.2.2.1 _ hAOm)) rfl h1 rfl hn (by omega) h1c h1s (fun cA' kA comp f1 f2 f3 f4 => ?_)
  generalize hH1 : H.push ({ cls := cA', slots := Array.replicate n.toNatClampNeg .null, vm := .none } : Cell) = H1
  have z1 : H1.size = H.size + 1 := by rw [← hH1, Array.size_push]
  have e1 : H1[H.size]? = some (arrV cA' n.toNatClampNeg (fun _ => .null)) := by rw [← hH1, Array.getElem?_push_size, ← arrV_new]
  have o1 : ∀ q : Nat, q < H.size → H1[q]? = H[q]? := fun q hq => by rw [← hH1, Array.getElem?_push, if_neg (Nat.ne_of_lt hq)]
  have hRA := (C.2.2.2.2.2.2.2.1.1.2 t _ (am_tys_get ht7)).2
  rw [am_et_q ht3] at hRA
  obtain ⟨_, _, _, _, _, hRA⟩ := hRA
  have hcA : cA' = cA t := Option.some.inj (f1.symm.trans hRA)
  have kk := kk H1 locs h3 (am_lay_hp P z1 o1 C.2.2.2.2.2.2.2.1.2.2.2.2.2 (by
    unfold am_cell
    rw [am_lay_at]
    show H1[base + h.1.length]? = some (vp_cell _ _)
    rw [← P.2.1, e1, hcA, am_va_q ht3]
    simp [am_lay, am_blk, vp_cell, va_rf]))
  rw [← P.2.1] at kk
  exact kk
end SndH
end
section
/-! ONE STEP, WHATEVER IT IS -/
theorem am_same {h h1 : aH} (e : h1.1 = h.1) (a b : Nat) : a + (h1.1.length - h.1.length) = a ∧ b + (am_sz h1 - am_sz h) = b := by
  unfold am_sz
  rw [e]
  simp
theorem am_more (h : aH) (q : Nat ⊕ (Nat × Nat)) (a b : Nat) : a + ((am_lay h q).1.length - h.1.length) = a + 1 ∧ b + (am_sz (am_lay h q) - am_sz h) = b + (match q with
  | .inl c => am_N c
  | .inr (_, n) => n) := by
  rw [am_sz_lay]
  refine ⟨by simp [am_lay], ?_⟩
  rcases q with c | ⟨t, n⟩ <;> simp
section SndS
variable {E : aE} {base : Nat} {xa : Nat → Nat} {dC : Nat → ClassId} {dI : Nat → Nat → Nat} {cA : Nat → ClassId}
variable {p : Program} {l : Launch} {e : Env} {R : Room} {s : State} {m : MethodId} {args : Array Value} {below : List Frame} {meth : Method} {cd : Code} {H : Heap} {locs : List Loc} {cells slots ce sl : Nat} {Q : State → Prop}
variable {M pc : Nat} {ls : Array Slot} {c0 c c' : List Instr} {L S L' S' : List Value} {h h1 : aH}

theorem gs_iadd (C : am_ctx E base xa dC dI cA M p R s m args meth cd) (hc : am_chk M pc (.iadd :: c) = true) (hl : am_lrel base xa L ls (am_mL M)) (P : am_hp base dC dI cA s h H locs) (hs : am_step E M (.iadd :: c) L S h = some (.inl (c', L', S', h1))) (hce : ce = cells + (h1.1.length - h.1.length)) (hsl : sl = slots + (am_sz h1 - am_sz h)) (hR : ce ≤ R.cells) (hR2 : sl ≤ R.slots) (kk : ∀ pc' ls' H' locs', am_chk M pc' c' = true → am_lrel base xa L' ls' (am_mL M) → am_hp base dC dI cA s h1 H' locs' → W p l e R s m args below meth cd H' locs' ce sl Q (F0 m pc' ls' (S'.map (am_mp base xa)))) : W p l e R s m args below meth cd H locs cells slots Q (F0 m pc ls (S.map (am_mp base xa))) := by
  simp only [am_step] at hs
  split at hs
  · simp only [am_push, Option.some.injEq, Sum.inl.injEq, Prod.mk.injEq] at hs; obtain ⟨rfl, rfl, rfl, rfl⟩ := hs; have hce := hce.trans (am_same (h := h) rfl cells slots).1; have hsl := hsl.trans (am_same (h := h) rfl cells slots).2; subst hce; subst hsl
    exact go_iadd C hc (fun q => kk _ _ _ _ q hl P)
  · cases hs
theorem gs_isub (C : am_ctx E base xa dC dI cA M p R s m args meth cd) (hc : am_chk M pc (.isub :: c) = true) (hl : am_lrel base xa L ls (am_mL M)) (P : am_hp base dC dI cA s h H locs) (hs : am_step E M (.isub :: c) L S h = some (.inl (c', L', S', h1))) (hce : ce = cells + (h1.1.length - h.1.length)) (hsl : sl = slots + (am_sz h1 - am_sz h)) (hR : ce ≤ R.cells) (hR2 : sl ≤ R.slots) (kk : ∀ pc' ls' H' locs', am_chk M pc' c' = true → am_lrel base xa L' ls' (am_mL M) → am_hp base dC dI cA s h1 H' locs' → W p l e R s m args below meth cd H' locs' ce sl Q (F0 m pc' ls' (S'.map (am_mp base xa)))) : W p l e R s m args below meth cd H locs cells slots Q (F0 m pc ls (S.map (am_mp base xa))) := by
  simp only [am_step] at hs
  split at hs
  · simp only [am_push, Option.some.injEq, Sum.inl.injEq, Prod.mk.injEq] at hs; obtain ⟨rfl, rfl, rfl, rfl⟩ := hs; have hce := hce.trans (am_same (h := h) rfl cells slots).1; have hsl := hsl.trans (am_same (h := h) rfl cells slots).2; subst hce; subst hsl
    exact go_isub C hc (fun q => kk _ _ _ _ q hl P)
  · cases hs
theorem gs_imul (C : am_ctx E base xa dC dI cA M p R s m args meth cd) (hc : am_chk M pc (.imul :: c) = true) (hl : am_lrel base xa L ls (am_mL M)) (P : am_hp base dC dI cA s h H locs) (hs : am_step E M (.imul :: c) L S h = some (.inl (c', L', S', h1))) (hce : ce = cells + (h1.1.length - h.1.length)) (hsl : sl = slots + (am_sz h1 - am_sz h)) (hR : ce ≤ R.cells) (hR2 : sl ≤ R.slots) (kk : ∀ pc' ls' H' locs', am_chk M pc' c' = true → am_lrel base xa L' ls' (am_mL M) → am_hp base dC dI cA s h1 H' locs' → W p l e R s m args below meth cd H' locs' ce sl Q (F0 m pc' ls' (S'.map (am_mp base xa)))) : W p l e R s m args below meth cd H locs cells slots Q (F0 m pc ls (S.map (am_mp base xa))) := by
  simp only [am_step] at hs
  split at hs
  · simp only [am_push, Option.some.injEq, Sum.inl.injEq, Prod.mk.injEq] at hs; obtain ⟨rfl, rfl, rfl, rfl⟩ := hs; have hce := hce.trans (am_same (h := h) rfl cells slots).1; have hsl := hsl.trans (am_same (h := h) rfl cells slots).2; subst hce; subst hsl
    exact go_imul C hc (fun q => kk _ _ _ _ q hl P)
  · cases hs
theorem gs_iand (C : am_ctx E base xa dC dI cA M p R s m args meth cd) (hc : am_chk M pc (.iand :: c) = true) (hl : am_lrel base xa L ls (am_mL M)) (P : am_hp base dC dI cA s h H locs) (hs : am_step E M (.iand :: c) L S h = some (.inl (c', L', S', h1))) (hce : ce = cells + (h1.1.length - h.1.length)) (hsl : sl = slots + (am_sz h1 - am_sz h)) (hR : ce ≤ R.cells) (hR2 : sl ≤ R.slots) (kk : ∀ pc' ls' H' locs', am_chk M pc' c' = true → am_lrel base xa L' ls' (am_mL M) → am_hp base dC dI cA s h1 H' locs' → W p l e R s m args below meth cd H' locs' ce sl Q (F0 m pc' ls' (S'.map (am_mp base xa)))) : W p l e R s m args below meth cd H locs cells slots Q (F0 m pc ls (S.map (am_mp base xa))) := by
  simp only [am_step] at hs
  split at hs
  · simp only [am_push, Option.some.injEq, Sum.inl.injEq, Prod.mk.injEq] at hs; obtain ⟨rfl, rfl, rfl, rfl⟩ := hs; have hce := hce.trans (am_same (h := h) rfl cells slots).1; have hsl := hsl.trans (am_same (h := h) rfl cells slots).2; subst hce; subst hsl
    exact go_iand C hc (fun q => kk _ _ _ _ q hl P)
  · cases hs
theorem gs_ior (C : am_ctx E base xa dC dI cA M p R s m args meth cd) (hc : am_chk M pc (.ior :: c) = true) (hl : am_lrel base xa L ls (am_mL M)) (P : am_hp base dC dI cA s h H locs) (hs : am_step E M (.ior :: c) L S h = some (.inl (c', L', S', h1))) (hce : ce = cells + (h1.1.length - h.1.length)) (hsl : sl = slots + (am_sz h1 - am_sz h)) (hR : ce ≤ R.cells) (hR2 : sl ≤ R.slots) (kk : ∀ pc' ls' H' locs', am_chk M pc' c' = true → am_lrel base xa L' ls' (am_mL M) → am_hp base dC dI cA s h1 H' locs' → W p l e R s m args below meth cd H' locs' ce sl Q (F0 m pc' ls' (S'.map (am_mp base xa)))) : W p l e R s m args below meth cd H locs cells slots Q (F0 m pc ls (S.map (am_mp base xa))) := by
  simp only [am_step] at hs
  split at hs
  · simp only [am_push, Option.some.injEq, Sum.inl.injEq, Prod.mk.injEq] at hs; obtain ⟨rfl, rfl, rfl, rfl⟩ := hs; have hce := hce.trans (am_same (h := h) rfl cells slots).1; have hsl := hsl.trans (am_same (h := h) rfl cells slots).2; subst hce; subst hsl
    exact go_ior C hc (fun q => kk _ _ _ _ q hl P)
  · cases hs
theorem gs_ixor (C : am_ctx E base xa dC dI cA M p R s m args meth cd) (hc : am_chk M pc (.ixor :: c) = true) (hl : am_lrel base xa L ls (am_mL M)) (P : am_hp base dC dI cA s h H locs) (hs : am_step E M (.ixor :: c) L S h = some (.inl (c', L', S', h1))) (hce : ce = cells + (h1.1.length - h.1.length)) (hsl : sl = slots + (am_sz h1 - am_sz h)) (hR : ce ≤ R.cells) (hR2 : sl ≤ R.slots) (kk : ∀ pc' ls' H' locs', am_chk M pc' c' = true → am_lrel base xa L' ls' (am_mL M) → am_hp base dC dI cA s h1 H' locs' → W p l e R s m args below meth cd H' locs' ce sl Q (F0 m pc' ls' (S'.map (am_mp base xa)))) : W p l e R s m args below meth cd H locs cells slots Q (F0 m pc ls (S.map (am_mp base xa))) := by
  simp only [am_step] at hs
  split at hs
  · simp only [am_push, Option.some.injEq, Sum.inl.injEq, Prod.mk.injEq] at hs; obtain ⟨rfl, rfl, rfl, rfl⟩ := hs; have hce := hce.trans (am_same (h := h) rfl cells slots).1; have hsl := hsl.trans (am_same (h := h) rfl cells slots).2; subst hce; subst hsl
    exact go_ixor C hc (fun q => kk _ _ _ _ q hl P)
  · cases hs
theorem gs_ishl (C : am_ctx E base xa dC dI cA M p R s m args meth cd) (hc : am_chk M pc (.ishl :: c) = true) (hl : am_lrel base xa L ls (am_mL M)) (P : am_hp base dC dI cA s h H locs) (hs : am_step E M (.ishl :: c) L S h = some (.inl (c', L', S', h1))) (hce : ce = cells + (h1.1.length - h.1.length)) (hsl : sl = slots + (am_sz h1 - am_sz h)) (hR : ce ≤ R.cells) (hR2 : sl ≤ R.slots) (kk : ∀ pc' ls' H' locs', am_chk M pc' c' = true → am_lrel base xa L' ls' (am_mL M) → am_hp base dC dI cA s h1 H' locs' → W p l e R s m args below meth cd H' locs' ce sl Q (F0 m pc' ls' (S'.map (am_mp base xa)))) : W p l e R s m args below meth cd H locs cells slots Q (F0 m pc ls (S.map (am_mp base xa))) := by
  simp only [am_step] at hs
  split at hs
  · simp only [am_push, Option.some.injEq, Sum.inl.injEq, Prod.mk.injEq] at hs; obtain ⟨rfl, rfl, rfl, rfl⟩ := hs; have hce := hce.trans (am_same (h := h) rfl cells slots).1; have hsl := hsl.trans (am_same (h := h) rfl cells slots).2; subst hce; subst hsl
    exact go_ishl C hc (fun q => kk _ _ _ _ q hl P)
  · cases hs
theorem gs_ishr (C : am_ctx E base xa dC dI cA M p R s m args meth cd) (hc : am_chk M pc (.ishr :: c) = true) (hl : am_lrel base xa L ls (am_mL M)) (P : am_hp base dC dI cA s h H locs) (hs : am_step E M (.ishr :: c) L S h = some (.inl (c', L', S', h1))) (hce : ce = cells + (h1.1.length - h.1.length)) (hsl : sl = slots + (am_sz h1 - am_sz h)) (hR : ce ≤ R.cells) (hR2 : sl ≤ R.slots) (kk : ∀ pc' ls' H' locs', am_chk M pc' c' = true → am_lrel base xa L' ls' (am_mL M) → am_hp base dC dI cA s h1 H' locs' → W p l e R s m args below meth cd H' locs' ce sl Q (F0 m pc' ls' (S'.map (am_mp base xa)))) : W p l e R s m args below meth cd H locs cells slots Q (F0 m pc ls (S.map (am_mp base xa))) := by
  simp only [am_step] at hs
  split at hs
  · simp only [am_push, Option.some.injEq, Sum.inl.injEq, Prod.mk.injEq] at hs; obtain ⟨rfl, rfl, rfl, rfl⟩ := hs; have hce := hce.trans (am_same (h := h) rfl cells slots).1; have hsl := hsl.trans (am_same (h := h) rfl cells slots).2; subst hce; subst hsl
    exact go_ishr C hc (fun q => kk _ _ _ _ q hl P)
  · cases hs
theorem gs_ineg (C : am_ctx E base xa dC dI cA M p R s m args meth cd) (hc : am_chk M pc (.ineg :: c) = true) (hl : am_lrel base xa L ls (am_mL M)) (P : am_hp base dC dI cA s h H locs) (hs : am_step E M (.ineg :: c) L S h = some (.inl (c', L', S', h1))) (hce : ce = cells + (h1.1.length - h.1.length)) (hsl : sl = slots + (am_sz h1 - am_sz h)) (hR : ce ≤ R.cells) (hR2 : sl ≤ R.slots) (kk : ∀ pc' ls' H' locs', am_chk M pc' c' = true → am_lrel base xa L' ls' (am_mL M) → am_hp base dC dI cA s h1 H' locs' → W p l e R s m args below meth cd H' locs' ce sl Q (F0 m pc' ls' (S'.map (am_mp base xa)))) : W p l e R s m args below meth cd H locs cells slots Q (F0 m pc ls (S.map (am_mp base xa))) := by
  simp only [am_step] at hs
  split at hs
  · simp only [am_push, Option.some.injEq, Sum.inl.injEq, Prod.mk.injEq] at hs; obtain ⟨rfl, rfl, rfl, rfl⟩ := hs; have hce := hce.trans (am_same (h := h) rfl cells slots).1; have hsl := hsl.trans (am_same (h := h) rfl cells slots).2; subst hce; subst hsl
    exact go_ineg C hc (fun q => kk _ _ _ _ q hl P)
  · cases hs
theorem gs_ladd (C : am_ctx E base xa dC dI cA M p R s m args meth cd) (hc : am_chk M pc (.ladd :: c) = true) (hl : am_lrel base xa L ls (am_mL M)) (P : am_hp base dC dI cA s h H locs) (hs : am_step E M (.ladd :: c) L S h = some (.inl (c', L', S', h1))) (hce : ce = cells + (h1.1.length - h.1.length)) (hsl : sl = slots + (am_sz h1 - am_sz h)) (hR : ce ≤ R.cells) (hR2 : sl ≤ R.slots) (kk : ∀ pc' ls' H' locs', am_chk M pc' c' = true → am_lrel base xa L' ls' (am_mL M) → am_hp base dC dI cA s h1 H' locs' → W p l e R s m args below meth cd H' locs' ce sl Q (F0 m pc' ls' (S'.map (am_mp base xa)))) : W p l e R s m args below meth cd H locs cells slots Q (F0 m pc ls (S.map (am_mp base xa))) := by
  simp only [am_step] at hs
  split at hs
  · simp only [am_push, Option.some.injEq, Sum.inl.injEq, Prod.mk.injEq] at hs; obtain ⟨rfl, rfl, rfl, rfl⟩ := hs; have hce := hce.trans (am_same (h := h) rfl cells slots).1; have hsl := hsl.trans (am_same (h := h) rfl cells slots).2; subst hce; subst hsl
    exact go_ladd C hc (fun q => kk _ _ _ _ q hl P)
  · cases hs
theorem gs_lsub (C : am_ctx E base xa dC dI cA M p R s m args meth cd) (hc : am_chk M pc (.lsub :: c) = true) (hl : am_lrel base xa L ls (am_mL M)) (P : am_hp base dC dI cA s h H locs) (hs : am_step E M (.lsub :: c) L S h = some (.inl (c', L', S', h1))) (hce : ce = cells + (h1.1.length - h.1.length)) (hsl : sl = slots + (am_sz h1 - am_sz h)) (hR : ce ≤ R.cells) (hR2 : sl ≤ R.slots) (kk : ∀ pc' ls' H' locs', am_chk M pc' c' = true → am_lrel base xa L' ls' (am_mL M) → am_hp base dC dI cA s h1 H' locs' → W p l e R s m args below meth cd H' locs' ce sl Q (F0 m pc' ls' (S'.map (am_mp base xa)))) : W p l e R s m args below meth cd H locs cells slots Q (F0 m pc ls (S.map (am_mp base xa))) := by
  simp only [am_step] at hs
  split at hs
  · simp only [am_push, Option.some.injEq, Sum.inl.injEq, Prod.mk.injEq] at hs; obtain ⟨rfl, rfl, rfl, rfl⟩ := hs; have hce := hce.trans (am_same (h := h) rfl cells slots).1; have hsl := hsl.trans (am_same (h := h) rfl cells slots).2; subst hce; subst hsl
    exact go_lsub C hc (fun q => kk _ _ _ _ q hl P)
  · cases hs
theorem gs_lmul (C : am_ctx E base xa dC dI cA M p R s m args meth cd) (hc : am_chk M pc (.lmul :: c) = true) (hl : am_lrel base xa L ls (am_mL M)) (P : am_hp base dC dI cA s h H locs) (hs : am_step E M (.lmul :: c) L S h = some (.inl (c', L', S', h1))) (hce : ce = cells + (h1.1.length - h.1.length)) (hsl : sl = slots + (am_sz h1 - am_sz h)) (hR : ce ≤ R.cells) (hR2 : sl ≤ R.slots) (kk : ∀ pc' ls' H' locs', am_chk M pc' c' = true → am_lrel base xa L' ls' (am_mL M) → am_hp base dC dI cA s h1 H' locs' → W p l e R s m args below meth cd H' locs' ce sl Q (F0 m pc' ls' (S'.map (am_mp base xa)))) : W p l e R s m args below meth cd H locs cells slots Q (F0 m pc ls (S.map (am_mp base xa))) := by
  simp only [am_step] at hs
  split at hs
  · simp only [am_push, Option.some.injEq, Sum.inl.injEq, Prod.mk.injEq] at hs; obtain ⟨rfl, rfl, rfl, rfl⟩ := hs; have hce := hce.trans (am_same (h := h) rfl cells slots).1; have hsl := hsl.trans (am_same (h := h) rfl cells slots).2; subst hce; subst hsl
    exact go_lmul C hc (fun q => kk _ _ _ _ q hl P)
  · cases hs
theorem gs_lneg (C : am_ctx E base xa dC dI cA M p R s m args meth cd) (hc : am_chk M pc (.lneg :: c) = true) (hl : am_lrel base xa L ls (am_mL M)) (P : am_hp base dC dI cA s h H locs) (hs : am_step E M (.lneg :: c) L S h = some (.inl (c', L', S', h1))) (hce : ce = cells + (h1.1.length - h.1.length)) (hsl : sl = slots + (am_sz h1 - am_sz h)) (hR : ce ≤ R.cells) (hR2 : sl ≤ R.slots) (kk : ∀ pc' ls' H' locs', am_chk M pc' c' = true → am_lrel base xa L' ls' (am_mL M) → am_hp base dC dI cA s h1 H' locs' → W p l e R s m args below meth cd H' locs' ce sl Q (F0 m pc' ls' (S'.map (am_mp base xa)))) : W p l e R s m args below meth cd H locs cells slots Q (F0 m pc ls (S.map (am_mp base xa))) := by
  simp only [am_step] at hs
  split at hs
  · simp only [am_push, Option.some.injEq, Sum.inl.injEq, Prod.mk.injEq] at hs; obtain ⟨rfl, rfl, rfl, rfl⟩ := hs; have hce := hce.trans (am_same (h := h) rfl cells slots).1; have hsl := hsl.trans (am_same (h := h) rfl cells slots).2; subst hce; subst hsl
    exact go_lneg C hc (fun q => kk _ _ _ _ q hl P)
  · cases hs
theorem gs_lcmp (C : am_ctx E base xa dC dI cA M p R s m args meth cd) (hc : am_chk M pc (.lcmp :: c) = true) (hl : am_lrel base xa L ls (am_mL M)) (P : am_hp base dC dI cA s h H locs) (hs : am_step E M (.lcmp :: c) L S h = some (.inl (c', L', S', h1))) (hce : ce = cells + (h1.1.length - h.1.length)) (hsl : sl = slots + (am_sz h1 - am_sz h)) (hR : ce ≤ R.cells) (hR2 : sl ≤ R.slots) (kk : ∀ pc' ls' H' locs', am_chk M pc' c' = true → am_lrel base xa L' ls' (am_mL M) → am_hp base dC dI cA s h1 H' locs' → W p l e R s m args below meth cd H' locs' ce sl Q (F0 m pc' ls' (S'.map (am_mp base xa)))) : W p l e R s m args below meth cd H locs cells slots Q (F0 m pc ls (S.map (am_mp base xa))) := by
  simp only [am_step] at hs
  split at hs
  · simp only [am_push, Option.some.injEq, Sum.inl.injEq, Prod.mk.injEq] at hs; obtain ⟨rfl, rfl, rfl, rfl⟩ := hs; have hce := hce.trans (am_same (h := h) rfl cells slots).1; have hsl := hsl.trans (am_same (h := h) rfl cells slots).2; subst hce; subst hsl
    exact go_lcmp C hc (fun q => kk _ _ _ _ q hl P)
  · cases hs
theorem gs_i2l (C : am_ctx E base xa dC dI cA M p R s m args meth cd) (hc : am_chk M pc (.i2l :: c) = true) (hl : am_lrel base xa L ls (am_mL M)) (P : am_hp base dC dI cA s h H locs) (hs : am_step E M (.i2l :: c) L S h = some (.inl (c', L', S', h1))) (hce : ce = cells + (h1.1.length - h.1.length)) (hsl : sl = slots + (am_sz h1 - am_sz h)) (hR : ce ≤ R.cells) (hR2 : sl ≤ R.slots) (kk : ∀ pc' ls' H' locs', am_chk M pc' c' = true → am_lrel base xa L' ls' (am_mL M) → am_hp base dC dI cA s h1 H' locs' → W p l e R s m args below meth cd H' locs' ce sl Q (F0 m pc' ls' (S'.map (am_mp base xa)))) : W p l e R s m args below meth cd H locs cells slots Q (F0 m pc ls (S.map (am_mp base xa))) := by
  simp only [am_step] at hs
  split at hs
  · simp only [am_push, Option.some.injEq, Sum.inl.injEq, Prod.mk.injEq] at hs; obtain ⟨rfl, rfl, rfl, rfl⟩ := hs; have hce := hce.trans (am_same (h := h) rfl cells slots).1; have hsl := hsl.trans (am_same (h := h) rfl cells slots).2; subst hce; subst hsl
    exact go_i2l C hc (fun q => kk _ _ _ _ q hl P)
  · cases hs
theorem gs_i2b (C : am_ctx E base xa dC dI cA M p R s m args meth cd) (hc : am_chk M pc (.i2b :: c) = true) (hl : am_lrel base xa L ls (am_mL M)) (P : am_hp base dC dI cA s h H locs) (hs : am_step E M (.i2b :: c) L S h = some (.inl (c', L', S', h1))) (hce : ce = cells + (h1.1.length - h.1.length)) (hsl : sl = slots + (am_sz h1 - am_sz h)) (hR : ce ≤ R.cells) (hR2 : sl ≤ R.slots) (kk : ∀ pc' ls' H' locs', am_chk M pc' c' = true → am_lrel base xa L' ls' (am_mL M) → am_hp base dC dI cA s h1 H' locs' → W p l e R s m args below meth cd H' locs' ce sl Q (F0 m pc' ls' (S'.map (am_mp base xa)))) : W p l e R s m args below meth cd H locs cells slots Q (F0 m pc ls (S.map (am_mp base xa))) := by
  simp only [am_step] at hs
  split at hs
  · simp only [am_push, Option.some.injEq, Sum.inl.injEq, Prod.mk.injEq] at hs; obtain ⟨rfl, rfl, rfl, rfl⟩ := hs; have hce := hce.trans (am_same (h := h) rfl cells slots).1; have hsl := hsl.trans (am_same (h := h) rfl cells slots).2; subst hce; subst hsl
    exact go_i2b C hc (fun q => kk _ _ _ _ q hl P)
  · cases hs
theorem gs_i2s (C : am_ctx E base xa dC dI cA M p R s m args meth cd) (hc : am_chk M pc (.i2s :: c) = true) (hl : am_lrel base xa L ls (am_mL M)) (P : am_hp base dC dI cA s h H locs) (hs : am_step E M (.i2s :: c) L S h = some (.inl (c', L', S', h1))) (hce : ce = cells + (h1.1.length - h.1.length)) (hsl : sl = slots + (am_sz h1 - am_sz h)) (hR : ce ≤ R.cells) (hR2 : sl ≤ R.slots) (kk : ∀ pc' ls' H' locs', am_chk M pc' c' = true → am_lrel base xa L' ls' (am_mL M) → am_hp base dC dI cA s h1 H' locs' → W p l e R s m args below meth cd H' locs' ce sl Q (F0 m pc' ls' (S'.map (am_mp base xa)))) : W p l e R s m args below meth cd H locs cells slots Q (F0 m pc ls (S.map (am_mp base xa))) := by
  simp only [am_step] at hs
  split at hs
  · simp only [am_push, Option.some.injEq, Sum.inl.injEq, Prod.mk.injEq] at hs; obtain ⟨rfl, rfl, rfl, rfl⟩ := hs; have hce := hce.trans (am_same (h := h) rfl cells slots).1; have hsl := hsl.trans (am_same (h := h) rfl cells slots).2; subst hce; subst hsl
    exact go_i2s C hc (fun q => kk _ _ _ _ q hl P)
  · cases hs
theorem gs_idiv (C : am_ctx E base xa dC dI cA M p R s m args meth cd) (hc : am_chk M pc (.idiv :: c) = true) (hl : am_lrel base xa L ls (am_mL M)) (P : am_hp base dC dI cA s h H locs) (hs : am_step E M (.idiv :: c) L S h = some (.inl (c', L', S', h1))) (hce : ce = cells + (h1.1.length - h.1.length)) (hsl : sl = slots + (am_sz h1 - am_sz h)) (hR : ce ≤ R.cells) (hR2 : sl ≤ R.slots) (kk : ∀ pc' ls' H' locs', am_chk M pc' c' = true → am_lrel base xa L' ls' (am_mL M) → am_hp base dC dI cA s h1 H' locs' → W p l e R s m args below meth cd H' locs' ce sl Q (F0 m pc' ls' (S'.map (am_mp base xa)))) : W p l e R s m args below meth cd H locs cells slots Q (F0 m pc ls (S.map (am_mp base xa))) := by
  simp only [am_step] at hs
  split at hs
  · split at hs
    · cases hs
    · rename_i hy
      simp only [am_push, Option.some.injEq, Sum.inl.injEq, Prod.mk.injEq] at hs; obtain ⟨rfl, rfl, rfl, rfl⟩ := hs; have hce := hce.trans (am_same (h := h) rfl cells slots).1; have hsl := hsl.trans (am_same (h := h) rfl cells slots).2; subst hce; subst hsl
      exact go_idiv C hy hc (fun q => kk _ _ _ _ q hl P)
  · cases hs
theorem gs_irem (C : am_ctx E base xa dC dI cA M p R s m args meth cd) (hc : am_chk M pc (.irem :: c) = true) (hl : am_lrel base xa L ls (am_mL M)) (P : am_hp base dC dI cA s h H locs) (hs : am_step E M (.irem :: c) L S h = some (.inl (c', L', S', h1))) (hce : ce = cells + (h1.1.length - h.1.length)) (hsl : sl = slots + (am_sz h1 - am_sz h)) (hR : ce ≤ R.cells) (hR2 : sl ≤ R.slots) (kk : ∀ pc' ls' H' locs', am_chk M pc' c' = true → am_lrel base xa L' ls' (am_mL M) → am_hp base dC dI cA s h1 H' locs' → W p l e R s m args below meth cd H' locs' ce sl Q (F0 m pc' ls' (S'.map (am_mp base xa)))) : W p l e R s m args below meth cd H locs cells slots Q (F0 m pc ls (S.map (am_mp base xa))) := by
  simp only [am_step] at hs
  split at hs
  · split at hs
    · cases hs
    · rename_i hy
      simp only [am_push, Option.some.injEq, Sum.inl.injEq, Prod.mk.injEq] at hs; obtain ⟨rfl, rfl, rfl, rfl⟩ := hs; have hce := hce.trans (am_same (h := h) rfl cells slots).1; have hsl := hsl.trans (am_same (h := h) rfl cells slots).2; subst hce; subst hsl
      exact go_irem C hy hc (fun q => kk _ _ _ _ q hl P)
  · cases hs
theorem gs_ldiv (C : am_ctx E base xa dC dI cA M p R s m args meth cd) (hc : am_chk M pc (.ldiv :: c) = true) (hl : am_lrel base xa L ls (am_mL M)) (P : am_hp base dC dI cA s h H locs) (hs : am_step E M (.ldiv :: c) L S h = some (.inl (c', L', S', h1))) (hce : ce = cells + (h1.1.length - h.1.length)) (hsl : sl = slots + (am_sz h1 - am_sz h)) (hR : ce ≤ R.cells) (hR2 : sl ≤ R.slots) (kk : ∀ pc' ls' H' locs', am_chk M pc' c' = true → am_lrel base xa L' ls' (am_mL M) → am_hp base dC dI cA s h1 H' locs' → W p l e R s m args below meth cd H' locs' ce sl Q (F0 m pc' ls' (S'.map (am_mp base xa)))) : W p l e R s m args below meth cd H locs cells slots Q (F0 m pc ls (S.map (am_mp base xa))) := by
  simp only [am_step] at hs
  split at hs
  · split at hs
    · cases hs
    · rename_i hy
      simp only [am_push, Option.some.injEq, Sum.inl.injEq, Prod.mk.injEq] at hs; obtain ⟨rfl, rfl, rfl, rfl⟩ := hs; have hce := hce.trans (am_same (h := h) rfl cells slots).1; have hsl := hsl.trans (am_same (h := h) rfl cells slots).2; subst hce; subst hsl
      exact go_ldiv C hy hc (fun q => kk _ _ _ _ q hl P)
  · cases hs
theorem gs_lrem (C : am_ctx E base xa dC dI cA M p R s m args meth cd) (hc : am_chk M pc (.lrem :: c) = true) (hl : am_lrel base xa L ls (am_mL M)) (P : am_hp base dC dI cA s h H locs) (hs : am_step E M (.lrem :: c) L S h = some (.inl (c', L', S', h1))) (hce : ce = cells + (h1.1.length - h.1.length)) (hsl : sl = slots + (am_sz h1 - am_sz h)) (hR : ce ≤ R.cells) (hR2 : sl ≤ R.slots) (kk : ∀ pc' ls' H' locs', am_chk M pc' c' = true → am_lrel base xa L' ls' (am_mL M) → am_hp base dC dI cA s h1 H' locs' → W p l e R s m args below meth cd H' locs' ce sl Q (F0 m pc' ls' (S'.map (am_mp base xa)))) : W p l e R s m args below meth cd H locs cells slots Q (F0 m pc ls (S.map (am_mp base xa))) := by
  simp only [am_step] at hs
  split at hs
  · split at hs
    · cases hs
    · rename_i hy
      simp only [am_push, Option.some.injEq, Sum.inl.injEq, Prod.mk.injEq] at hs; obtain ⟨rfl, rfl, rfl, rfl⟩ := hs; have hce := hce.trans (am_same (h := h) rfl cells slots).1; have hsl := hsl.trans (am_same (h := h) rfl cells slots).2; subst hce; subst hsl
      exact go_lrem C hy hc (fun q => kk _ _ _ _ q hl P)
  · cases hs
theorem gs_dup (C : am_ctx E base xa dC dI cA M p R s m args meth cd) (hc : am_chk M pc (.dup :: c) = true) (hl : am_lrel base xa L ls (am_mL M)) (P : am_hp base dC dI cA s h H locs) (hs : am_step E M (.dup :: c) L S h = some (.inl (c', L', S', h1))) (hce : ce = cells + (h1.1.length - h.1.length)) (hsl : sl = slots + (am_sz h1 - am_sz h)) (hR : ce ≤ R.cells) (hR2 : sl ≤ R.slots) (kk : ∀ pc' ls' H' locs', am_chk M pc' c' = true → am_lrel base xa L' ls' (am_mL M) → am_hp base dC dI cA s h1 H' locs' → W p l e R s m args below meth cd H' locs' ce sl Q (F0 m pc' ls' (S'.map (am_mp base xa)))) : W p l e R s m args below meth cd H locs cells slots Q (F0 m pc ls (S.map (am_mp base xa))) := by
  simp only [am_step] at hs
  split at hs
  · simp only [am_push, Option.some.injEq, Sum.inl.injEq, Prod.mk.injEq] at hs; obtain ⟨rfl, rfl, rfl, rfl⟩ := hs; have hce := hce.trans (am_same (h := h) rfl cells slots).1; have hsl := hsl.trans (am_same (h := h) rfl cells slots).2; subst hce; subst hsl
    exact go_dup C rfl hc (fun q => kk _ _ _ _ q hl P)
  · simp only [am_push, Option.some.injEq, Sum.inl.injEq, Prod.mk.injEq] at hs; obtain ⟨rfl, rfl, rfl, rfl⟩ := hs; have hce := hce.trans (am_same (h := h) rfl cells slots).1; have hsl := hsl.trans (am_same (h := h) rfl cells slots).2; subst hce; subst hsl
    exact go_dup C rfl hc (fun q => kk _ _ _ _ q hl P)
  · cases hs
theorem gs_dup2 (C : am_ctx E base xa dC dI cA M p R s m args meth cd) (hc : am_chk M pc (.dup2 :: c) = true) (hl : am_lrel base xa L ls (am_mL M)) (P : am_hp base dC dI cA s h H locs) (hs : am_step E M (.dup2 :: c) L S h = some (.inl (c', L', S', h1))) (hce : ce = cells + (h1.1.length - h.1.length)) (hsl : sl = slots + (am_sz h1 - am_sz h)) (hR : ce ≤ R.cells) (hR2 : sl ≤ R.slots) (kk : ∀ pc' ls' H' locs', am_chk M pc' c' = true → am_lrel base xa L' ls' (am_mL M) → am_hp base dC dI cA s h1 H' locs' → W p l e R s m args below meth cd H' locs' ce sl Q (F0 m pc' ls' (S'.map (am_mp base xa)))) : W p l e R s m args below meth cd H locs cells slots Q (F0 m pc ls (S.map (am_mp base xa))) := by
  simp only [am_step] at hs
  split at hs
  · simp only [am_push, Option.some.injEq, Sum.inl.injEq, Prod.mk.injEq] at hs; obtain ⟨rfl, rfl, rfl, rfl⟩ := hs; have hce := hce.trans (am_same (h := h) rfl cells slots).1; have hsl := hsl.trans (am_same (h := h) rfl cells slots).2; subst hce; subst hsl
    exact go_dup2 C rfl rfl hc (fun q => kk _ _ _ _ q hl P)
  · cases hs
theorem gs_pop (C : am_ctx E base xa dC dI cA M p R s m args meth cd) (hc : am_chk M pc (.pop :: c) = true) (hl : am_lrel base xa L ls (am_mL M)) (P : am_hp base dC dI cA s h H locs) (hs : am_step E M (.pop :: c) L S h = some (.inl (c', L', S', h1))) (hce : ce = cells + (h1.1.length - h.1.length)) (hsl : sl = slots + (am_sz h1 - am_sz h)) (hR : ce ≤ R.cells) (hR2 : sl ≤ R.slots) (kk : ∀ pc' ls' H' locs', am_chk M pc' c' = true → am_lrel base xa L' ls' (am_mL M) → am_hp base dC dI cA s h1 H' locs' → W p l e R s m args below meth cd H' locs' ce sl Q (F0 m pc' ls' (S'.map (am_mp base xa)))) : W p l e R s m args below meth cd H locs cells slots Q (F0 m pc ls (S.map (am_mp base xa))) := by
  simp only [am_step] at hs
  split at hs
  · simp only [am_push, Option.some.injEq, Sum.inl.injEq, Prod.mk.injEq] at hs; obtain ⟨rfl, rfl, rfl, rfl⟩ := hs; have hce := hce.trans (am_same (h := h) rfl cells slots).1; have hsl := hsl.trans (am_same (h := h) rfl cells slots).2; subst hce; subst hsl
    exact go_pop C rfl hc (fun q => kk _ _ _ _ q hl P)
  · cases hs
theorem gs_pop2 (C : am_ctx E base xa dC dI cA M p R s m args meth cd) (hc : am_chk M pc (.pop2 :: c) = true) (hl : am_lrel base xa L ls (am_mL M)) (P : am_hp base dC dI cA s h H locs) (hs : am_step E M (.pop2 :: c) L S h = some (.inl (c', L', S', h1))) (hce : ce = cells + (h1.1.length - h.1.length)) (hsl : sl = slots + (am_sz h1 - am_sz h)) (hR : ce ≤ R.cells) (hR2 : sl ≤ R.slots) (kk : ∀ pc' ls' H' locs', am_chk M pc' c' = true → am_lrel base xa L' ls' (am_mL M) → am_hp base dC dI cA s h1 H' locs' → W p l e R s m args below meth cd H' locs' ce sl Q (F0 m pc' ls' (S'.map (am_mp base xa)))) : W p l e R s m args below meth cd H locs cells slots Q (F0 m pc ls (S.map (am_mp base xa))) := by
  simp only [am_step] at hs
  split at hs
  · split at hs
    · rename_i h4
      simp only [am_push, Option.some.injEq, Sum.inl.injEq, Prod.mk.injEq] at hs; obtain ⟨rfl, rfl, rfl, rfl⟩ := hs; have hce := hce.trans (am_same (h := h) rfl cells slots).1; have hsl := hsl.trans (am_same (h := h) rfl cells slots).2; subst hce; subst hsl
      exact go_objinit C hl.1 h4 hc (fun q => kk _ _ _ _ q hl P)
    · cases hs
  · cases hs
theorem gs_fadd (C : am_ctx E base xa dC dI cA M p R s m args meth cd) (hc : am_chk M pc (.fadd :: c) = true) (hl : am_lrel base xa L ls (am_mL M)) (P : am_hp base dC dI cA s h H locs) (hs : am_step E M (.fadd :: c) L S h = some (.inl (c', L', S', h1))) (hce : ce = cells + (h1.1.length - h.1.length)) (hsl : sl = slots + (am_sz h1 - am_sz h)) (hR : ce ≤ R.cells) (hR2 : sl ≤ R.slots) (kk : ∀ pc' ls' H' locs', am_chk M pc' c' = true → am_lrel base xa L' ls' (am_mL M) → am_hp base dC dI cA s h1 H' locs' → W p l e R s m args below meth cd H' locs' ce sl Q (F0 m pc' ls' (S'.map (am_mp base xa)))) : W p l e R s m args below meth cd H locs cells slots Q (F0 m pc ls (S.map (am_mp base xa))) := by
  simp only [am_step] at hs
  split at hs
  · split at hs
    · rename_i h4
      simp only [am_push, Option.some.injEq, Sum.inl.injEq, Prod.mk.injEq] at hs; obtain ⟨rfl, rfl, rfl, rfl⟩ := hs; have hce := hce.trans (am_same (h := h) rfl cells slots).1; have hsl := hsl.trans (am_same (h := h) rfl cells slots).2; subst hce; subst hsl
      exact go_fadd C hl.1 h4 hR hR2 hc (fun q => kk _ _ _ _ q hl P)
    · cases hs
  · cases hs
theorem gs_fsub (C : am_ctx E base xa dC dI cA M p R s m args meth cd) (hc : am_chk M pc (.fsub :: c) = true) (hl : am_lrel base xa L ls (am_mL M)) (P : am_hp base dC dI cA s h H locs) (hs : am_step E M (.fsub :: c) L S h = some (.inl (c', L', S', h1))) (hce : ce = cells + (h1.1.length - h.1.length)) (hsl : sl = slots + (am_sz h1 - am_sz h)) (hR : ce ≤ R.cells) (hR2 : sl ≤ R.slots) (kk : ∀ pc' ls' H' locs', am_chk M pc' c' = true → am_lrel base xa L' ls' (am_mL M) → am_hp base dC dI cA s h1 H' locs' → W p l e R s m args below meth cd H' locs' ce sl Q (F0 m pc' ls' (S'.map (am_mp base xa)))) : W p l e R s m args below meth cd H locs cells slots Q (F0 m pc ls (S.map (am_mp base xa))) := by
  simp only [am_step] at hs
  split at hs
  · split at hs
    · rename_i h4
      simp only [am_push, Option.some.injEq, Sum.inl.injEq, Prod.mk.injEq] at hs; obtain ⟨rfl, rfl, rfl, rfl⟩ := hs; have hce := hce.trans (am_same (h := h) rfl cells slots).1; have hsl := hsl.trans (am_same (h := h) rfl cells slots).2; subst hce; subst hsl
      exact go_fsub C hl.1 h4 hR hR2 hc (fun q => kk _ _ _ _ q hl P)
    · cases hs
  · cases hs
theorem gs_fmul (C : am_ctx E base xa dC dI cA M p R s m args meth cd) (hc : am_chk M pc (.fmul :: c) = true) (hl : am_lrel base xa L ls (am_mL M)) (P : am_hp base dC dI cA s h H locs) (hs : am_step E M (.fmul :: c) L S h = some (.inl (c', L', S', h1))) (hce : ce = cells + (h1.1.length - h.1.length)) (hsl : sl = slots + (am_sz h1 - am_sz h)) (hR : ce ≤ R.cells) (hR2 : sl ≤ R.slots) (kk : ∀ pc' ls' H' locs', am_chk M pc' c' = true → am_lrel base xa L' ls' (am_mL M) → am_hp base dC dI cA s h1 H' locs' → W p l e R s m args below meth cd H' locs' ce sl Q (F0 m pc' ls' (S'.map (am_mp base xa)))) : W p l e R s m args below meth cd H locs cells slots Q (F0 m pc ls (S.map (am_mp base xa))) := by
  simp only [am_step] at hs
  split at hs
  · split at hs
    · rename_i h4
      simp only [am_push, Option.some.injEq, Sum.inl.injEq, Prod.mk.injEq] at hs; obtain ⟨rfl, rfl, rfl, rfl⟩ := hs; have hce := hce.trans (am_same (h := h) rfl cells slots).1; have hsl := hsl.trans (am_same (h := h) rfl cells slots).2; subst hce; subst hsl
      exact go_fmul C hl.1 h4 hR hR2 hc (fun q => kk _ _ _ _ q hl P)
    · cases hs
  · cases hs
theorem gs_fdiv (C : am_ctx E base xa dC dI cA M p R s m args meth cd) (hc : am_chk M pc (.fdiv :: c) = true) (hl : am_lrel base xa L ls (am_mL M)) (P : am_hp base dC dI cA s h H locs) (hs : am_step E M (.fdiv :: c) L S h = some (.inl (c', L', S', h1))) (hce : ce = cells + (h1.1.length - h.1.length)) (hsl : sl = slots + (am_sz h1 - am_sz h)) (hR : ce ≤ R.cells) (hR2 : sl ≤ R.slots) (kk : ∀ pc' ls' H' locs', am_chk M pc' c' = true → am_lrel base xa L' ls' (am_mL M) → am_hp base dC dI cA s h1 H' locs' → W p l e R s m args below meth cd H' locs' ce sl Q (F0 m pc' ls' (S'.map (am_mp base xa)))) : W p l e R s m args below meth cd H locs cells slots Q (F0 m pc ls (S.map (am_mp base xa))) := by
  simp only [am_step] at hs
  split at hs
  · split at hs
    · rename_i h4
      simp only [am_push, Option.some.injEq, Sum.inl.injEq, Prod.mk.injEq] at hs; obtain ⟨rfl, rfl, rfl, rfl⟩ := hs; have hce := hce.trans (am_same (h := h) rfl cells slots).1; have hsl := hsl.trans (am_same (h := h) rfl cells slots).2; subst hce; subst hsl
      exact go_fdiv C hl.1 h4 hR hR2 hc (fun q => kk _ _ _ _ q hl P)
    · cases hs
  · cases hs
theorem gs_bipush {v : Int} (C : am_ctx E base xa dC dI cA M p R s m args meth cd) (hc : am_chk M pc (.bipush v :: c) = true) (hl : am_lrel base xa L ls (am_mL M)) (P : am_hp base dC dI cA s h H locs) (hs : am_step E M (.bipush v :: c) L S h = some (.inl (c', L', S', h1))) (hce : ce = cells + (h1.1.length - h.1.length)) (hsl : sl = slots + (am_sz h1 - am_sz h)) (hR : ce ≤ R.cells) (hR2 : sl ≤ R.slots) (kk : ∀ pc' ls' H' locs', am_chk M pc' c' = true → am_lrel base xa L' ls' (am_mL M) → am_hp base dC dI cA s h1 H' locs' → W p l e R s m args below meth cd H' locs' ce sl Q (F0 m pc' ls' (S'.map (am_mp base xa)))) : W p l e R s m args below meth cd H locs cells slots Q (F0 m pc ls (S.map (am_mp base xa))) := by
  simp only [am_step] at hs
  simp only [am_push, Option.some.injEq, Sum.inl.injEq, Prod.mk.injEq] at hs; obtain ⟨rfl, rfl, rfl, rfl⟩ := hs; have hce := hce.trans (am_same (h := h) rfl cells slots).1; have hsl := hsl.trans (am_same (h := h) rfl cells slots).2; subst hce; subst hsl
  exact go_bipush C hc (fun len q => kk _ _ _ _ q hl P)
theorem gs_sipush {v : Int} (C : am_ctx E base xa dC dI cA M p R s m args meth cd) (hc : am_chk M pc (.sipush v :: c) = true) (hl : am_lrel base xa L ls (am_mL M)) (P : am_hp base dC dI cA s h H locs) (hs : am_step E M (.sipush v :: c) L S h = some (.inl (c', L', S', h1))) (hce : ce = cells + (h1.1.length - h.1.length)) (hsl : sl = slots + (am_sz h1 - am_sz h)) (hR : ce ≤ R.cells) (hR2 : sl ≤ R.slots) (kk : ∀ pc' ls' H' locs', am_chk M pc' c' = true → am_lrel base xa L' ls' (am_mL M) → am_hp base dC dI cA s h1 H' locs' → W p l e R s m args below meth cd H' locs' ce sl Q (F0 m pc' ls' (S'.map (am_mp base xa)))) : W p l e R s m args below meth cd H locs cells slots Q (F0 m pc ls (S.map (am_mp base xa))) := by
  simp only [am_step] at hs
  simp only [am_push, Option.some.injEq, Sum.inl.injEq, Prod.mk.injEq] at hs; obtain ⟨rfl, rfl, rfl, rfl⟩ := hs; have hce := hce.trans (am_same (h := h) rfl cells slots).1; have hsl := hsl.trans (am_same (h := h) rfl cells slots).2; subst hce; subst hsl
  exact go_sipush C hc (fun len q => kk _ _ _ _ q hl P)
theorem gs_iload {n : Nat} (C : am_ctx E base xa dC dI cA M p R s m args meth cd) (hc : am_chk M pc (.iload n :: c) = true) (hl : am_lrel base xa L ls (am_mL M)) (P : am_hp base dC dI cA s h H locs) (hs : am_step E M (.iload n :: c) L S h = some (.inl (c', L', S', h1))) (hce : ce = cells + (h1.1.length - h.1.length)) (hsl : sl = slots + (am_sz h1 - am_sz h)) (hR : ce ≤ R.cells) (hR2 : sl ≤ R.slots) (kk : ∀ pc' ls' H' locs', am_chk M pc' c' = true → am_lrel base xa L' ls' (am_mL M) → am_hp base dC dI cA s h1 H' locs' → W p l e R s m args below meth cd H' locs' ce sl Q (F0 m pc' ls' (S'.map (am_mp base xa)))) : W p l e R s m args below meth cd H locs cells slots Q (F0 m pc ls (S.map (am_mp base xa))) := by
  simp only [am_step] at hs
  split at hs
  · rename_i hx
    simp only [am_push, Option.some.injEq, Sum.inl.injEq, Prod.mk.injEq] at hs; obtain ⟨rfl, rfl, rfl, rfl⟩ := hs; have hce := hce.trans (am_same (h := h) rfl cells slots).1; have hsl := hsl.trans (am_same (h := h) rfl cells slots).2; subst hce; subst hsl
    exact go_iload C hl hx hc (fun len q => kk _ _ _ _ q hl P)
  · cases hs
theorem gs_lload {n : Nat} (C : am_ctx E base xa dC dI cA M p R s m args meth cd) (hc : am_chk M pc (.lload n :: c) = true) (hl : am_lrel base xa L ls (am_mL M)) (P : am_hp base dC dI cA s h H locs) (hs : am_step E M (.lload n :: c) L S h = some (.inl (c', L', S', h1))) (hce : ce = cells + (h1.1.length - h.1.length)) (hsl : sl = slots + (am_sz h1 - am_sz h)) (hR : ce ≤ R.cells) (hR2 : sl ≤ R.slots) (kk : ∀ pc' ls' H' locs', am_chk M pc' c' = true → am_lrel base xa L' ls' (am_mL M) → am_hp base dC dI cA s h1 H' locs' → W p l e R s m args below meth cd H' locs' ce sl Q (F0 m pc' ls' (S'.map (am_mp base xa)))) : W p l e R s m args below meth cd H locs cells slots Q (F0 m pc ls (S.map (am_mp base xa))) := by
  simp only [am_step] at hs
  split at hs
  · rename_i hx
    simp only [am_push, Option.some.injEq, Sum.inl.injEq, Prod.mk.injEq] at hs; obtain ⟨rfl, rfl, rfl, rfl⟩ := hs; have hce := hce.trans (am_same (h := h) rfl cells slots).1; have hsl := hsl.trans (am_same (h := h) rfl cells slots).2; subst hce; subst hsl
    exact go_lload C hl hx hc (fun len q => kk _ _ _ _ q hl P)
  · cases hs
theorem gs_aload {n : Nat} (C : am_ctx E base xa dC dI cA M p R s m args meth cd) (hc : am_chk M pc (.aload n :: c) = true) (hl : am_lrel base xa L ls (am_mL M)) (P : am_hp base dC dI cA s h H locs) (hs : am_step E M (.aload n :: c) L S h = some (.inl (c', L', S', h1))) (hce : ce = cells + (h1.1.length - h.1.length)) (hsl : sl = slots + (am_sz h1 - am_sz h)) (hR : ce ≤ R.cells) (hR2 : sl ≤ R.slots) (kk : ∀ pc' ls' H' locs', am_chk M pc' c' = true → am_lrel base xa L' ls' (am_mL M) → am_hp base dC dI cA s h1 H' locs' → W p l e R s m args below meth cd H' locs' ce sl Q (F0 m pc' ls' (S'.map (am_mp base xa)))) : W p l e R s m args below meth cd H locs cells slots Q (F0 m pc ls (S.map (am_mp base xa))) := by
  simp only [am_step] at hs
  split at hs
  · rename_i hx
    simp only [am_push, Option.some.injEq, Sum.inl.injEq, Prod.mk.injEq] at hs; obtain ⟨rfl, rfl, rfl, rfl⟩ := hs; have hce := hce.trans (am_same (h := h) rfl cells slots).1; have hsl := hsl.trans (am_same (h := h) rfl cells slots).2; subst hce; subst hsl
    exact go_aloadR C hl hx hc (fun len q => kk _ _ _ _ q hl P)
  · rename_i hx
    simp only [am_push, Option.some.injEq, Sum.inl.injEq, Prod.mk.injEq] at hs; obtain ⟨rfl, rfl, rfl, rfl⟩ := hs; have hce := hce.trans (am_same (h := h) rfl cells slots).1; have hsl := hsl.trans (am_same (h := h) rfl cells slots).2; subst hce; subst hsl
    exact go_aloadX C hl hx hc (fun len q => kk _ _ _ _ q hl P)
  · cases hs
theorem gs_istore {n : Nat} (C : am_ctx E base xa dC dI cA M p R s m args meth cd) (hc : am_chk M pc (.istore n :: c) = true) (hl : am_lrel base xa L ls (am_mL M)) (P : am_hp base dC dI cA s h H locs) (hs : am_step E M (.istore n :: c) L S h = some (.inl (c', L', S', h1))) (hce : ce = cells + (h1.1.length - h.1.length)) (hsl : sl = slots + (am_sz h1 - am_sz h)) (hR : ce ≤ R.cells) (hR2 : sl ≤ R.slots) (kk : ∀ pc' ls' H' locs', am_chk M pc' c' = true → am_lrel base xa L' ls' (am_mL M) → am_hp base dC dI cA s h1 H' locs' → W p l e R s m args below meth cd H' locs' ce sl Q (F0 m pc' ls' (S'.map (am_mp base xa)))) : W p l e R s m args below meth cd H locs cells slots Q (F0 m pc ls (S.map (am_mp base xa))) := by
  simp only [am_step] at hs
  split at hs
  · split at hs
    · rename_i hn
      simp only [am_push, Option.some.injEq, Sum.inl.injEq, Prod.mk.injEq] at hs; obtain ⟨rfl, rfl, rfl, rfl⟩ := hs; have hce := hce.trans (am_same (h := h) rfl cells slots).1; have hsl := hsl.trans (am_same (h := h) rfl cells slots).2; subst hce; subst hsl
      exact go_istore C hl hn hc (fun len ls' q q2 => kk _ _ _ _ q q2 P)
    · cases hs
  · cases hs
theorem gs_lstore {n : Nat} (C : am_ctx E base xa dC dI cA M p R s m args meth cd) (hc : am_chk M pc (.lstore n :: c) = true) (hl : am_lrel base xa L ls (am_mL M)) (P : am_hp base dC dI cA s h H locs) (hs : am_step E M (.lstore n :: c) L S h = some (.inl (c', L', S', h1))) (hce : ce = cells + (h1.1.length - h.1.length)) (hsl : sl = slots + (am_sz h1 - am_sz h)) (hR : ce ≤ R.cells) (hR2 : sl ≤ R.slots) (kk : ∀ pc' ls' H' locs', am_chk M pc' c' = true → am_lrel base xa L' ls' (am_mL M) → am_hp base dC dI cA s h1 H' locs' → W p l e R s m args below meth cd H' locs' ce sl Q (F0 m pc' ls' (S'.map (am_mp base xa)))) : W p l e R s m args below meth cd H locs cells slots Q (F0 m pc ls (S.map (am_mp base xa))) := by
  simp only [am_step] at hs
  split at hs
  · split at hs
    · rename_i hn
      simp only [am_push, Option.some.injEq, Sum.inl.injEq, Prod.mk.injEq] at hs; obtain ⟨rfl, rfl, rfl, rfl⟩ := hs; have hce := hce.trans (am_same (h := h) rfl cells slots).1; have hsl := hsl.trans (am_same (h := h) rfl cells slots).2; subst hce; subst hsl
      exact go_lstore C hl hn hc (fun len ls' q q2 => kk _ _ _ _ q q2 P)
    · cases hs
  · cases hs
theorem gs_astore {n : Nat} (C : am_ctx E base xa dC dI cA M p R s m args meth cd) (hc : am_chk M pc (.astore n :: c) = true) (hl : am_lrel base xa L ls (am_mL M)) (P : am_hp base dC dI cA s h H locs) (hs : am_step E M (.astore n :: c) L S h = some (.inl (c', L', S', h1))) (hce : ce = cells + (h1.1.length - h.1.length)) (hsl : sl = slots + (am_sz h1 - am_sz h)) (hR : ce ≤ R.cells) (hR2 : sl ≤ R.slots) (kk : ∀ pc' ls' H' locs', am_chk M pc' c' = true → am_lrel base xa L' ls' (am_mL M) → am_hp base dC dI cA s h1 H' locs' → W p l e R s m args below meth cd H' locs' ce sl Q (F0 m pc' ls' (S'.map (am_mp base xa)))) : W p l e R s m args below meth cd H locs cells slots Q (F0 m pc ls (S.map (am_mp base xa))) := by
  simp only [am_step] at hs
  split at hs
  · split at hs
    · rename_i hn
      simp only [am_push, Option.some.injEq, Sum.inl.injEq, Prod.mk.injEq] at hs; obtain ⟨rfl, rfl, rfl, rfl⟩ := hs; have hce := hce.trans (am_same (h := h) rfl cells slots).1; have hsl := hsl.trans (am_same (h := h) rfl cells slots).2; subst hce; subst hsl
      exact go_astore C hl hn hc (fun len ls' q q2 => kk _ _ _ _ q q2 P)
    · cases hs
  · cases hs
theorem gs_iinc {n : Nat} {v : Int} (C : am_ctx E base xa dC dI cA M p R s m args meth cd) (hc : am_chk M pc (.iinc n v :: c) = true) (hl : am_lrel base xa L ls (am_mL M)) (P : am_hp base dC dI cA s h H locs) (hs : am_step E M (.iinc n v :: c) L S h = some (.inl (c', L', S', h1))) (hce : ce = cells + (h1.1.length - h.1.length)) (hsl : sl = slots + (am_sz h1 - am_sz h)) (hR : ce ≤ R.cells) (hR2 : sl ≤ R.slots) (kk : ∀ pc' ls' H' locs', am_chk M pc' c' = true → am_lrel base xa L' ls' (am_mL M) → am_hp base dC dI cA s h1 H' locs' → W p l e R s m args below meth cd H' locs' ce sl Q (F0 m pc' ls' (S'.map (am_mp base xa)))) : W p l e R s m args below meth cd H locs cells slots Q (F0 m pc ls (S.map (am_mp base xa))) := by
  simp only [am_step] at hs
  split at hs
  · rename_i hx
    simp only [am_push, Option.some.injEq, Sum.inl.injEq, Prod.mk.injEq] at hs; obtain ⟨rfl, rfl, rfl, rfl⟩ := hs; have hce := hce.trans (am_same (h := h) rfl cells slots).1; have hsl := hsl.trans (am_same (h := h) rfl cells slots).2; subst hce; subst hsl
    exact go_iinc C hl hx hc (fun len ls' q q2 => kk _ _ _ _ q q2 P)
  · cases hs
theorem gs_goto {t : Int} (C : am_ctx E base xa dC dI cA M p R s m args meth cd) (hc : am_chk M pc (.goto t :: c) = true) (hl : am_lrel base xa L ls (am_mL M)) (P : am_hp base dC dI cA s h H locs) (hs : am_step E M (.goto t :: c) L S h = some (.inl (c', L', S', h1))) (hce : ce = cells + (h1.1.length - h.1.length)) (hsl : sl = slots + (am_sz h1 - am_sz h)) (hR : ce ≤ R.cells) (hR2 : sl ≤ R.slots) (kk : ∀ pc' ls' H' locs', am_chk M pc' c' = true → am_lrel base xa L' ls' (am_mL M) → am_hp base dC dI cA s h1 H' locs' → W p l e R s m args below meth cd H' locs' ce sl Q (F0 m pc' ls' (S'.map (am_mp base xa)))) : W p l e R s m args below meth cd H locs cells slots Q (F0 m pc ls (S.map (am_mp base xa))) := by
  simp only [am_step] at hs
  simp only [am_push, Option.some.injEq, Sum.inl.injEq, Prod.mk.injEq] at hs; obtain ⟨rfl, rfl, rfl, rfl⟩ := hs; have hce := hce.trans (am_same (h := h) rfl cells slots).1; have hsl := hsl.trans (am_same (h := h) rfl cells slots).2; subst hce; subst hsl
  exact go_goto C hc (fun q => kk _ _ _ _ q hl P)
theorem gs_jsr {t : Int} (C : am_ctx E base xa dC dI cA M p R s m args meth cd) (hc : am_chk M pc (.jsr t :: c) = true) (hl : am_lrel base xa L ls (am_mL M)) (P : am_hp base dC dI cA s h H locs) (hs : am_step E M (.jsr t :: c) L S h = some (.inl (c', L', S', h1))) (hce : ce = cells + (h1.1.length - h.1.length)) (hsl : sl = slots + (am_sz h1 - am_sz h)) (hR : ce ≤ R.cells) (hR2 : sl ≤ R.slots) (kk : ∀ pc' ls' H' locs', am_chk M pc' c' = true → am_lrel base xa L' ls' (am_mL M) → am_hp base dC dI cA s h1 H' locs' → W p l e R s m args below meth cd H' locs' ce sl Q (F0 m pc' ls' (S'.map (am_mp base xa)))) : W p l e R s m args below meth cd H locs cells slots Q (F0 m pc ls (S.map (am_mp base xa))) := by
  simp only [am_step] at hs
  simp only [am_push, Option.some.injEq, Sum.inl.injEq, Prod.mk.injEq] at hs; obtain ⟨rfl, rfl, rfl, rfl⟩ := hs; have hce := hce.trans (am_same (h := h) rfl cells slots).1; have hsl := hsl.trans (am_same (h := h) rfl cells slots).2; subst hce; subst hsl
  exact go_jsr hc (fun q => kk _ _ _ _ q hl P)
theorem gs_if_icmp {o : Jvm.ClassFile.Cond} {t : Int} (C : am_ctx E base xa dC dI cA M p R s m args meth cd) (hc : am_chk M pc (.if_icmp o t :: c) = true) (hl : am_lrel base xa L ls (am_mL M)) (P : am_hp base dC dI cA s h H locs) (hs : am_step E M (.if_icmp o t :: c) L S h = some (.inl (c', L', S', h1))) (hce : ce = cells + (h1.1.length - h.1.length)) (hsl : sl = slots + (am_sz h1 - am_sz h)) (hR : ce ≤ R.cells) (hR2 : sl ≤ R.slots) (kk : ∀ pc' ls' H' locs', am_chk M pc' c' = true → am_lrel base xa L' ls' (am_mL M) → am_hp base dC dI cA s h1 H' locs' → W p l e R s m args below meth cd H' locs' ce sl Q (F0 m pc' ls' (S'.map (am_mp base xa)))) : W p l e R s m args below meth cd H locs cells slots Q (F0 m pc ls (S.map (am_mp base xa))) := by
  simp only [am_step] at hs
  split at hs
  · split at hs
    · rename_i hq
      simp only [am_push, Option.some.injEq, Sum.inl.injEq, Prod.mk.injEq] at hs; obtain ⟨rfl, rfl, rfl, rfl⟩ := hs; have hce := hce.trans (am_same (h := h) rfl cells slots).1; have hsl := hsl.trans (am_same (h := h) rfl cells slots).2; subst hce; subst hsl
      exact go_icmp C hc (fun q _ => kk _ _ _ _ q hl P) (fun _ q2 => by rw [hq] at q2; cases q2)
    · rename_i hq
      simp only [am_push, Option.some.injEq, Sum.inl.injEq, Prod.mk.injEq] at hs; obtain ⟨rfl, rfl, rfl, rfl⟩ := hs; have hce := hce.trans (am_same (h := h) rfl cells slots).1; have hsl := hsl.trans (am_same (h := h) rfl cells slots).2; subst hce; subst hsl
      exact go_icmp C hc (fun _ q2 => absurd q2 hq) (fun q _ => kk _ _ _ _ q hl P)
  · cases hs
theorem gs_ifCond {o : Jvm.ClassFile.Cond} {t : Int} (C : am_ctx E base xa dC dI cA M p R s m args meth cd) (hc : am_chk M pc (.ifCond o t :: c) = true) (hl : am_lrel base xa L ls (am_mL M)) (P : am_hp base dC dI cA s h H locs) (hs : am_step E M (.ifCond o t :: c) L S h = some (.inl (c', L', S', h1))) (hce : ce = cells + (h1.1.length - h.1.length)) (hsl : sl = slots + (am_sz h1 - am_sz h)) (hR : ce ≤ R.cells) (hR2 : sl ≤ R.slots) (kk : ∀ pc' ls' H' locs', am_chk M pc' c' = true → am_lrel base xa L' ls' (am_mL M) → am_hp base dC dI cA s h1 H' locs' → W p l e R s m args below meth cd H' locs' ce sl Q (F0 m pc' ls' (S'.map (am_mp base xa)))) : W p l e R s m args below meth cd H locs cells slots Q (F0 m pc ls (S.map (am_mp base xa))) := by
  simp only [am_step] at hs
  split at hs
  · split at hs
    · rename_i hq
      simp only [am_push, Option.some.injEq, Sum.inl.injEq, Prod.mk.injEq] at hs; obtain ⟨rfl, rfl, rfl, rfl⟩ := hs; have hce := hce.trans (am_same (h := h) rfl cells slots).1; have hsl := hsl.trans (am_same (h := h) rfl cells slots).2; subst hce; subst hsl
      exact go_ifc C hc (fun q _ => kk _ _ _ _ q hl P) (fun _ q2 => by rw [hq] at q2; cases q2)
    · rename_i hq
      simp only [am_push, Option.some.injEq, Sum.inl.injEq, Prod.mk.injEq] at hs; obtain ⟨rfl, rfl, rfl, rfl⟩ := hs; have hce := hce.trans (am_same (h := h) rfl cells slots).1; have hsl := hsl.trans (am_same (h := h) rfl cells slots).2; subst hce; subst hsl
      exact go_ifc C hc (fun _ q2 => absurd q2 hq) (fun q _ => kk _ _ _ _ q hl P)
  · cases hs
theorem gs_tableswitch {d : Int} {lo : Int} {hi : Int} {os : Array Int} (C : am_ctx E base xa dC dI cA M p R s m args meth cd) (hc : am_chk M pc (.tableswitch d lo hi os :: c) = true) (hl : am_lrel base xa L ls (am_mL M)) (P : am_hp base dC dI cA s h H locs) (hs : am_step E M (.tableswitch d lo hi os :: c) L S h = some (.inl (c', L', S', h1))) (hce : ce = cells + (h1.1.length - h.1.length)) (hsl : sl = slots + (am_sz h1 - am_sz h)) (hR : ce ≤ R.cells) (hR2 : sl ≤ R.slots) (kk : ∀ pc' ls' H' locs', am_chk M pc' c' = true → am_lrel base xa L' ls' (am_mL M) → am_hp base dC dI cA s h1 H' locs' → W p l e R s m args below meth cd H' locs' ce sl Q (F0 m pc' ls' (S'.map (am_mp base xa)))) : W p l e R s m args below meth cd H locs cells slots Q (F0 m pc ls (S.map (am_mp base xa))) := by
  simp only [am_step] at hs
  split at hs
  · simp only [am_push, Option.some.injEq, Sum.inl.injEq, Prod.mk.injEq] at hs; obtain ⟨rfl, rfl, rfl, rfl⟩ := hs; have hce := hce.trans (am_same (h := h) rfl cells slots).1; have hsl := hsl.trans (am_same (h := h) rfl cells slots).2; subst hce; subst hsl
    exact go_tsw C hc (fun q => kk _ _ _ _ q hl P)
  · cases hs
theorem gs_lookupswitch {d : Int} {ps : Array (Int × Int)} (C : am_ctx E base xa dC dI cA M p R s m args meth cd) (hc : am_chk M pc (.lookupswitch d ps :: c) = true) (hl : am_lrel base xa L ls (am_mL M)) (P : am_hp base dC dI cA s h H locs) (hs : am_step E M (.lookupswitch d ps :: c) L S h = some (.inl (c', L', S', h1))) (hce : ce = cells + (h1.1.length - h.1.length)) (hsl : sl = slots + (am_sz h1 - am_sz h)) (hR : ce ≤ R.cells) (hR2 : sl ≤ R.slots) (kk : ∀ pc' ls' H' locs', am_chk M pc' c' = true → am_lrel base xa L' ls' (am_mL M) → am_hp base dC dI cA s h1 H' locs' → W p l e R s m args below meth cd H' locs' ce sl Q (F0 m pc' ls' (S'.map (am_mp base xa)))) : W p l e R s m args below meth cd H locs cells slots Q (F0 m pc ls (S.map (am_mp base xa))) := by
  simp only [am_step] at hs
  split at hs
  · simp only [am_push, Option.some.injEq, Sum.inl.injEq, Prod.mk.injEq] at hs; obtain ⟨rfl, rfl, rfl, rfl⟩ := hs; have hce := hce.trans (am_same (h := h) rfl cells slots).1; have hsl := hsl.trans (am_same (h := h) rfl cells slots).2; subst hce; subst hsl
    exact go_lsw C hc (fun q => kk _ _ _ _ q hl P)
  · cases hs
theorem gs_getfield {x : Nat} (C : am_ctx E base xa dC dI cA M p R s m args meth cd) (hc : am_chk M pc (.getfield x :: c) = true) (hl : am_lrel base xa L ls (am_mL M)) (P : am_hp base dC dI cA s h H locs) (hs : am_step E M (.getfield x :: c) L S h = some (.inl (c', L', S', h1))) (hce : ce = cells + (h1.1.length - h.1.length)) (hsl : sl = slots + (am_sz h1 - am_sz h)) (hR : ce ≤ R.cells) (hR2 : sl ≤ R.slots) (kk : ∀ pc' ls' H' locs', am_chk M pc' c' = true → am_lrel base xa L' ls' (am_mL M) → am_hp base dC dI cA s h1 H' locs' → W p l e R s m args below meth cd H' locs' ce sl Q (F0 m pc' ls' (S'.map (am_mp base xa)))) : W p l e R s m args below meth cd H locs cells slots Q (F0 m pc ls (S.map (am_mp base xa))) := by
  simp only [am_step] at hs
  split at hs
  · split at hs
    · rename_i ho
      simp only [am_push, Option.some.injEq, Sum.inl.injEq, Prod.mk.injEq] at hs; obtain ⟨rfl, rfl, rfl, rfl⟩ := hs; have hce := hce.trans (am_same (h := h) rfl cells slots).1; have hsl := hsl.trans (am_same (h := h) rfl cells slots).2; subst hce; subst hsl
      exact go_getf C P ho hc (fun q => kk _ _ _ _ q hl P)
    · cases hs
  · cases hs
theorem gs_putfield {x : Nat} (C : am_ctx E base xa dC dI cA M p R s m args meth cd) (hc : am_chk M pc (.putfield x :: c) = true) (hl : am_lrel base xa L ls (am_mL M)) (P : am_hp base dC dI cA s h H locs) (hs : am_step E M (.putfield x :: c) L S h = some (.inl (c', L', S', h1))) (hce : ce = cells + (h1.1.length - h.1.length)) (hsl : sl = slots + (am_sz h1 - am_sz h)) (hR : ce ≤ R.cells) (hR2 : sl ≤ R.slots) (kk : ∀ pc' ls' H' locs', am_chk M pc' c' = true → am_lrel base xa L' ls' (am_mL M) → am_hp base dC dI cA s h1 H' locs' → W p l e R s m args below meth cd H' locs' ce sl Q (F0 m pc' ls' (S'.map (am_mp base xa)))) : W p l e R s m args below meth cd H locs cells slots Q (F0 m pc ls (S.map (am_mp base xa))) := by
  simp only [am_step] at hs
  split at hs
  · split at hs
    · rename_i ho
      split at hs
      · rename_i hp
        simp only [am_push, Option.some.injEq, Sum.inl.injEq, Prod.mk.injEq] at hs; obtain ⟨rfl, rfl, rfl, rfl⟩ := hs
        rw [(am_same (h := h) (am_pf_lay hp) cells slots).1] at hce; rw [(am_same (h := h) (am_pf_lay hp) cells slots).2] at hsl; subst hce; subst hsl
        exact go_putf C P ho hp hc (fun H' locs' q q2 => kk _ _ _ _ q hl q2)
      · cases hs
    · cases hs
  · cases hs
theorem gs_getstatic {x : Nat} (C : am_ctx E base xa dC dI cA M p R s m args meth cd) (hc : am_chk M pc (.getstatic x :: c) = true) (hl : am_lrel base xa L ls (am_mL M)) (P : am_hp base dC dI cA s h H locs) (hs : am_step E M (.getstatic x :: c) L S h = some (.inl (c', L', S', h1))) (hce : ce = cells + (h1.1.length - h.1.length)) (hsl : sl = slots + (am_sz h1 - am_sz h)) (hR : ce ≤ R.cells) (hR2 : sl ≤ R.slots) (kk : ∀ pc' ls' H' locs', am_chk M pc' c' = true → am_lrel base xa L' ls' (am_mL M) → am_hp base dC dI cA s h1 H' locs' → W p l e R s m args below meth cd H' locs' ce sl Q (F0 m pc' ls' (S'.map (am_mp base xa)))) : W p l e R s m args below meth cd H locs cells slots Q (F0 m pc ls (S.map (am_mp base xa))) := by
  simp only [am_step] at hs
  simp only [am_push, Option.some.injEq, Sum.inl.injEq, Prod.mk.injEq] at hs; obtain ⟨rfl, rfl, rfl, rfl⟩ := hs; have hce := hce.trans (am_same (h := h) rfl cells slots).1; have hsl := hsl.trans (am_same (h := h) rfl cells slots).2; subst hce; subst hsl
  exact go_gets C P hc (fun q => kk _ _ _ _ q hl P)
theorem gs_iaload (C : am_ctx E base xa dC dI cA M p R s m args meth cd) (hc : am_chk M pc (.iaload :: c) = true) (hl : am_lrel base xa L ls (am_mL M)) (P : am_hp base dC dI cA s h H locs) (hs : am_step E M (.iaload :: c) L S h = some (.inl (c', L', S', h1))) (hce : ce = cells + (h1.1.length - h.1.length)) (hsl : sl = slots + (am_sz h1 - am_sz h)) (hR : ce ≤ R.cells) (hR2 : sl ≤ R.slots) (kk : ∀ pc' ls' H' locs', am_chk M pc' c' = true → am_lrel base xa L' ls' (am_mL M) → am_hp base dC dI cA s h1 H' locs' → W p l e R s m args below meth cd H' locs' ce sl Q (F0 m pc' ls' (S'.map (am_mp base xa)))) : W p l e R s m args below meth cd H locs cells slots Q (F0 m pc ls (S.map (am_mp base xa))) := by
  simp only [am_step] at hs
  split at hs
  · split at hs
    · rename_i hr
      simp only [am_push, Option.some.injEq, Sum.inl.injEq, Prod.mk.injEq] at hs; obtain ⟨rfl, rfl, rfl, rfl⟩ := hs; have hce := hce.trans (am_same (h := h) rfl cells slots).1; have hsl := hsl.trans (am_same (h := h) rfl cells slots).2; subst hce; subst hsl
      exact go_iaload C P hr hc (fun q => kk _ _ _ _ q hl P)
    · cases hs
  · split at hs
    · rename_i hr
      simp only [am_push, Option.some.injEq, Sum.inl.injEq, Prod.mk.injEq] at hs; obtain ⟨rfl, rfl, rfl, rfl⟩ := hs; have hce := hce.trans (am_same (h := h) rfl cells slots).1; have hsl := hsl.trans (am_same (h := h) rfl cells slots).2; subst hce; subst hsl
      exact go_xld C P hr.1 hr.2 hc (fun q => kk _ _ _ _ q hl P)
    · cases hs
  · cases hs
theorem gs_baload (C : am_ctx E base xa dC dI cA M p R s m args meth cd) (hc : am_chk M pc (.baload :: c) = true) (hl : am_lrel base xa L ls (am_mL M)) (P : am_hp base dC dI cA s h H locs) (hs : am_step E M (.baload :: c) L S h = some (.inl (c', L', S', h1))) (hce : ce = cells + (h1.1.length - h.1.length)) (hsl : sl = slots + (am_sz h1 - am_sz h)) (hR : ce ≤ R.cells) (hR2 : sl ≤ R.slots) (kk : ∀ pc' ls' H' locs', am_chk M pc' c' = true → am_lrel base xa L' ls' (am_mL M) → am_hp base dC dI cA s h1 H' locs' → W p l e R s m args below meth cd H' locs' ce sl Q (F0 m pc' ls' (S'.map (am_mp base xa)))) : W p l e R s m args below meth cd H locs cells slots Q (F0 m pc ls (S.map (am_mp base xa))) := by
  simp only [am_step] at hs
  split at hs
  · split at hs
    · rename_i hr
      simp only [am_push, Option.some.injEq, Sum.inl.injEq, Prod.mk.injEq] at hs; obtain ⟨rfl, rfl, rfl, rfl⟩ := hs; have hce := hce.trans (am_same (h := h) rfl cells slots).1; have hsl := hsl.trans (am_same (h := h) rfl cells slots).2; subst hce; subst hsl
      exact go_baload C P hr hc (fun q => kk _ _ _ _ q hl P)
    · cases hs
  · cases hs
theorem gs_laload (C : am_ctx E base xa dC dI cA M p R s m args meth cd) (hc : am_chk M pc (.laload :: c) = true) (hl : am_lrel base xa L ls (am_mL M)) (P : am_hp base dC dI cA s h H locs) (hs : am_step E M (.laload :: c) L S h = some (.inl (c', L', S', h1))) (hce : ce = cells + (h1.1.length - h.1.length)) (hsl : sl = slots + (am_sz h1 - am_sz h)) (hR : ce ≤ R.cells) (hR2 : sl ≤ R.slots) (kk : ∀ pc' ls' H' locs', am_chk M pc' c' = true → am_lrel base xa L' ls' (am_mL M) → am_hp base dC dI cA s h1 H' locs' → W p l e R s m args below meth cd H' locs' ce sl Q (F0 m pc' ls' (S'.map (am_mp base xa)))) : W p l e R s m args below meth cd H locs cells slots Q (F0 m pc ls (S.map (am_mp base xa))) := by
  simp only [am_step] at hs
  split at hs
  · split at hs
    · rename_i hr
      simp only [am_push, Option.some.injEq, Sum.inl.injEq, Prod.mk.injEq] at hs; obtain ⟨rfl, rfl, rfl, rfl⟩ := hs; have hce := hce.trans (am_same (h := h) rfl cells slots).1; have hsl := hsl.trans (am_same (h := h) rfl cells slots).2; subst hce; subst hsl
      exact go_laload C P hr hc (fun q => kk _ _ _ _ q hl P)
    · cases hs
  · cases hs
theorem gs_aaload (C : am_ctx E base xa dC dI cA M p R s m args meth cd) (hc : am_chk M pc (.aaload :: c) = true) (hl : am_lrel base xa L ls (am_mL M)) (P : am_hp base dC dI cA s h H locs) (hs : am_step E M (.aaload :: c) L S h = some (.inl (c', L', S', h1))) (hce : ce = cells + (h1.1.length - h.1.length)) (hsl : sl = slots + (am_sz h1 - am_sz h)) (hR : ce ≤ R.cells) (hR2 : sl ≤ R.slots) (kk : ∀ pc' ls' H' locs', am_chk M pc' c' = true → am_lrel base xa L' ls' (am_mL M) → am_hp base dC dI cA s h1 H' locs' → W p l e R s m args below meth cd H' locs' ce sl Q (F0 m pc' ls' (S'.map (am_mp base xa)))) : W p l e R s m args below meth cd H locs cells slots Q (F0 m pc ls (S.map (am_mp base xa))) := by
  simp only [am_step] at hs
  split at hs
  · split at hs
    · rename_i hr
      simp only [am_push, Option.some.injEq, Sum.inl.injEq, Prod.mk.injEq] at hs; obtain ⟨rfl, rfl, rfl, rfl⟩ := hs; have hce := hce.trans (am_same (h := h) rfl cells slots).1; have hsl := hsl.trans (am_same (h := h) rfl cells slots).2; subst hce; subst hsl
      exact go_aaload C P hr hc (fun q => kk _ _ _ _ q hl P)
    · cases hs
  · cases hs
theorem gs_iastore (C : am_ctx E base xa dC dI cA M p R s m args meth cd) (hc : am_chk M pc (.iastore :: c) = true) (hl : am_lrel base xa L ls (am_mL M)) (P : am_hp base dC dI cA s h H locs) (hs : am_step E M (.iastore :: c) L S h = some (.inl (c', L', S', h1))) (hce : ce = cells + (h1.1.length - h.1.length)) (hsl : sl = slots + (am_sz h1 - am_sz h)) (hR : ce ≤ R.cells) (hR2 : sl ≤ R.slots) (kk : ∀ pc' ls' H' locs', am_chk M pc' c' = true → am_lrel base xa L' ls' (am_mL M) → am_hp base dC dI cA s h1 H' locs' → W p l e R s m args below meth cd H' locs' ce sl Q (F0 m pc' ls' (S'.map (am_mp base xa)))) : W p l e R s m args below meth cd H locs cells slots Q (F0 m pc ls (S.map (am_mp base xa))) := by
  simp only [am_step] at hs
  split at hs
  · split at hs
    · rename_i hr
      simp only [am_push, Option.some.injEq, Sum.inl.injEq, Prod.mk.injEq] at hs; obtain ⟨rfl, rfl, rfl, rfl⟩ := hs; have hce := hce.trans (am_same (h := h) rfl cells slots).1; have hsl := hsl.trans (am_same (h := h) rfl cells slots).2; subst hce; subst hsl
      exact go_iastore C P hr hc (fun H' locs' q q2 => kk _ _ _ _ q hl q2)
    · cases hs
  · cases hs
theorem gs_lastore (C : am_ctx E base xa dC dI cA M p R s m args meth cd) (hc : am_chk M pc (.lastore :: c) = true) (hl : am_lrel base xa L ls (am_mL M)) (P : am_hp base dC dI cA s h H locs) (hs : am_step E M (.lastore :: c) L S h = some (.inl (c', L', S', h1))) (hce : ce = cells + (h1.1.length - h.1.length)) (hsl : sl = slots + (am_sz h1 - am_sz h)) (hR : ce ≤ R.cells) (hR2 : sl ≤ R.slots) (kk : ∀ pc' ls' H' locs', am_chk M pc' c' = true → am_lrel base xa L' ls' (am_mL M) → am_hp base dC dI cA s h1 H' locs' → W p l e R s m args below meth cd H' locs' ce sl Q (F0 m pc' ls' (S'.map (am_mp base xa)))) : W p l e R s m args below meth cd H locs cells slots Q (F0 m pc ls (S.map (am_mp base xa))) := by
  simp only [am_step] at hs
  split at hs
  · split at hs
    · rename_i hr
      simp only [am_push, Option.some.injEq, Sum.inl.injEq, Prod.mk.injEq] at hs; obtain ⟨rfl, rfl, rfl, rfl⟩ := hs; have hce := hce.trans (am_same (h := h) rfl cells slots).1; have hsl := hsl.trans (am_same (h := h) rfl cells slots).2; subst hce; subst hsl
      exact go_lastore C P hr hc (fun H' locs' q q2 => kk _ _ _ _ q hl q2)
    · cases hs
  · cases hs
theorem gs_bastore (C : am_ctx E base xa dC dI cA M p R s m args meth cd) (hc : am_chk M pc (.bastore :: c) = true) (hl : am_lrel base xa L ls (am_mL M)) (P : am_hp base dC dI cA s h H locs) (hs : am_step E M (.bastore :: c) L S h = some (.inl (c', L', S', h1))) (hce : ce = cells + (h1.1.length - h.1.length)) (hsl : sl = slots + (am_sz h1 - am_sz h)) (hR : ce ≤ R.cells) (hR2 : sl ≤ R.slots) (kk : ∀ pc' ls' H' locs', am_chk M pc' c' = true → am_lrel base xa L' ls' (am_mL M) → am_hp base dC dI cA s h1 H' locs' → W p l e R s m args below meth cd H' locs' ce sl Q (F0 m pc' ls' (S'.map (am_mp base xa)))) : W p l e R s m args below meth cd H locs cells slots Q (F0 m pc ls (S.map (am_mp base xa))) := by
  simp only [am_step] at hs
  split at hs
  · split at hs
    · rename_i hr
      simp only [am_push, Option.some.injEq, Sum.inl.injEq, Prod.mk.injEq] at hs; obtain ⟨rfl, rfl, rfl, rfl⟩ := hs; have hce := hce.trans (am_same (h := h) rfl cells slots).1; have hsl := hsl.trans (am_same (h := h) rfl cells slots).2; subst hce; subst hsl
      exact go_bastore C P hr.1 hr.2 hc (fun H' locs' q q2 => kk _ _ _ _ q hl q2)
    · cases hs
  · cases hs
theorem gs_aastore (C : am_ctx E base xa dC dI cA M p R s m args meth cd) (hc : am_chk M pc (.aastore :: c) = true) (hl : am_lrel base xa L ls (am_mL M)) (P : am_hp base dC dI cA s h H locs) (hs : am_step E M (.aastore :: c) L S h = some (.inl (c', L', S', h1))) (hce : ce = cells + (h1.1.length - h.1.length)) (hsl : sl = slots + (am_sz h1 - am_sz h)) (hR : ce ≤ R.cells) (hR2 : sl ≤ R.slots) (kk : ∀ pc' ls' H' locs', am_chk M pc' c' = true → am_lrel base xa L' ls' (am_mL M) → am_hp base dC dI cA s h1 H' locs' → W p l e R s m args below meth cd H' locs' ce sl Q (F0 m pc' ls' (S'.map (am_mp base xa)))) : W p l e R s m args below meth cd H locs cells slots Q (F0 m pc ls (S.map (am_mp base xa))) := by
  simp only [am_step] at hs
  split at hs
  · split at hs
    · rename_i hr
      simp only [am_push, Option.some.injEq, Sum.inl.injEq, Prod.mk.injEq] at hs; obtain ⟨rfl, rfl, rfl, rfl⟩ := hs; have hce := hce.trans (am_same (h := h) rfl cells slots).1; have hsl := hsl.trans (am_same (h := h) rfl cells slots).2; subst hce; subst hsl
      exact go_aastore C P hr.1 hr.2 hc (fun H' locs' q q2 => kk _ _ _ _ q hl q2)
    · cases hs
  · cases hs
theorem gs_arraylength (C : am_ctx E base xa dC dI cA M p R s m args meth cd) (hc : am_chk M pc (.arraylength :: c) = true) (hl : am_lrel base xa L ls (am_mL M)) (P : am_hp base dC dI cA s h H locs) (hs : am_step E M (.arraylength :: c) L S h = some (.inl (c', L', S', h1))) (hce : ce = cells + (h1.1.length - h.1.length)) (hsl : sl = slots + (am_sz h1 - am_sz h)) (hR : ce ≤ R.cells) (hR2 : sl ≤ R.slots) (kk : ∀ pc' ls' H' locs', am_chk M pc' c' = true → am_lrel base xa L' ls' (am_mL M) → am_hp base dC dI cA s h1 H' locs' → W p l e R s m args below meth cd H' locs' ce sl Q (F0 m pc' ls' (S'.map (am_mp base xa)))) : W p l e R s m args below meth cd H locs cells slots Q (F0 m pc ls (S.map (am_mp base xa))) := by
  simp only [am_step] at hs
  split at hs
  · split at hs
    · rename_i hr
      simp only [am_push, Option.some.injEq, Sum.inl.injEq, Prod.mk.injEq] at hs; obtain ⟨rfl, rfl, rfl, rfl⟩ := hs; have hce := hce.trans (am_same (h := h) rfl cells slots).1; have hsl := hsl.trans (am_same (h := h) rfl cells slots).2; subst hce; subst hsl
      exact go_xlen C P hr hc (fun q => kk _ _ _ _ q hl P)
    · cases hs
  · cases hs
theorem gs_new {x : Nat} (C : am_ctx E base xa dC dI cA M p R s m args meth cd) (hc : am_chk M pc (.new x :: c) = true) (hl : am_lrel base xa L ls (am_mL M)) (P : am_hp base dC dI cA s h H locs) (hs : am_step E M (.new x :: c) L S h = some (.inl (c', L', S', h1))) (hce : ce = cells + (h1.1.length - h.1.length)) (hsl : sl = slots + (am_sz h1 - am_sz h)) (hR : ce ≤ R.cells) (hR2 : sl ≤ R.slots) (kk : ∀ pc' ls' H' locs', am_chk M pc' c' = true → am_lrel base xa L' ls' (am_mL M) → am_hp base dC dI cA s h1 H' locs' → W p l e R s m args below meth cd H' locs' ce sl Q (F0 m pc' ls' (S'.map (am_mp base xa)))) : W p l e R s m args below meth cd H locs cells slots Q (F0 m pc ls (S.map (am_mp base xa))) := by
  simp only [am_step] at hs
  simp only [am_push, Option.some.injEq, Sum.inl.injEq, Prod.mk.injEq] at hs; obtain ⟨rfl, rfl, rfl, rfl⟩ := hs; rw [(am_more h _ cells slots).1] at hce; rw [(am_more h _ cells slots).2] at hsl; subst hce; subst hsl
  exact go_new C P hR hR2 hc (fun H' locs' q q2 => kk _ _ _ _ q hl q2)
theorem gs_newarray {t : ArrayType} (C : am_ctx E base xa dC dI cA M p R s m args meth cd) (hc : am_chk M pc (.newarray t :: c) = true) (hl : am_lrel base xa L ls (am_mL M)) (P : am_hp base dC dI cA s h H locs) (hs : am_step E M (.newarray t :: c) L S h = some (.inl (c', L', S', h1))) (hce : ce = cells + (h1.1.length - h.1.length)) (hsl : sl = slots + (am_sz h1 - am_sz h)) (hR : ce ≤ R.cells) (hR2 : sl ≤ R.slots) (kk : ∀ pc' ls' H' locs', am_chk M pc' c' = true → am_lrel base xa L' ls' (am_mL M) → am_hp base dC dI cA s h1 H' locs' → W p l e R s m args below meth cd H' locs' ce sl Q (F0 m pc' ls' (S'.map (am_mp base xa)))) : W p l e R s m args below meth cd H locs cells slots Q (F0 m pc ls (S.map (am_mp base xa))) := by
  simp only [am_step] at hs
  split at hs
  · split at hs
    · rename_i hn
      simp only [am_push, Option.some.injEq, Sum.inl.injEq, Prod.mk.injEq] at hs; obtain ⟨rfl, rfl, rfl, rfl⟩ := hs; rw [(am_more h _ cells slots).1] at hce; rw [(am_more h _ cells slots).2] at hsl; subst hce; subst hsl
      exact go_newarray C P hn.1 hn.2 hR hR2 hc (fun H' locs' q q2 => kk _ _ _ _ q hl q2)
    · cases hs
  · cases hs
theorem gs_anewarray {t : Nat} (C : am_ctx E base xa dC dI cA M p R s m args meth cd) (hc : am_chk M pc (.anewarray t :: c) = true) (hl : am_lrel base xa L ls (am_mL M)) (P : am_hp base dC dI cA s h H locs) (hs : am_step E M (.anewarray t :: c) L S h = some (.inl (c', L', S', h1))) (hce : ce = cells + (h1.1.length - h.1.length)) (hsl : sl = slots + (am_sz h1 - am_sz h)) (hR : ce ≤ R.cells) (hR2 : sl ≤ R.slots) (kk : ∀ pc' ls' H' locs', am_chk M pc' c' = true → am_lrel base xa L' ls' (am_mL M) → am_hp base dC dI cA s h1 H' locs' → W p l e R s m args below meth cd H' locs' ce sl Q (F0 m pc' ls' (S'.map (am_mp base xa)))) : W p l e R s m args below meth cd H locs cells slots Q (F0 m pc ls (S.map (am_mp base xa))) := by
  simp only [am_step] at hs
  split at hs
  · split at hs
    · rename_i hn
      simp only [am_push, Option.some.injEq, Sum.inl.injEq, Prod.mk.injEq] at hs; obtain ⟨rfl, rfl, rfl, rfl⟩ := hs; rw [(am_more h _ cells slots).1] at hce; rw [(am_more h _ cells slots).2] at hsl; subst hce; subst hsl
      exact go_anewarray C P hn.1 hn.2 hR hR2 hc (fun H' locs' q q2 => kk _ _ _ _ q hl q2)
    · cases hs
  · cases hs
theorem am_go (C : am_ctx E base xa dC dI cA M p R s m args meth cd) (hc : am_chk M pc c0 = true) (hl : am_lrel base xa L ls (am_mL M)) (P : am_hp base dC dI cA s h H locs) (hs : am_step E M c0 L S h = some (.inl (c', L', S', h1))) (hce : ce = cells + (h1.1.length - h.1.length)) (hsl : sl = slots + (am_sz h1 - am_sz h)) (hR : ce ≤ R.cells) (hR2 : sl ≤ R.slots) (kk : ∀ pc' ls' H' locs', am_chk M pc' c' = true → am_lrel base xa L' ls' (am_mL M) → am_hp base dC dI cA s h1 H' locs' → W p l e R s m args below meth cd H' locs' ce sl Q (F0 m pc' ls' (S'.map (am_mp base xa)))) : W p l e R s m args below meth cd H locs cells slots Q (F0 m pc ls (S.map (am_mp base xa))) := by
  cases c0 with
  | nil => cases hs
  | cons i c =>
    cases i
    case iadd => exact gs_iadd C hc hl P hs hce hsl hR hR2 kk
    case isub => exact gs_isub C hc hl P hs hce hsl hR hR2 kk
    case imul => exact gs_imul C hc hl P hs hce hsl hR hR2 kk
    case iand => exact gs_iand C hc hl P hs hce hsl hR hR2 kk
    case ior => exact gs_ior C hc hl P hs hce hsl hR hR2 kk
    case ixor => exact gs_ixor C hc hl P hs hce hsl hR hR2 kk
    case ishl => exact gs_ishl C hc hl P hs hce hsl hR hR2 kk
    case ishr => exact gs_ishr C hc hl P hs hce hsl hR hR2 kk
    case ineg => exact gs_ineg C hc hl P hs hce hsl hR hR2 kk
    case ladd => exact gs_ladd C hc hl P hs hce hsl hR hR2 kk
    case lsub => exact gs_lsub C hc hl P hs hce hsl hR hR2 kk
    case lmul => exact gs_lmul C hc hl P hs hce hsl hR hR2 kk
    case lneg => exact gs_lneg C hc hl P hs hce hsl hR hR2 kk
    case lcmp => exact gs_lcmp C hc hl P hs hce hsl hR hR2 kk
    case i2l => exact gs_i2l C hc hl P hs hce hsl hR hR2 kk
    case i2b => exact gs_i2b C hc hl P hs hce hsl hR hR2 kk
    case i2s => exact gs_i2s C hc hl P hs hce hsl hR hR2 kk
    case idiv => exact gs_idiv C hc hl P hs hce hsl hR hR2 kk
    case irem => exact gs_irem C hc hl P hs hce hsl hR hR2 kk
    case ldiv => exact gs_ldiv C hc hl P hs hce hsl hR hR2 kk
    case lrem => exact gs_lrem C hc hl P hs hce hsl hR hR2 kk
    case dup => exact gs_dup C hc hl P hs hce hsl hR hR2 kk
    case dup2 => exact gs_dup2 C hc hl P hs hce hsl hR hR2 kk
    case pop => exact gs_pop C hc hl P hs hce hsl hR hR2 kk
    case pop2 => exact gs_pop2 C hc hl P hs hce hsl hR hR2 kk
    case fadd => exact gs_fadd C hc hl P hs hce hsl hR hR2 kk
    case fsub => exact gs_fsub C hc hl P hs hce hsl hR hR2 kk
    case fmul => exact gs_fmul C hc hl P hs hce hsl hR hR2 kk
    case fdiv => exact gs_fdiv C hc hl P hs hce hsl hR hR2 kk
    case bipush _ => exact gs_bipush C hc hl P hs hce hsl hR hR2 kk
    case sipush _ => exact gs_sipush C hc hl P hs hce hsl hR hR2 kk
    case iload _ => exact gs_iload C hc hl P hs hce hsl hR hR2 kk
    case lload _ => exact gs_lload C hc hl P hs hce hsl hR hR2 kk
    case aload _ => exact gs_aload C hc hl P hs hce hsl hR hR2 kk
    case istore _ => exact gs_istore C hc hl P hs hce hsl hR hR2 kk
    case lstore _ => exact gs_lstore C hc hl P hs hce hsl hR hR2 kk
    case astore _ => exact gs_astore C hc hl P hs hce hsl hR hR2 kk
    case iinc _ _ => exact gs_iinc C hc hl P hs hce hsl hR hR2 kk
    case goto _ => exact gs_goto C hc hl P hs hce hsl hR hR2 kk
    case jsr _ => exact gs_jsr C hc hl P hs hce hsl hR hR2 kk
    case if_icmp _ _ => exact gs_if_icmp C hc hl P hs hce hsl hR hR2 kk
    case ifCond _ _ => exact gs_ifCond C hc hl P hs hce hsl hR hR2 kk
    case tableswitch _ _ _ _ => exact gs_tableswitch C hc hl P hs hce hsl hR hR2 kk
    case lookupswitch _ _ => exact gs_lookupswitch C hc hl P hs hce hsl hR hR2 kk
    case getfield _ => exact gs_getfield C hc hl P hs hce hsl hR hR2 kk
    case putfield _ => exact gs_putfield C hc hl P hs hce hsl hR hR2 kk
    case getstatic _ => exact gs_getstatic C hc hl P hs hce hsl hR hR2 kk
    case iaload => exact gs_iaload C hc hl P hs hce hsl hR hR2 kk
    case baload => exact gs_baload C hc hl P hs hce hsl hR hR2 kk
    case laload => exact gs_laload C hc hl P hs hce hsl hR hR2 kk
    case aaload => exact gs_aaload C hc hl P hs hce hsl hR hR2 kk
    case iastore => exact gs_iastore C hc hl P hs hce hsl hR hR2 kk
    case lastore => exact gs_lastore C hc hl P hs hce hsl hR hR2 kk
    case bastore => exact gs_bastore C hc hl P hs hce hsl hR hR2 kk
    case aastore => exact gs_aastore C hc hl P hs hce hsl hR hR2 kk
    case arraylength => exact gs_arraylength C hc hl P hs hce hsl hR hR2 kk
    case new _ => exact gs_new C hc hl P hs hce hsl hR hR2 kk
    case newarray _ => exact gs_newarray C hc hl P hs hce hsl hR hR2 kk
    case anewarray _ => exact gs_anewarray C hc hl P hs hce hsl hR hR2 kk
    case invokevirtual k =>
      simp only [am_step] at hs
      split at hs <;> cases hs
    case ireturn =>
      simp only [am_step] at hs
      split at hs <;> cases hs
    case lreturn =>
      simp only [am_step] at hs
      split at hs <;> cases hs
    case return_ =>
      simp only [am_step] at hs
      split at hs <;> cases hs
    case areturn =>
      simp only [am_step] at hs
      split at hs
      · split at hs <;> cases hs
      · cases hs
    all_goals cases hs
end SndS
end
section
/-! CALLS, AND THE WHOLE RUN -/
theorem am_good {w : Jvm.Cond} (h : w ∈ lw_good) : (w.onTables && w.keeps) = true ∨ ∃ ty, w = .arrayClass ty := good_of_word (List.mem_filter.mp h).2
theorem am_GoodIn {ws : List Jvm.Cond} (h : ∀ w ∈ ws, w ∈ lw_good) : GoodIn lw_good ws := fun w hw => ⟨h w hw, am_good (h w hw)⟩
def am_ws (k : Nat) : List Jvm.Cond := .code (am_y k) (am_cc k) (am_mL k) (am_rt k) :: lw_good
theorem am_ws_in {k : Nat} (hk : k < 186) : ∀ w ∈ am_ws k, w ∈ lw_good := fun w hw => by
  rcases List.mem_cons.mp hw with rfl | hw
  · exact am_cd_ok k hk
  · exact hw
theorem am_C_ok : am_C.all am_cw = true := by
  rw [← List.take_append_drop 60 am_C, List.all_append, am_C_ok1]
  rw [← List.take_append_drop 60 (am_C.drop 60), List.all_append, am_C_ok2, List.drop_drop, am_C_ok3]
  rfl
section SndE
variable {E : aE} {base : Nat} {xa : Nat → Nat} {dC : Nat → ClassId} {dI : Nat → Nat → Nat} {cA : Nat → ClassId}
theorem am_nestK {w : Jvm.Cond} (hw : am_nest w = true) : ∃ a i x h, w = .methodLinkNest a i x h := by
  cases w <;> first | exact ⟨_, _, _, _, rfl⟩ | (simp [am_nest] at hw)
theorem am_env_to {s U : State} {H : Heap} {locs : List Loc} (he : am_env E base xa dC dI cA s) (hS : va_S (fun q => base ≤ q) s.heap H locs) (hU : U.heap = H) (hW : s.WarmedH U.vm) : am_env E base xa dC dI cA U := by
  obtain ⟨h1, h2, h3, h4, h5, h6⟩ := he
  refine ⟨va_K.moved hW.alike h1, fun w hw hn => ?_, fun C hC => va_AO.moved hW.alike (h3 C hC), fun x hx => ?_, ⟨fun x hx => ?_, ?_⟩, ?_⟩
  · obtain ⟨a, i, x, h, rfl⟩ := am_nestK hn
    exact va_Nw.warmM hW (h2 _ hw hn)
  · obtain ⟨cf, kf, fi, f, a, cell, g1, g2, g3, g4, g5, g6, g7, g8⟩ := va_Z.moved hW.alike (h4 x hx)
    exact ⟨cf, kf, fi, f, a, cell, g1, g2, g3, g4, by rw [hU, hS.2.1 a (Array.getElem?_eq_some_iff.mp g5).1 g8]; exact g5, g6, g7, g8⟩
  · have := va_T.moved hW.alike (h5.1 x hx)
    rw [hU]
    exact this.kept (fun a h1 h2 => hS.2.1 a h1 h2)
  · obtain ⟨-, hX, hb⟩ := h5
    obtain ⟨scr, g1, g2, g3, g4, g5⟩ := va_X.moved hW.alike hX
    exact ⟨⟨scr, by rw [hU, hS.2.1 _ (Nat.lt_of_lt_of_le hb h6) (Nat.not_le.mpr hb)]; exact g1, g2, g3, g4, g5⟩, hb⟩
  · rw [hU]; exact Nat.le_trans h6 hS.1
theorem am_env_call {U : State} {g : JFrame} {mk : MethodId} {a : Array Value} (he : am_env E base xa dC dI cA U) : am_env E base xa dC dI cA (U.calling g mk a) := by
  obtain ⟨h1, h2, h3, h4, h5, h6⟩ := he
  refine ⟨va_K.moved (u := U) (U := U.calling g mk a) (Vm.Alike.refl U.vm) h1, fun w hw hn => ?_, fun C hC => va_AO.moved (u := U) (U := U.calling g mk a) (Vm.Alike.refl U.vm) (h3 C hC), fun x hx => va_Z.moved (u := U) (U := U.calling g mk a) (Vm.Alike.refl U.vm) (h4 x hx), ⟨fun x hx => va_T.moved (u := U) (U := U.calling g mk a) (Vm.Alike.refl U.vm) (h5.1 x hx), va_X.moved (u := U) (U := U.calling g mk a) (Vm.Alike.refl U.vm) h5.2.1, h5.2.2⟩, h6⟩
  obtain ⟨a, i, x, h, rfl⟩ := am_nestK hn
  exact va_Nw.same rfl rfl (h2 _ hw hn)
end SndE
/-- a method's start and end -/
def am_Pc (E : aE) (base : Nat) (xa : Nat → Nat) (dC : Nat → ClassId) (dI : Nat → Nat → Nat) (cA : Nat → ClassId) (as : List Value) (h : aH) : Array Value → State → Prop := fun v U => v = (as.map (am_mp base xa)).toArray ∧ am_env E base xa dC dI cA U ∧ va_P (dC, dI) vwCl (am_wl base cA h) U.heap ∧ U.heap.size = base + h.1.length
def am_Qc (base : Nat) (xa : Nat → Nat) (dC : Nat → ClassId) (dI : Nat → Nat → Nat) (cA : Nat → ClassId) (r : Option Value) (h : aH) : Array Value → State → Outcome → State → Prop := fun _ st o t => o = .returned (r.map (am_mp base xa)) ∧ va_P (dC, dI) vwCl (am_wl base cA h) t.heap ∧ t.heap.size = base + h.1.length ∧ va_F (fun q => base ≤ q) st t
section SndC
variable {E : aE} {base : Nat} {xa : Nat → Nat} {dC : Nat → ClassId} {dI : Nat → Nat → Nat} {cA : Nat → ClassId}
variable {p : Program} {l : Launch} {e : Env} {R : Room} {s : State} {m : MethodId} {args : Array Value} {below : List Frame} {meth : Method} {cd : Code} {H : Heap} {locs : List Loc} {cells slots : Nat} {Q : State → Prop}
variable {M pc : Nat} {ls : Array Slot} {c : List Instr} {L S : List Value} {h h2 : aH}
theorem am_callW {mc ms : Nat} {st0 rest : List Value} {r : Option Value} {a : Array Value} (hr : va_Run p l e R s m args below meth cd H locs cells slots mc ms (F0 m pc ls st0) rest (am_Qc base xa dC dI cA r h2 a) (fun q => base ≤ q)) (hS : va_S (fun q => base ≤ q) s.heap H locs)
    (kk : ∀ (H1 : Heap) (locs1 : List Loc), am_hp base dC dI cA s h2 H1 locs1 → W p l e R s m args below meth cd H1 locs1 (cells + mc) (slots + ms) Q (F0 m (pc + 3) ls ((r.map (am_mp base xa)).toList ++ rest))) : W p l e R s m args below meth cd H locs cells slots Q (F0 m pc ls st0) := by
  intro T hT X
  obtain ⟨v, st₀, t, T', L, h0, X', hL, e1, e2, ⟨hv, hp, hsz, hz, hk⟩, st⟩ := hr T hT X
  have hv : v = r.map (am_mp base xa) := by cases hv; rfl
  subst hv
  rw [h0] at hz hk
  obtain ⟨t2, a1, b1⟩ := kk T'.heap (locs ++ L) ⟨by rw [e1]; exact hp, by rw [e1]; exact hsz, Nat.le_trans hS.1 (by rw [e1]; exact hz), fun q h1 h2 => by rw [e1, hk q (Nat.lt_of_lt_of_le h1 hS.1) h2]; exact hS.2.1 q h1 h2, fun q hq => by
      rcases List.mem_append.mp hq with h | h
      · exact hS.2.2 q h
      · exact hL q h⟩ T' rfl X'
  exact ⟨t2, st t2 a1, b1⟩
theorem am_Pc_pre (C : am_ctx E base xa dC dI cA M p R s m args meth cd) (P : am_hp base dC dI cA s h H locs) (as : List Value) : FrameBlind (am_Pc E base xa dC dI cA as h) ∧ ∀ U : State, U.heap = H → s.WarmedH U.vm → am_Pc E base xa dC dI cA as h (as.map (am_mp base xa)).toArray U := by
  refine ⟨fun a U g mk q => ⟨q.1, am_env_call q.2.1, q.2.2.1, q.2.2.2⟩, fun U hU hW => ⟨rfl, am_env_to C.2.2.2.2.2.2.2.1 P.2.2 hU hW, by rw [hU]; exact P.1, by rw [hU]; exact P.2.1⟩⟩
theorem am_call {k mc ms : Nat} {v : Option Value} {as : List Value} (C : am_ctx E base xa dC dI cA M p R s m args meth cd) (hc : am_chk M pc (.invokevirtual k :: c) = true) (hl : ls.size = am_mL M) (P : am_hp base dC dI cA s h H locs) (has : as = (S.take (am_na k)).reverse) (hn1 : am_na k ≤ S.length) (hn2 : S.length ≤ am_na k + 4) (hrc : am_recv h k as = true)
    (hM : Met l (am_y k) (am_ws k) { frames := am_fr k, cells := mc, slots := ms, locals := am_lc k } (am_Pc E base xa dC dI cA as h) (am_Qc base xa dC dI cA v h2) mc ms (fun q => base ≤ q)) (h1c : cells + mc ≤ R.cells) (h1s : slots + ms ≤ R.slots)
    (kk : ∀ (H1 : Heap) (locs1 : List Loc), am_chk M (pc + 3) c = true → am_hp base dC dI cA s h2 H1 locs1 → W p l e R s m args below meth cd H1 locs1 (cells + mc) (slots + ms) Q (F0 m (pc + 3) ls ((v.toList ++ S.drop (am_na k)).map (am_mp base xa)))) : W p l e R s m args below meth cd H locs cells slots Q (F0 m pc ls (S.map (am_mp base xa))) := by
  obtain ⟨j, len, h1, h2', h3⟩ := am_chk_cons (fun t e => by cases e) hc
  simp only [am_ins, Bool.and_eq_true, decide_eq_true_eq, beq_iff_eq, List.any_eq_true] at h2'
  obtain ⟨⟨⟨⟨rfl, hk⟩, hfr⟩, hlc⟩, q, hq, ⟨hq1, hq2⟩, hqj⟩ := h2'
  have hcw := List.all_eq_true.mp am_C_ok q hq
  have hmo := am_m_ok k hk
  simp only [am_mok, Bool.and_eq_true, Bool.or_eq_true, decide_eq_true_eq] at hmo
  obtain ⟨⟨⟨⟨⟨ho1, ho2⟩, ho3⟩, ho4⟩, ho5⟩, ho6⟩ := hmo
  have hS : S.map (am_mp base xa) = (as.map (am_mp base xa)).reverse ++ (S.drop (am_na k)).map (am_mp base xa) := by
    rw [has, List.map_reverse, List.reverse_reverse, ← List.map_append, List.take_append_drop]
  have hlen : as.length = am_na k := by rw [has, List.length_reverse, List.length_take]; omega
  have hcat : ((List.drop (am_na k) S).map (am_mp base xa) |>.map fun v => v.category).sum ≤ 8 := am_catsum (by rw [List.length_drop]; omega)
  have hroom : (2 * 0 + ((List.drop (am_na k) S).map (am_mp base xa) |>.map fun v => v.category).sum) ≤ 8 := by omega
  have hkk : ∀ (H1 : Heap) (locs1 : List Loc), am_hp base dC dI cA s h2 H1 locs1 → W p l e R s m args below meth cd H1 locs1 (cells + mc) (slots + ms) Q (F0 m (pc + 3) ls ((v.map (am_mp base xa)).toList ++ (S.drop (am_na k)).map (am_mp base xa))) := by
    intro H1 locs1 q
    have := kk H1 locs1 h3 q
    rw [List.map_append] at this
    cases v <;> exact this
  have hts := C.2.2.2.2.1
  have hin := am_ws_in hk
  have hfix : CallFix p m cd (am_cc M) (am_mL M) s args lw_good (am_cls (am_own M)) := ⟨C.1, C.2.1, C.2.2.1, C.2.2.2.1, hts⟩
  have hR : am_fr k + 1 ≤ R.frames ∧ 8 + (am_mL k + 11) + am_lc k ≤ R.locals := ⟨Nat.le_trans hfr C.2.2.2.2.2.1, Nat.le_trans hlc C.2.2.2.2.2.2.1⟩
  have hpre := am_Pc_pre C P as
  unfold am_cw at hcw
  simp only [Bool.and_eq_true, decide_eq_true_eq] at hcw
  obtain ⟨⟨⟨⟨⟨w4, w1⟩, w2⟩, w3⟩, w5⟩, w6⟩ := hcw
  rw [hq2] at w4 w1 w2 w3 w5
  rw [hq1] at w1
  rw [hS]
  by_cases k0 : q.2.2.2.1 = 0
  · simp only [k0] at w1 w2 w3 w5 hqj
    simp at w1 w2 w3 hqj
    subst hqj
    have hnst : am_st k = false := by simpa using w2.2
    rw [hnst] at ho5
    unfold am_recv at hrc
    rw [hnst] at hrc
    simp only [Bool.false_or] at hrc
    split at hrc
    · rename_i r As
      have hrun := va_runV (As := As.map (am_mp base xa)) (rest := (S.drop (am_na k)).map (am_mp base xa)) (b := base + r) (e := e) (below := below) (meth := meth) (H := H) (locs := locs) (cells := cells) (slots := slots) (g := F0 m pc ls (((Value.ref r :: As).map (am_mp base xa)).reverse ++ (S.drop (am_na k)).map (am_mp base xa))) hfix hM
        (cwV (C := (am_y k).cls) (am_na k - 1) hts (am_GoodIn (fun w hw => by
          unfold wsV at hw
          rcases List.mem_append.mp hw with hw | hw
          · simp only [List.mem_cons, List.not_mem_nil, or_false] at hw
            rcases hw with rfl | rfl | rfl | rfl
            · exact am_wd_in w1
            · exact am_wd_in w2.1
            · exact am_wd_in w3
            · exact am_wd_in w4
          · exact hin w hw)) rfl rfl rfl ⟨rfl, ho3, ho4, ho5⟩ hR)
        ⟨hpre.1, by
          have hrec := am_obj_wl (base := base) (cA := cA) hrc
          have ho10 : am_own k < 10 := by
            rcases Nat.lt_or_ge (am_own k) 10 with z | z
            · exact z
            · exfalso
              exact am_own_lt k hk hnst z
          have := va_recv C.2.2.2.2.2.2.2.1.1 P.1 (am_vwCl ho10) hrec
          rw [ho1] at this
          exact this, hpre.2⟩ rfl (by rw [List.length_map]; simp at hlen; omega) hl (by simp [am_mp]) hroom h1 ⟨h1c, h1s⟩
      exact am_callW hrun P.2.2 hkk
    · cases hrc
  · by_cases k1 : q.2.2.2.1 = 1
    · simp only [k1] at w1 w2 w3 w5 hqj
      simp at w1 w2 hqj
      subst hqj
      rw [w2.2] at ho5
      have hrun := va_runS (As := as.map (am_mp base xa)) (rest := (S.drop (am_na k)).map (am_mp base xa)) (e := e) (below := below) (meth := meth) (H := H) (locs := locs) (cells := cells) (slots := slots) (g := F0 m pc ls ((as.map (am_mp base xa)).reverse ++ (S.drop (am_na k)).map (am_mp base xa))) hfix hM
        (va_cwS (am_na k) hts (am_GoodIn (fun w hw => by
          unfold va_wsS at hw
          rcases List.mem_append.mp hw with hw | hw
          · simp only [List.mem_cons, List.not_mem_nil, or_false] at hw
            rcases hw with rfl | rfl | rfl
            · exact am_wd_in w1
            · exact am_wd_in w2.1
            · exact am_wd_in w4
          · exact hin w hw)) rfl rfl rfl ⟨ho3, ho4, by simpa using ho5⟩ hR)
        hpre rfl (by rw [List.length_map]; exact hlen) hl rfl hroom h1 ⟨h1c, h1s⟩
      exact am_callW hrun P.2.2 hkk
    · by_cases k4 : q.2.2.2.1 = 4
      · simp only [k4] at w1 w2 w3 w5 hqj
        simp at w1 w2 hqj
        subst hqj
        rw [w2.2] at ho5
        have hrun := va_runSN (As := as.map (am_mp base xa)) (rest := (S.drop (am_na k)).map (am_mp base xa)) (e := e) (below := below) (meth := meth) (H := H) (locs := locs) (cells := cells) (slots := slots) (g := F0 m pc ls ((as.map (am_mp base xa)).reverse ++ (S.drop (am_na k)).map (am_mp base xa))) hfix hM
          ⟨va_cnB (am_na k) hts (am_GoodIn hin) rfl rfl rfl (C.2.2.2.2.2.2.2.1.2.1 _ (List.mem_of_getElem? w1) rfl) (hts _ (am_wd_in w4)) ⟨ho3, ho4, by simpa using ho5⟩ hR, hts _ (am_wd_in w2.1), trivial⟩
          hpre rfl (by rw [List.length_map]; exact hlen) hl rfl hroom h1 ⟨h1c, h1s⟩
        exact am_callW hrun P.2.2 hkk
      · have hk23 : q.2.2.2.1 = 2 ∨ q.2.2.2.1 = 3 := by omega
        simp only [k1, k4, or_self, if_false, Bool.and_eq_true] at w2
        have hnst : am_st k = false := by simpa using w2.2
        rw [hnst] at ho5
        unfold am_recv at hrc
        rw [hnst] at hrc
        simp only [Bool.false_or] at hrc
        simp only [k0, k1, k4, or_self, if_false] at hqj
        subst hqj
        rw [if_pos hk23] at w5
        have w5 : (am_y k).name = "<init>" := by simpa using w5
        split at hrc
        · rename_i r As
          rcases hk23 with k2 | k3
          · simp only [k2] at w1
            simp at w1
            have hrun := va_runI (As := As.map (am_mp base xa)) (rest := (S.drop (am_na k)).map (am_mp base xa)) (b := base + r) (e := e) (below := below) (meth := meth) (H := H) (locs := locs) (cells := cells) (slots := slots) (g := F0 m pc ls (((Value.ref r :: As).map (am_mp base xa)).reverse ++ (S.drop (am_na k)).map (am_mp base xa))) hfix hM
              (cwI (am_na k - 1) hts (am_GoodIn hin) (by unfold am_ws; rw [am_init_rt k hk w5]) rfl rfl (hts _ (am_wd_in w4)) (hts _ (am_wd_in w1)) (hts _ (am_wd_in w2.1)) w5 ⟨ho3, ho4, ho5⟩ hR)
              hpre rfl (by rw [List.length_map]; simp at hlen; omega) hl (by simp [am_mp]) hroom h1 ⟨h1c, h1s⟩
            exact am_callW hrun P.2.2 hkk
          · simp only [k3] at w1
            simp at w1
            have hrun := va_runIN (As := As.map (am_mp base xa)) (rest := (S.drop (am_na k)).map (am_mp base xa)) (b := base + r) (e := e) (below := below) (meth := meth) (H := H) (locs := locs) (cells := cells) (slots := slots) (g := F0 m pc ls (((Value.ref r :: As).map (am_mp base xa)).reverse ++ (S.drop (am_na k)).map (am_mp base xa))) hfix hM
              ⟨va_cnB (am_na k - 1) hts (am_GoodIn hin) (by unfold am_ws; rw [am_init_rt k hk w5]) rfl rfl (C.2.2.2.2.2.2.2.1.2.1 _ (List.mem_of_getElem? w1) rfl) (hts _ (am_wd_in w4)) ⟨ho3, ho4, ho5⟩ hR, w5, hts _ (am_wd_in w2.1)⟩
              hpre rfl (by rw [List.length_map]; simp at hlen; omega) hl (by simp [am_mp]) hroom h1 ⟨h1c, h1s⟩
            exact am_callW hrun P.2.2 hkk
        · cases hrc
end SndC
end
section
/-! THE RUN -/
theorem am_step_lay {E : aE} {M : Nat} {c0 c' : List Instr} {L S L' S' : List Value} {h h1 : aH} (hs : am_step E M c0 L S h = some (.inl (c', L', S', h1))) : h1.1 = h.1 ∨ ∃ q, h1 = am_lay h q := by
  cases c0 with
  | nil => cases hs
  | cons i c =>
    cases i
    all_goals first
      | (cases hs; done)
      | (simp only [am_step, am_push] at hs
         repeat' split at hs
         all_goals first
           | (cases hs; done)
           | (cases hs; exact Or.inl rfl)
           | (cases hs; exact Or.inr ⟨_, rfl⟩)
           | (rename_i hp; cases hs; exact Or.inl (am_pf_lay hp)))
theorem am_step_ret {E : aE} {M : Nat} {c0 : List Instr} {L S : List Value} {h h1 : aH} {v : Option Value} (hs : am_step E M c0 L S h = some (.inr (.inl (v, h1)))) : h1 = h ∧ S = v.toList ∧ ((∃ c x, c0 = .ireturn :: c ∧ v = some (.int x)) ∨ (∃ c x, c0 = .areturn :: c ∧ v = some (.int x) ∧ (x = 0 ∨ x = 1)) ∨ (∃ c x, c0 = .lreturn :: c ∧ v = some (.long x)) ∨ (∃ c, c0 = .return_ :: c ∧ v = none)) := by
  cases c0 with
  | nil => cases hs
  | cons i c =>
    cases i
    case ireturn =>
      simp only [am_step] at hs
      split at hs
      · cases hs; exact ⟨rfl, rfl, Or.inl ⟨_, _, rfl, rfl⟩⟩
      · cases hs
    case areturn =>
      simp only [am_step] at hs
      split at hs
      · split at hs
        · rename_i hx
          cases hs; exact ⟨rfl, rfl, Or.inr (Or.inl ⟨_, _, rfl, rfl, hx⟩)⟩
        · cases hs
      · cases hs
    case lreturn =>
      simp only [am_step] at hs
      split at hs
      · cases hs; exact ⟨rfl, rfl, Or.inr (Or.inr (Or.inl ⟨_, _, rfl, rfl⟩))⟩
      · cases hs
    case return_ =>
      simp only [am_step] at hs
      split at hs
      · cases hs; exact ⟨rfl, rfl, Or.inr (Or.inr (Or.inr ⟨_, rfl, rfl⟩))⟩
      · cases hs
    all_goals first
      | (cases hs; done)
      | (exfalso
         simp only [am_step, am_push] at hs
         repeat' split at hs
         all_goals (cases hs; done))
theorem am_step_call {E : aE} {M k : Nat} {c0 c' : List Instr} {L S L' S' as : List Value} {h h1 : aH} (hs : am_step E M c0 L S h = some (.inr (.inr (k, as, (c', L', S', h1))))) : c0 = .invokevirtual k :: c' ∧ L' = L ∧ h1 = h ∧ S' = S.drop (am_na k) ∧ as = (S.take (am_na k)).reverse ∧ am_na k ≤ S.length ∧ S.length ≤ am_na k + 4 ∧ (am_loc as).length ≤ am_mL k ∧ am_recv h k as = true := by
  cases c0 with
  | nil => cases hs
  | cons i c =>
    cases i
    case invokevirtual j =>
      simp only [am_step] at hs
      split at hs
      · rename_i hx
        cases hs
        exact ⟨rfl, rfl, rfl, rfl, rfl, hx.1, hx.2.1, hx.2.2.1, hx.2.2.2⟩
      · cases hs
    all_goals first
      | (cases hs; done)
      | (exfalso
         simp only [am_step, am_push] at hs
         repeat' split at hs
         all_goals (cases hs; done))
theorem am_run_succ {E : aE} {n M : Nat} {c : List Instr} {L S : List Value} {h : aH} {r : aR} (hr : am_run E (n + 1) M c L S h = some r) :
    (∃ c' L' S' h1, am_step E M c L S h = some (.inl (c', L', S', h1)) ∧ am_run E n M c' L' S' h1 = some r) ∨ am_step E M c L S h = some (.inr (.inl r)) ∨
    (∃ k as c' L' S' h1 v h2, am_step E M c L S h = some (.inr (.inr (k, as, (c', L', S', h1)))) ∧ am_run E n k (am_B k 0) (am_ent k as) [] h1 = some (v, h2) ∧ am_run E n M c' L' (v.toList ++ S') h2 = some r) := by
  rw [am_run] at hr
  split at hr
  · cases hr
  · rename_i hs
    exact Or.inl ⟨_, _, _, _, hs, hr⟩
  · rename_i hs
    cases hr
    exact Or.inr (Or.inl hs)
  · rename_i hs
    split at hr
    · cases hr
    · rename_i hq
      exact Or.inr (Or.inr ⟨_, _, _, _, _, _, _, _, hs, hq, hr⟩)
theorem am_lay_mono (h : aH) (q : Nat ⊕ (Nat × Nat)) : h.1.length ≤ (am_lay h q).1.length ∧ am_sz h ≤ am_sz (am_lay h q) := by
  rw [am_sz_lay]
  refine ⟨by simp [am_lay], by omega⟩
theorem am_step_mono {E : aE} {M : Nat} {c0 c' : List Instr} {L S L' S' : List Value} {h h1 : aH} (hs : am_step E M c0 L S h = some (.inl (c', L', S', h1))) : h.1.length ≤ h1.1.length ∧ am_sz h ≤ am_sz h1 := by
  rcases am_step_lay hs with e | ⟨q, rfl⟩
  · unfold am_sz
    rw [e]
    exact ⟨Nat.le_refl _, Nat.le_refl _⟩
  · exact am_lay_mono h q
theorem am_run_mono {E : aE} : ∀ {n M : Nat} {c : List Instr} {L S : List Value} {h : aH} {r : aR}, am_run E n M c L S h = some r → h.1.length ≤ r.2.1.length ∧ am_sz h ≤ am_sz r.2 := by
  intro n
  induction n with
  | zero => intro M c L S h r hr; cases hr
  | succ n ih =>
    intro M c L S h r hr
    rcases am_run_succ hr with ⟨c', L', S', h1, hs, hr⟩ | hs | ⟨k, as, c', L', S', h1, v, h2, hs, hq, hr⟩
    · have a := am_step_mono hs
      have b := ih hr
      omega
    · obtain ⟨v, h1⟩ := r
      have := (am_step_ret hs).1
      subst this
      exact ⟨Nat.le_refl _, Nat.le_refl _⟩
    · have a := ih hq
      have b := ih hr
      have e := (am_step_call hs).2.2.1
      subst e
      dsimp only at a
      omega
def am_isret (M pc : Nat) (r : Option Value) : Prop := match r with
  | none => decode (am_cc M) pc = .ok (.return_, 1) ∧ am_rt M = none
  | some (.int x) => decode (am_cc M) pc = .ok (.ireturn, 1) ∧ (am_rt M = some .int ∨ (am_rt M = some .boolean ∧ (x = 0 ∨ x = 1)))
  | some (.long _) => decode (am_cc M) pc = .ok (.lreturn, 1) ∧ am_rt M = some .long
  | _ => False
theorem am_ret_is {E : aE} {M pc : Nat} {c0 : List Instr} {L S : List Value} {h h1 : aH} {v : Option Value} (hc : am_chk M pc c0 = true) (hs : am_step E M c0 L S h = some (.inr (.inl (v, h1)))) : am_isret M pc v := by
  rcases (am_step_ret hs).2.2 with ⟨c, x, rfl, rfl⟩ | ⟨c, x, rfl, rfl, hx⟩ | ⟨c, x, rfl, rfl⟩ | ⟨c, rfl, rfl⟩
  all_goals
    obtain ⟨j, len, h1, h2, h3⟩ := am_chk_cons (fun t e => by cases e) hc
    simp only [am_ins, Bool.and_eq_true, decide_eq_true_eq, beq_iff_eq] at h2
    obtain ⟨⟨rfl, rfl⟩, h4⟩ := h2
  · exact ⟨h1, Or.inl h4⟩
  · exact ⟨h1, Or.inr ⟨h4, hx⟩⟩
  · exact ⟨h1, h4⟩
  · exact ⟨h1, h4⟩
/-- what a run of the abstract machine gives of the machine -/
def am_goal (E : aE) (base : Nat) (xa : Nat → Nat) (dC : Nat → ClassId) (dI : Nat → Nat → Nat) (cA : Nat → ClassId) (l : Launch) (M : Nat) (c : List Instr) (L S : List Value) (h : aH) (r : aR) : Prop :=
  ∀ (p : Program) (e : Env) (R : Room) (s : State) (m : MethodId) (args : Array Value) (below : List Frame) (meth : Method) (cd : Code) (H : Heap) (ls : Array Slot) (locs : List Loc) (cells slots ce sl pc : Nat) (Q : State → Prop),
    am_ctx E base xa dC dI cA M p R s m args meth cd → am_chk M pc c = true → am_lrel base xa L ls (am_mL M) → am_hp base dC dI cA s h H locs → ce = cells + (r.2.1.length - h.1.length) → sl = slots + (am_sz r.2 - am_sz h) → ce ≤ R.cells → sl ≤ R.slots →
    (∀ (H' : Heap) (locs' : List Loc) (ls' : Array Slot) (pc' : Nat), am_hp base dC dI cA s r.2 H' locs' → am_isret M pc' r.1 → W p l e R s m args below meth cd H' locs' ce sl Q (F0 m pc' ls' (r.1.toList.map (am_mp base xa)))) →
    W p l e R s m args below meth cd H locs cells slots Q (F0 m pc ls (S.map (am_mp base xa)))
theorem am_met_of {E : aE} {base : Nat} {xa : Nat → Nat} {dC : Nat → ClassId} {dI : Nat → Nat → Nat} {cA : Nat → ClassId} {l : Launch} {k : Nat} {as : List Value} {h : aH} {r : aR} (hk : k < 186) (hlen : (am_loc as).length ≤ am_mL k) (hg : am_goal E base xa dC dI cA l k (am_B k 0) (am_ent k as) [] h r) : Met l (am_y k) (am_ws k) { frames := am_fr k, cells := r.2.1.length - h.1.length, slots := am_sz r.2 - am_sz h, locals := am_lc k } (am_Pc E base xa dC dI cA as h) (am_Qc base xa dC dI cA r.1 r.2) (r.2.1.length - h.1.length) (am_sz r.2 - am_sz h) (fun q => base ≤ q) := by
  have hmo := am_m_ok k hk
  simp only [am_mok, Bool.and_eq_true, Bool.or_eq_true, decide_eq_true_eq] at hmo
  obtain ⟨⟨⟨⟨⟨ho1, ho2⟩, ho3⟩, ho4⟩, ho5⟩, ho6⟩ := hmo
  refine Met.ofW (cc := am_cc k) (maxL := am_mL k) (ret := am_rt k) ho2 rfl ?_
  intro p e s m args below meth cd s₁ B hml hv
  obtain ⟨rfl, henv, hP, hsz⟩ := hv
  have hts := atoms_spec (ws := am_ws k) B.pre
  have hown : s.vm.findClass (am_y k).cls = some m.cls := findClass_of_methodNamed B.named
  have hname := (name_of_methodNamed B.named B.method).1
  have hctx : am_ctx E base xa dC dI cA k p (headSpec (am_ws k) { frames := am_fr k, cells := r.2.1.length - h.1.length, slots := am_sz r.2 - am_sz h, locals := am_lc k }).room s m (as.map (am_mp base xa)).toArray meth cd := ⟨B.exec, B.bytes, hml, by rw [ho1]; exact hown, fun w hw => hts w (List.mem_cons_of_mem _ hw), Nat.le_refl _, Nat.le_refl _, henv, fun q => hname.trans q⟩
  rw [lg_entry_eq]
  refine hg p e _ s m _ below meth cd s.heap _ [] 0 0 _ _ 0 _ hctx (am_chkB k 0) (am_lrel_entry hlen) ⟨hP, hsz, va_S.rf⟩ (Nat.zero_add _).symm (Nat.zero_add _).symm (Nat.le_refl _) (Nat.le_refl _) ?_
  intro H' locs' ls' pc' hp hret
  have hlocks := B.notSynchronized
  have hq : ∀ t : State, t.heap = H' → s.WarmedH t.vm → am_Qc base xa dC dI cA r.1 r.2 (as.map (am_mp base xa)).toArray s (.returned (r.1.map (am_mp base xa))) t := fun t ht hW => ⟨rfl, by rw [ht]; exact hp.1, by rw [ht]; exact hp.2.1, hp.2.2.F ht⟩
  obtain ⟨v, h2⟩ := r
  dsimp only at *
  match v, hret with
  | none, hret => exact W.vret B.exec B.bytes (B.returns.trans hret.2) hq hp.2.2.2.2 hret.1
  | some (.int x), hret =>
    rcases hret.2 with hi | ⟨hi, hx⟩
    · exact W.iret B.exec B.bytes (B.returns.trans hi) hq hp.2.2.2.2 hret.1
    · exact W.zret B.exec B.bytes (B.returns.trans hi) (by rcases hx with rfl | rfl <;> rfl) hq hp.2.2.2.2 hret.1
  | some (.long x), hret => exact W.lret B.exec B.bytes (B.returns.trans hret.2) hq hp.2.2.2.2 hret.1
theorem am_sound (E : aE) (base : Nat) (xa : Nat → Nat) (dC : Nat → ClassId) (dI : Nat → Nat → Nat) (cA : Nat → ClassId) (l : Launch) : ∀ (n M : Nat) (c : List Instr) (L S : List Value) (h : aH) (r : aR), am_run E n M c L S h = some r → am_goal E base xa dC dI cA l M c L S h r := by
  intro n
  induction n with
  | zero => intro M c L S h r hr; cases hr
  | succ n ih =>
    intro M c L S h r hr p e R s m args below meth cd H ls locs cells slots ce sl pc Q C hc hl P hce hsl hR hR2 kk
    rcases am_run_succ hr with ⟨c', L', S', h1, hs, hr⟩ | hs | ⟨k, as, c', L', S', h1, v, h2, hs, hq, hr⟩
    · have a := am_step_mono hs
      have b := am_run_mono hr
      refine am_go C hc hl P hs rfl rfl (by omega) (by omega) (fun pc' ls' H' locs' q1 q2 q3 => ?_)
      exact ih M c' L' S' h1 r hr p e R s m args below meth cd H' ls' locs' _ _ ce sl pc' Q C q1 q2 q3 (by omega) (by omega) hR hR2 kk
    · obtain ⟨v, h1⟩ := r
      have e1 := am_step_ret hs
      have e2 := am_ret_is hc hs
      obtain ⟨rfl, rfl, -⟩ := e1
      dsimp only at hce hsl kk
      rw [Nat.sub_self, Nat.add_zero] at hce hsl
      subst hce
      subst hsl
      exact kk H locs ls pc P e2
    · obtain ⟨rfl, rfl, rfl, rfl, has, g1, g2, g3, g4⟩ := am_step_call hs
      have a := am_run_mono hq
      have b := am_run_mono hr
      dsimp only at a
      have hk : k < 186 := by
        obtain ⟨j, len, i1, i2, i3⟩ := am_chk_cons (fun t e => by cases e) hc
        simp only [am_ins, Bool.and_eq_true, decide_eq_true_eq] at i2
        exact i2.1.1.1.2
      have hM := am_met_of (r := (v, h2)) hk g3 (ih k (am_B k 0) (am_ent k as) [] h1 (v, h2) hq)
      dsimp only at hM
      refine am_call C hc hl.1 P has g1 g2 g4 hM (by omega) (by omega) (fun H1 locs1 q1 q2 => ?_)
      exact ih M c' L' _ h2 r hr p e R s m args below meth cd H1 ls locs1 _ _ ce sl _ Q C q1 hl q2 (by omega) (by omega) hR hR2 kk
end
section
/-! THE CLAIM OUT OF ONE WALK OF THE LAW'S BODY. Your part is whole_start (and what it stands on); all else here is the same for every law, but numbers. -/
def R_law : String := "RailPowerLaw"
def lw_P (b : Addr) (xs : List Int32) (args : Array Value) (s : State) : Prop := args = #[.ref b] ∧ s.IntsAt b xs ∧ xs.length ≤ 3072 ∧ (Jvm.Cond.and given_1 narrow_1).before args s = true
def lw_Q (_ : Array Value) (s : State) (o : Outcome) (t : State) : Prop := o = .returned (some (.int 1)) ∧ Framed s o t [] 600000 7302249
def lw_Z (below : List Frame) (a : Array Value) (s : State) : State → Prop := fun t => ∃ o, t.status = .running ∧ Ended t below o ∧ lw_Q a s o t
/-- the law's own end, with 1 on the stack, nothing written that was there before, its room as the claim has it -/
theorem lw_ret {p : Program} {l : Launch} {e : Env} {s : State} {m : MethodId} {below : List Frame} {meth : Method} {c : Code} {b : Nat} (hx : p.tables.exec = Jvm.exec) (hb : c.code = code) (hr : meth.sig.returnType = ret) (hlocks : meth.locks = false) {pc : Nat} {H : Heap} {ls : Array Slot} (hdg : decode code pc = .ok (.ireturn, 1)) : W p l e room_1 s m #[Value.ref b] below meth c H [] 600000 7302249 (lw_Z below #[Value.ref b] s) (F0 m pc ls [.int 1]) := by
  intro T hT X
  obtain ⟨fs, hret, hrun, hended, hW, hframe⟩ := X.leave (v := some (.int 1)) (hlocks := hlocks) (fun h => by rw [hr] at h; cases h)
  have hmeth' : T.vm.method? m = some meth := X.method'
  refine ⟨T.setFrames fs, ?_, .returned (some (.int 1)), hrun, hended, rfl, ⟨_, rfl⟩, hW, hframe⟩
  jvm_step X.here [X.here.top, hx, hb, hdg, hmeth', hr, ret, narrow_b1]
  (try refine ⟨rfl, ?_⟩); (try refine ⟨rfl, ?_⟩)
  first | (intro acts; rw [hret _ acts rfl rfl rfl]) | rw [hret _ _ rfl rfl rfl]
  exact Steps.refl _
/-- what holds at the law's entry: the machine, the code, the tables' words (any of lw_tbl by 'hts w (by decide +kernel)'), the script of L ints xs at the cell b, what the Statement gives of the start (any of its parts by flat_of_before) -/
def lw_At (p : Program) (s : State) (m : MethodId) (meth : Method) (c : Code) (b L : Nat) (xs : Nat → Int32) : Prop :=
  p.tables.exec = Jvm.exec ∧ c.code = code ∧ meth.sig.returnType = ret ∧ c.maxLocals = 4 ∧ s.vm.findClass R_law = some m.cls ∧ (∀ w ∈ lw_tbl, w.before #[Value.ref b] s = true) ∧ va_X b L xs s s.heap ∧ b < s.heap.size ∧ meth.locks = false ∧ (Jvm.Cond.and given_1 narrow_1).before #[Value.ref b] s = true
/-! THE LAW'S START OUT OF A RUN OF THE ABSTRACT MACHINE -/
def am_h0 : aH := ([], fun _ _ => none, fun _ _ => 0, fun _ _ => 0)
def am_lst (l : List Int32) : Nat → Int32 := fun j => l.getD j 0
def am_E (L : Nat) (xs : Nat → Int32) : aE := fun x => match x with
  | 0 => (5, am_lst [1, 1, 100, 100, 1])
  | 1 => (5, am_lst [200, 20, 2000, 3000, 2000])
  | _ => (L, xs)
theorem am_static {args : Array Value} {s : State} {n : String} {zs : List Int32} (hz : zs.length = 5) (hl : (Jvm.Cond.laysStatic "RailPower" n "[I").before args s = true) (hini : (Jvm.Cond.initialized "RailPower").before args s = true) (harr : (Jvm.Cond.arrayOf (.static "RailPower" n "[I") .int).before args s = true) (hlen : (Jvm.Cond.eq (.length (.static "RailPower" n "[I")) (.int 5)).before args s = true) (hel : ∀ j : Nat, j < 5 → (Jvm.Cond.eq (.elem (.static "RailPower" n "[I") (.int (Int32.ofNat j))) (.int (am_lst zs j))).before args s = true) : ∃ t : Nat, va_Z "RailPower" n "[I" (.ref t) (fun q => s.heap.size ≤ q) s s.heap ∧ va_T .int t 5 (fun j => .int (am_lst zs j)) (fun q => s.heap.size ≤ q) s s.heap := by
  have hA : ∀ a : Nat, a < s.heap.size → ¬ (fun q => s.heap.size ≤ q) a := fun a h => Nat.not_le.mpr h
  obtain ⟨t, h1, h2⟩ := va_Tof (N := 5) (f := fun j => .int (am_lst zs j)) (A := fun q => s.heap.size ≤ q) (by decide) harr (va_eqt hlen) (fun j hj => va_eqt (hel j hj)) hA
  exact ⟨t, va_Zof hl hini h1 hA, h2⟩
set_option maxRecDepth 20000 in
theorem am_w0 : Jvm.Cond.laysStatic "RailPower" "LEAST_RULE" "[I" ∈ lw_tbl ∧ Jvm.Cond.laysStatic "RailPower" "GREATEST_RULE" "[I" ∈ lw_tbl ∧ Jvm.Cond.initialized "RailPower" ∈ lw_tbl := by decide +kernel
set_option maxRecDepth 20000 in
theorem am_w1 : ∀ c, c < 10 → Jvm.Cond.instantiable (am_cls c) (am_N c) ∈ lw_good := by decide +kernel
set_option maxRecDepth 20000 in
theorem am_w2 : ∀ C ∈ am_AO, Jvm.Cond.arrayOver (.object C) ∈ lw_tbl := by decide +kernel
theorem am_lawk : am_own 186 = 10 ∧ am_cls 10 = R_law ∧ am_mL 186 = 4 ∧ am_fr 186 ≤ 10 ∧ am_lc 186 ≤ 400 ∧ am_rt 186 = some .boolean := by decide +kernel
theorem am_law_cc : am_cc 186 = code := rfl
theorem am_law_name : (am_y 186).name = "law" := rfl
theorem am_cA_ex {s : State} {args : Array Value} (hts : ∀ w ∈ lw_tbl, w.before args s = true) : ∃ cA : Nat → ClassId, ∀ t, t < 7 → ArrOfT s (cA t) (am_et t) ∧ va_RA s (cA t) (am_et t) := by
  have h : ∀ t, ∃ c : ClassId, t < 7 → ArrOfT s c (am_et t) ∧ va_RA s c (am_et t) := by
    intro t
    by_cases ht : t < 7
    · by_cases h3 : t < 3
      · have hac := am_ac_ok
        simp only [Bool.and_eq_true] at hac
        have hw : (Jvm.Cond.arrayClass (am_et t)).before args s = true := by
          rcases (show t = 0 ∨ t = 1 ∨ t = 2 by omega) with rfl | rfl | rfl
          · exact hts _ (List.mem_filter.mp (am_wd_in hac.1.1)).1
          · exact hts _ (List.mem_filter.mp (am_wd_in hac.1.2)).1
          · exact hts _ (List.mem_filter.mp (am_wd_in hac.2)).1
        obtain ⟨c, k, comp, g1, g2, g3⟩ := Cond.arrayClass_spec hw
        refine ⟨c, fun _ => ⟨fun n z => ⟨fun k h => (by cases h), k, g2, comp, g3⟩, ?_⟩⟩
        rcases (show t = 0 ∨ t = 1 ∨ t = 2 by omega) with rfl | rfl | rfl <;> exact g1
      · have hm : (am_AO[t - 3]?).getD "" ∈ am_AO := by
          have : t - 3 < am_AO.length := by show t - 3 < 4; omega
          rw [List.getElem?_eq_getElem this]
          exact List.getElem_mem this
        obtain ⟨comp, c, k, g1, g2, g3, g4, g5⟩ := Cond.arrayOver_spec (hts _ (am_w2 _ hm))
        rw [am_et_q (by omega)]
        exact ⟨c, fun _ => ⟨fun n z => ⟨fun k h => (by cases h), k, g3, comp, g4⟩, k, comp, g3, g4, g1, g5⟩⟩
    · exact ⟨0, fun q => absurd q ht⟩
  exact ⟨fun t => Classical.choose (h t), fun t ht => Classical.choose_spec (h t) ht⟩
theorem am_whole_start {p : Program} {e : Env} {s : State} {m : MethodId} {below : List Frame} {meth : Method} {c : Code} (l : Launch) {b L : Nat} {xs : Nat → Int32} (C0 : lw_At p s m meth c b L xs) {n : Nat} {h' : aH} (hrun : am_run (am_E L xs) n 186 (am_B 186 0) (am_ent 186 [.retAddr 2]) [] am_h0 = some (some (.int 1), h')) (hc : h'.1.length ≤ 600000) (hs : am_sz h' ≤ 7302249) : W p l e room_1 s m #[Value.ref b] below meth c s.heap [] 0 0 (lw_Z below #[Value.ref b] s) (entryFrame m ([Value.ref b] : List Value).toArray 4) := by
  obtain ⟨hx, hb, hr, hml, hown, hts, hX, hbl, hlocks, hgv⟩ := id C0
  have hf := flat_of_before _ hgv
  obtain ⟨t0, hZ0, hT0⟩ := am_static (n := "LEAST_RULE") (zs := [1, 1, 100, 100, 1]) rfl (hts _ am_w0.1) (hts _ am_w0.2.2) (hf _ (by decide +kernel)) (hf _ (by decide +kernel)) (fun j hj => by
    rcases (show j = 0 ∨ j = 1 ∨ j = 2 ∨ j = 3 ∨ j = 4 by omega) with rfl | rfl | rfl | rfl | rfl <;> exact hf _ (by decide +kernel))
  obtain ⟨t1, hZ1, hT1⟩ := am_static (n := "GREATEST_RULE") (zs := [200, 20, 2000, 3000, 2000]) rfl (hts _ am_w0.2.1) (hts _ am_w0.2.2) (hf _ (by decide +kernel)) (hf _ (by decide +kernel)) (fun j hj => by
    rcases (show j = 0 ∨ j = 1 ∨ j = 2 ∨ j = 3 ∨ j = 4 by omega) with rfl | rfl | rfl | rfl | rfl <;> exact hf _ (by decide +kernel))
  obtain ⟨cA, hcA⟩ := am_cA_ex hts
  have hgood : ∀ w ∈ lw_good, w.before #[Value.ref b] s = true := fun w hw => hts w (List.mem_filter.mp hw).1
  have hkn : ∀ k, ∃ q : ClassId × (Nat → Nat), k < 10 → u_Kn s (am_cls k) (am_Tx k) (am_N k) q.1 q.2 := by
    intro k
    by_cases hk : k < 10
    · obtain ⟨a, b, h⟩ := u_known (C := am_cls k) (T := am_Tx k) (N := am_N k) (n := am_N k) hgood (am_wx_ok k hk) (hgood _ (am_w1 k hk))
      exact ⟨(a, b), fun _ => h⟩
    · exact ⟨(0, fun _ => 0), fun h => absurd h hk⟩
  have hK : va_K (fun k => (Classical.choose (hkn k)).1, fun k => (Classical.choose (hkn k)).2) vwCl (am_tys cA) s := by
    refine ⟨fun k q hq => ?_, fun k q hq => ?_⟩
    · have hk : k < 10 := (List.getElem?_eq_some_iff.mp hq).1
      rw [am_vwCl hk] at hq
      cases hq
      exact Classical.choose_spec (hkn k) hk
    · have hk : k < 7 := by
        have := (List.getElem?_eq_some_iff.mp hq).1
        simpa [am_tys] using this
      rw [am_tys_get hk] at hq
      cases hq
      exact hcA k hk
  generalize (fun k => (Classical.choose (hkn k)).1) = dC at hK
  generalize (fun k => (Classical.choose (hkn k)).2) = dI at hK
  have henv : am_env (am_E L xs) s.heap.size (fun x => match x with | 0 => t0 | 1 => t1 | _ => b) dC dI cA s := by
    refine ⟨hK, fun w hw hn => ?_, fun C hC => va_AO.of (hts _ (am_w2 C hC)), fun x hx => ?_, ⟨fun x hx => ?_, hX, hbl⟩, Nat.le_refl _⟩
    · obtain ⟨a, i, y, h, rfl⟩ := am_nestK hn
      exact va_Nw.of rfl (hts _ hw)
    · rcases (show x = 0 ∨ x = 1 by omega) with rfl | rfl
      · exact hZ0
      · exact hZ1
    · rcases (show x = 0 ∨ x = 1 by omega) with rfl | rfl
      · exact hT0
      · exact hT1
  obtain ⟨k1, k2, k3, k4, k5, k6⟩ := am_lawk
  have hctx : am_ctx (am_E L xs) s.heap.size (fun x => match x with | 0 => t0 | 1 => t1 | _ => b) dC dI cA 186 p room_1 s m #[Value.ref b] meth c := ⟨hx, hb.trans am_law_cc.symm, hml.trans k3.symm, by rw [k1, k2]; exact hown, hgood, k4, k5, henv, fun q => absurd q (by rw [am_law_name]; decide)⟩
  have hsnd := am_sound (am_E L xs) s.heap.size (fun x => match x with | 0 => t0 | 1 => t1 | _ => b) dC dI cA l n 186 (am_B 186 0) (am_ent 186 [.retAddr 2]) [] am_h0 (some (.int 1), h') hrun
  have hlr : am_lrel s.heap.size (fun x => match x with | 0 => t0 | 1 => t1 | _ => b) (am_ent 186 [.retAddr 2]) ((lg_sl [Value.ref b] ++ List.replicate (4 - (lg_sl [Value.ref b]).length) Slot.unset).toArray) 4 := am_lrel_entry (M := 186) (as := [.retAddr 2]) (by decide)
  rw [lg_entry_eq]
  refine hsnd p e room_1 s m #[Value.ref b] below meth c s.heap _ [] 0 0 _ _ 0 _ hctx (am_chkB 186 0) hlr ⟨fun k q hq => by simp [am_wl, am_h0] at hq, by simp [am_h0], va_S.rf⟩ rfl rfl (by show 0 + (h'.1.length - 0) ≤ 600000; omega) (by show 0 + (am_sz h' - am_sz am_h0) ≤ 7302249; omega) (fun H' locs' ls' pc' hp hret => ?_)
  refine va_forget (fun q hq => hp.2.2.2.2 q hq) ?_
  refine W.widen (k := 600000) (n := 7302249) (by show 0 + (h'.1.length - 0) ≤ 600000; omega) (by show 0 + (am_sz h' - am_sz am_h0) ≤ 7302249; omega) ?_
  exact lw_ret hx hb hr hlocks (am_law_cc ▸ hret.1)
end
section
/-! THE LIMIT OF THE RUNS: ev. Its equations are the rules of all later work. -/
theorem am_run_le {E : aE} : ∀ {n m M : Nat} {c : List Instr} {L S : List Value} {h : aH} {r : aR}, n ≤ m → am_run E n M c L S h = some r → am_run E m M c L S h = some r := by
  intro n
  induction n with
  | zero => intro m M c L S h r _ hr; cases hr
  | succ n ih =>
    intro m M c L S h r hm hr
    obtain ⟨m, rfl⟩ : ∃ k, m = k + 1 := ⟨m - 1, by omega⟩
    have hm : n ≤ m := by omega
    rcases am_run_succ hr with ⟨c', L', S', h1, hs, hr⟩ | hs | ⟨k, as, c', L', S', h1, v, h2, hs, hq, hr⟩
    · rw [am_run, hs]; exact ih hm hr
    · rw [am_run, hs]
    · rw [am_run, hs]
      show (match am_run E m k (am_B k 0) (am_ent k as) [] h1 with
        | none => none
        | some (v, h'') => am_run E m M c' L' (v.toList ++ S') h'') = some r
      rw [ih hm hq]
      exact ih hm hr
noncomputable def ev (E : aE) (M : Nat) (c : List Instr) (L S : List Value) (h : aH) : Option aR := @dite _ (∃ r n, am_run E n M c L S h = some r) (Classical.propDecidable _) (fun hx => some (Classical.choose hx)) (fun _ => none)
theorem ev_iff {E : aE} {M : Nat} {c : List Instr} {L S : List Value} {h : aH} {r : aR} : ev E M c L S h = some r ↔ ∃ n, am_run E n M c L S h = some r := by
  unfold ev
  constructor
  · intro hr
    split at hr
    · rename_i hx
      cases hr
      exact Classical.choose_spec hx
    · cases hr
  · rintro ⟨n, hn⟩
    have hx : ∃ r n, am_run E n M c L S h = some r := ⟨r, n, hn⟩
    rw [dif_pos hx]
    obtain ⟨n2, hn2⟩ := Classical.choose_spec hx
    have a := am_run_le (Nat.le_max_left n n2) hn
    have b := am_run_le (Nat.le_max_right n n2) hn2
    rw [a] at b
    exact b.symm
theorem ev_eq {E : aE} {M M' : Nat} {c c' : List Instr} {L S L' S' : List Value} {h h' : aH} (hh : ∀ r, ev E M c L S h = some r ↔ ev E M' c' L' S' h' = some r) : ev E M c L S h = ev E M' c' L' S' h' := by
  apply Option.ext
  intro r
  exact hh r
theorem ev_go {E : aE} {M : Nat} {c c' : List Instr} {L S L' S' : List Value} {h h1 : aH} (hs : am_step E M c L S h = some (.inl (c', L', S', h1))) : ev E M c L S h = ev E M c' L' S' h1 := by
  apply ev_eq
  intro r
  rw [ev_iff, ev_iff]
  constructor
  · rintro ⟨n, hn⟩
    match n, hn with
    | n + 1, hn =>
      rw [am_run, hs] at hn
      exact ⟨n, hn⟩
  · rintro ⟨n, hn⟩
    exact ⟨n + 1, by rw [am_run, hs]; exact hn⟩
theorem ev_ret {E : aE} {M : Nat} {c : List Instr} {L S : List Value} {h : aH} {r : aR} (hs : am_step E M c L S h = some (.inr (.inl r))) : ev E M c L S h = some r := ev_iff.mpr ⟨1, by rw [am_run, hs]⟩
theorem ev_call {E : aE} {M k : Nat} {c c' : List Instr} {L S L' S' as : List Value} {h h1 h2 : aH} {v : Option Value} (hs : am_step E M c L S h = some (.inr (.inr (k, as, (c', L', S', h1))))) (hq : ev E k (am_B k 0) (am_ent k as) [] h1 = some (v, h2)) : ev E M c L S h = ev E M c' L' (v.toList ++ S') h2 := by
  obtain ⟨n1, hn1⟩ := ev_iff.mp hq
  apply ev_eq
  intro r
  rw [ev_iff, ev_iff]
  constructor
  · rintro ⟨n, hn⟩
    match n, hn with
    | n + 1, hn =>
      rcases am_run_succ hn with ⟨c', L', S', h1, hs', hr⟩ | hs' | ⟨k, as, c', L', S', h1, v, h2, hs', hq', hr⟩
      · rw [hs] at hs'; cases hs'
      · rw [hs] at hs'; cases hs'
      · rw [hs] at hs'
        cases hs'
        have a := am_run_le (Nat.le_max_left n n1) hq'
        have b := am_run_le (Nat.le_max_right n n1) hn1
        rw [a] at b
        cases b
        exact ⟨n, hr⟩
  · rintro ⟨n, hn⟩
    refine ⟨max n n1 + 1, ?_⟩
    rw [am_run, hs]
    show (match am_run E (max n n1) k (am_B k 0) (am_ent k as) [] h1 with
        | none => none
        | some (v, h'') => am_run E (max n n1) M c' L' (v.toList ++ S') h'') = some r
    rw [am_run_le (Nat.le_max_right n n1) hn1]
    exact am_run_le (Nat.le_max_left n n1) hn
section Ev
variable {E : aE} {M : Nat} {c : List Instr} {L S : List Value} {h : aH}
theorem e_iload_0 {x : Int32} : ev E M (.iload 0 :: c) (.int x :: L) S h = ev E M c (.int x :: L) (.int x :: S) h := ev_go rfl
theorem e_lload_0 {x : Int64} : ev E M (.lload 0 :: c) (.long x :: L) S h = ev E M c (.long x :: L) (.long x :: S) h := ev_go rfl
theorem e_aloadr_0 {x : Nat} : ev E M (.aload 0 :: c) (.ref x :: L) S h = ev E M c (.ref x :: L) (.ref x :: S) h := ev_go rfl
theorem e_aloadx_0 {x : Nat} : ev E M (.aload 0 :: c) (.retAddr x :: L) S h = ev E M c (.retAddr x :: L) (.retAddr x :: S) h := ev_go rfl
theorem e_istore_0 {b : Value} {x : Int32} : ev E M (.istore 0 :: c) (b :: L) (.int x :: S) h = ev E M c (.int x :: L) S h := ev_go (by simp only [am_step, List.length_cons]; rw [if_pos (by omega)]; rfl)
theorem e_astore_0 {b : Value} {x : Nat} : ev E M (.astore 0 :: c) (b :: L) (.ref x :: S) h = ev E M c (.ref x :: L) S h := ev_go (by simp only [am_step, List.length_cons]; rw [if_pos (by omega)]; rfl)
theorem e_lstore_0 {b b2 : Value} {x : Int64} : ev E M (.lstore 0 :: c) (b :: b2 :: L) (.long x :: S) h = ev E M c (.long x :: am_dm :: L) S h := ev_go (by simp only [am_step, List.length_cons]; rw [if_pos (by omega)]; rfl)
theorem e_iinc_0 {x : Int32} {v : Int} : ev E M (.iinc 0 v :: c) (.int x :: L) S h = ev E M c (.int (x + Int32.ofInt v) :: L) S h := ev_go rfl
theorem e_iload_1 {a0 : Value} {x : Int32} : ev E M (.iload 1 :: c) (a0 :: .int x :: L) S h = ev E M c (a0 :: .int x :: L) (.int x :: S) h := ev_go rfl
theorem e_lload_1 {a0 : Value} {x : Int64} : ev E M (.lload 1 :: c) (a0 :: .long x :: L) S h = ev E M c (a0 :: .long x :: L) (.long x :: S) h := ev_go rfl
theorem e_aloadr_1 {a0 : Value} {x : Nat} : ev E M (.aload 1 :: c) (a0 :: .ref x :: L) S h = ev E M c (a0 :: .ref x :: L) (.ref x :: S) h := ev_go rfl
theorem e_aloadx_1 {a0 : Value} {x : Nat} : ev E M (.aload 1 :: c) (a0 :: .retAddr x :: L) S h = ev E M c (a0 :: .retAddr x :: L) (.retAddr x :: S) h := ev_go rfl
theorem e_istore_1 {a0 : Value} {b : Value} {x : Int32} : ev E M (.istore 1 :: c) (a0 :: b :: L) (.int x :: S) h = ev E M c (am_kp a0 :: .int x :: L) S h := ev_go (by simp only [am_step, List.length_cons]; rw [if_pos (by omega)]; rfl)
theorem e_astore_1 {a0 : Value} {b : Value} {x : Nat} : ev E M (.astore 1 :: c) (a0 :: b :: L) (.ref x :: S) h = ev E M c (am_kp a0 :: .ref x :: L) S h := ev_go (by simp only [am_step, List.length_cons]; rw [if_pos (by omega)]; rfl)
theorem e_lstore_1 {a0 : Value} {b b2 : Value} {x : Int64} : ev E M (.lstore 1 :: c) (a0 :: b :: b2 :: L) (.long x :: S) h = ev E M c (am_kp a0 :: .long x :: am_dm :: L) S h := ev_go (by simp only [am_step, List.length_cons]; rw [if_pos (by omega)]; rfl)
theorem e_iinc_1 {a0 : Value} {x : Int32} {v : Int} : ev E M (.iinc 1 v :: c) (a0 :: .int x :: L) S h = ev E M c (am_kp a0 :: .int (x + Int32.ofInt v) :: L) S h := ev_go rfl
theorem e_iload_2 {a0 a1 : Value} {x : Int32} : ev E M (.iload 2 :: c) (a0 :: a1 :: .int x :: L) S h = ev E M c (a0 :: a1 :: .int x :: L) (.int x :: S) h := ev_go rfl
theorem e_lload_2 {a0 a1 : Value} {x : Int64} : ev E M (.lload 2 :: c) (a0 :: a1 :: .long x :: L) S h = ev E M c (a0 :: a1 :: .long x :: L) (.long x :: S) h := ev_go rfl
theorem e_aloadr_2 {a0 a1 : Value} {x : Nat} : ev E M (.aload 2 :: c) (a0 :: a1 :: .ref x :: L) S h = ev E M c (a0 :: a1 :: .ref x :: L) (.ref x :: S) h := ev_go rfl
theorem e_aloadx_2 {a0 a1 : Value} {x : Nat} : ev E M (.aload 2 :: c) (a0 :: a1 :: .retAddr x :: L) S h = ev E M c (a0 :: a1 :: .retAddr x :: L) (.retAddr x :: S) h := ev_go rfl
theorem e_istore_2 {a0 a1 : Value} {b : Value} {x : Int32} : ev E M (.istore 2 :: c) (a0 :: a1 :: b :: L) (.int x :: S) h = ev E M c (a0 :: am_kp a1 :: .int x :: L) S h := ev_go (by simp only [am_step, List.length_cons]; rw [if_pos (by omega)]; rfl)
theorem e_astore_2 {a0 a1 : Value} {b : Value} {x : Nat} : ev E M (.astore 2 :: c) (a0 :: a1 :: b :: L) (.ref x :: S) h = ev E M c (a0 :: am_kp a1 :: .ref x :: L) S h := ev_go (by simp only [am_step, List.length_cons]; rw [if_pos (by omega)]; rfl)
theorem e_lstore_2 {a0 a1 : Value} {b b2 : Value} {x : Int64} : ev E M (.lstore 2 :: c) (a0 :: a1 :: b :: b2 :: L) (.long x :: S) h = ev E M c (a0 :: am_kp a1 :: .long x :: am_dm :: L) S h := ev_go (by simp only [am_step, List.length_cons]; rw [if_pos (by omega)]; rfl)
theorem e_iinc_2 {a0 a1 : Value} {x : Int32} {v : Int} : ev E M (.iinc 2 v :: c) (a0 :: a1 :: .int x :: L) S h = ev E M c (a0 :: am_kp a1 :: .int (x + Int32.ofInt v) :: L) S h := ev_go rfl
theorem e_iload_3 {a0 a1 a2 : Value} {x : Int32} : ev E M (.iload 3 :: c) (a0 :: a1 :: a2 :: .int x :: L) S h = ev E M c (a0 :: a1 :: a2 :: .int x :: L) (.int x :: S) h := ev_go rfl
theorem e_lload_3 {a0 a1 a2 : Value} {x : Int64} : ev E M (.lload 3 :: c) (a0 :: a1 :: a2 :: .long x :: L) S h = ev E M c (a0 :: a1 :: a2 :: .long x :: L) (.long x :: S) h := ev_go rfl
theorem e_aloadr_3 {a0 a1 a2 : Value} {x : Nat} : ev E M (.aload 3 :: c) (a0 :: a1 :: a2 :: .ref x :: L) S h = ev E M c (a0 :: a1 :: a2 :: .ref x :: L) (.ref x :: S) h := ev_go rfl
theorem e_aloadx_3 {a0 a1 a2 : Value} {x : Nat} : ev E M (.aload 3 :: c) (a0 :: a1 :: a2 :: .retAddr x :: L) S h = ev E M c (a0 :: a1 :: a2 :: .retAddr x :: L) (.retAddr x :: S) h := ev_go rfl
theorem e_istore_3 {a0 a1 a2 : Value} {b : Value} {x : Int32} : ev E M (.istore 3 :: c) (a0 :: a1 :: a2 :: b :: L) (.int x :: S) h = ev E M c (a0 :: a1 :: am_kp a2 :: .int x :: L) S h := ev_go (by simp only [am_step, List.length_cons]; rw [if_pos (by omega)]; rfl)
theorem e_astore_3 {a0 a1 a2 : Value} {b : Value} {x : Nat} : ev E M (.astore 3 :: c) (a0 :: a1 :: a2 :: b :: L) (.ref x :: S) h = ev E M c (a0 :: a1 :: am_kp a2 :: .ref x :: L) S h := ev_go (by simp only [am_step, List.length_cons]; rw [if_pos (by omega)]; rfl)
theorem e_lstore_3 {a0 a1 a2 : Value} {b b2 : Value} {x : Int64} : ev E M (.lstore 3 :: c) (a0 :: a1 :: a2 :: b :: b2 :: L) (.long x :: S) h = ev E M c (a0 :: a1 :: am_kp a2 :: .long x :: am_dm :: L) S h := ev_go (by simp only [am_step, List.length_cons]; rw [if_pos (by omega)]; rfl)
theorem e_iinc_3 {a0 a1 a2 : Value} {x : Int32} {v : Int} : ev E M (.iinc 3 v :: c) (a0 :: a1 :: a2 :: .int x :: L) S h = ev E M c (a0 :: a1 :: am_kp a2 :: .int (x + Int32.ofInt v) :: L) S h := ev_go rfl
theorem e_iload_4 {a0 a1 a2 a3 : Value} {x : Int32} : ev E M (.iload 4 :: c) (a0 :: a1 :: a2 :: a3 :: .int x :: L) S h = ev E M c (a0 :: a1 :: a2 :: a3 :: .int x :: L) (.int x :: S) h := ev_go rfl
theorem e_lload_4 {a0 a1 a2 a3 : Value} {x : Int64} : ev E M (.lload 4 :: c) (a0 :: a1 :: a2 :: a3 :: .long x :: L) S h = ev E M c (a0 :: a1 :: a2 :: a3 :: .long x :: L) (.long x :: S) h := ev_go rfl
theorem e_aloadr_4 {a0 a1 a2 a3 : Value} {x : Nat} : ev E M (.aload 4 :: c) (a0 :: a1 :: a2 :: a3 :: .ref x :: L) S h = ev E M c (a0 :: a1 :: a2 :: a3 :: .ref x :: L) (.ref x :: S) h := ev_go rfl
theorem e_aloadx_4 {a0 a1 a2 a3 : Value} {x : Nat} : ev E M (.aload 4 :: c) (a0 :: a1 :: a2 :: a3 :: .retAddr x :: L) S h = ev E M c (a0 :: a1 :: a2 :: a3 :: .retAddr x :: L) (.retAddr x :: S) h := ev_go rfl
theorem e_istore_4 {a0 a1 a2 a3 : Value} {b : Value} {x : Int32} : ev E M (.istore 4 :: c) (a0 :: a1 :: a2 :: a3 :: b :: L) (.int x :: S) h = ev E M c (a0 :: a1 :: a2 :: am_kp a3 :: .int x :: L) S h := ev_go (by simp only [am_step, List.length_cons]; rw [if_pos (by omega)]; rfl)
theorem e_astore_4 {a0 a1 a2 a3 : Value} {b : Value} {x : Nat} : ev E M (.astore 4 :: c) (a0 :: a1 :: a2 :: a3 :: b :: L) (.ref x :: S) h = ev E M c (a0 :: a1 :: a2 :: am_kp a3 :: .ref x :: L) S h := ev_go (by simp only [am_step, List.length_cons]; rw [if_pos (by omega)]; rfl)
theorem e_lstore_4 {a0 a1 a2 a3 : Value} {b b2 : Value} {x : Int64} : ev E M (.lstore 4 :: c) (a0 :: a1 :: a2 :: a3 :: b :: b2 :: L) (.long x :: S) h = ev E M c (a0 :: a1 :: a2 :: am_kp a3 :: .long x :: am_dm :: L) S h := ev_go (by simp only [am_step, List.length_cons]; rw [if_pos (by omega)]; rfl)
theorem e_iinc_4 {a0 a1 a2 a3 : Value} {x : Int32} {v : Int} : ev E M (.iinc 4 v :: c) (a0 :: a1 :: a2 :: a3 :: .int x :: L) S h = ev E M c (a0 :: a1 :: a2 :: am_kp a3 :: .int (x + Int32.ofInt v) :: L) S h := ev_go rfl
theorem e_iload_5 {a0 a1 a2 a3 a4 : Value} {x : Int32} : ev E M (.iload 5 :: c) (a0 :: a1 :: a2 :: a3 :: a4 :: .int x :: L) S h = ev E M c (a0 :: a1 :: a2 :: a3 :: a4 :: .int x :: L) (.int x :: S) h := ev_go rfl
theorem e_lload_5 {a0 a1 a2 a3 a4 : Value} {x : Int64} : ev E M (.lload 5 :: c) (a0 :: a1 :: a2 :: a3 :: a4 :: .long x :: L) S h = ev E M c (a0 :: a1 :: a2 :: a3 :: a4 :: .long x :: L) (.long x :: S) h := ev_go rfl
theorem e_aloadr_5 {a0 a1 a2 a3 a4 : Value} {x : Nat} : ev E M (.aload 5 :: c) (a0 :: a1 :: a2 :: a3 :: a4 :: .ref x :: L) S h = ev E M c (a0 :: a1 :: a2 :: a3 :: a4 :: .ref x :: L) (.ref x :: S) h := ev_go rfl
theorem e_aloadx_5 {a0 a1 a2 a3 a4 : Value} {x : Nat} : ev E M (.aload 5 :: c) (a0 :: a1 :: a2 :: a3 :: a4 :: .retAddr x :: L) S h = ev E M c (a0 :: a1 :: a2 :: a3 :: a4 :: .retAddr x :: L) (.retAddr x :: S) h := ev_go rfl
theorem e_istore_5 {a0 a1 a2 a3 a4 : Value} {b : Value} {x : Int32} : ev E M (.istore 5 :: c) (a0 :: a1 :: a2 :: a3 :: a4 :: b :: L) (.int x :: S) h = ev E M c (a0 :: a1 :: a2 :: a3 :: am_kp a4 :: .int x :: L) S h := ev_go (by simp only [am_step, List.length_cons]; rw [if_pos (by omega)]; rfl)
theorem e_astore_5 {a0 a1 a2 a3 a4 : Value} {b : Value} {x : Nat} : ev E M (.astore 5 :: c) (a0 :: a1 :: a2 :: a3 :: a4 :: b :: L) (.ref x :: S) h = ev E M c (a0 :: a1 :: a2 :: a3 :: am_kp a4 :: .ref x :: L) S h := ev_go (by simp only [am_step, List.length_cons]; rw [if_pos (by omega)]; rfl)
theorem e_lstore_5 {a0 a1 a2 a3 a4 : Value} {b b2 : Value} {x : Int64} : ev E M (.lstore 5 :: c) (a0 :: a1 :: a2 :: a3 :: a4 :: b :: b2 :: L) (.long x :: S) h = ev E M c (a0 :: a1 :: a2 :: a3 :: am_kp a4 :: .long x :: am_dm :: L) S h := ev_go (by simp only [am_step, List.length_cons]; rw [if_pos (by omega)]; rfl)
theorem e_iinc_5 {a0 a1 a2 a3 a4 : Value} {x : Int32} {v : Int} : ev E M (.iinc 5 v :: c) (a0 :: a1 :: a2 :: a3 :: a4 :: .int x :: L) S h = ev E M c (a0 :: a1 :: a2 :: a3 :: am_kp a4 :: .int (x + Int32.ofInt v) :: L) S h := ev_go rfl
theorem e_iload_6 {a0 a1 a2 a3 a4 a5 : Value} {x : Int32} : ev E M (.iload 6 :: c) (a0 :: a1 :: a2 :: a3 :: a4 :: a5 :: .int x :: L) S h = ev E M c (a0 :: a1 :: a2 :: a3 :: a4 :: a5 :: .int x :: L) (.int x :: S) h := ev_go rfl
theorem e_lload_6 {a0 a1 a2 a3 a4 a5 : Value} {x : Int64} : ev E M (.lload 6 :: c) (a0 :: a1 :: a2 :: a3 :: a4 :: a5 :: .long x :: L) S h = ev E M c (a0 :: a1 :: a2 :: a3 :: a4 :: a5 :: .long x :: L) (.long x :: S) h := ev_go rfl
theorem e_aloadr_6 {a0 a1 a2 a3 a4 a5 : Value} {x : Nat} : ev E M (.aload 6 :: c) (a0 :: a1 :: a2 :: a3 :: a4 :: a5 :: .ref x :: L) S h = ev E M c (a0 :: a1 :: a2 :: a3 :: a4 :: a5 :: .ref x :: L) (.ref x :: S) h := ev_go rfl
theorem e_aloadx_6 {a0 a1 a2 a3 a4 a5 : Value} {x : Nat} : ev E M (.aload 6 :: c) (a0 :: a1 :: a2 :: a3 :: a4 :: a5 :: .retAddr x :: L) S h = ev E M c (a0 :: a1 :: a2 :: a3 :: a4 :: a5 :: .retAddr x :: L) (.retAddr x :: S) h := ev_go rfl
theorem e_istore_6 {a0 a1 a2 a3 a4 a5 : Value} {b : Value} {x : Int32} : ev E M (.istore 6 :: c) (a0 :: a1 :: a2 :: a3 :: a4 :: a5 :: b :: L) (.int x :: S) h = ev E M c (a0 :: a1 :: a2 :: a3 :: a4 :: am_kp a5 :: .int x :: L) S h := ev_go (by simp only [am_step, List.length_cons]; rw [if_pos (by omega)]; rfl)
theorem e_astore_6 {a0 a1 a2 a3 a4 a5 : Value} {b : Value} {x : Nat} : ev E M (.astore 6 :: c) (a0 :: a1 :: a2 :: a3 :: a4 :: a5 :: b :: L) (.ref x :: S) h = ev E M c (a0 :: a1 :: a2 :: a3 :: a4 :: am_kp a5 :: .ref x :: L) S h := ev_go (by simp only [am_step, List.length_cons]; rw [if_pos (by omega)]; rfl)
theorem e_lstore_6 {a0 a1 a2 a3 a4 a5 : Value} {b b2 : Value} {x : Int64} : ev E M (.lstore 6 :: c) (a0 :: a1 :: a2 :: a3 :: a4 :: a5 :: b :: b2 :: L) (.long x :: S) h = ev E M c (a0 :: a1 :: a2 :: a3 :: a4 :: am_kp a5 :: .long x :: am_dm :: L) S h := ev_go (by simp only [am_step, List.length_cons]; rw [if_pos (by omega)]; rfl)
theorem e_iinc_6 {a0 a1 a2 a3 a4 a5 : Value} {x : Int32} {v : Int} : ev E M (.iinc 6 v :: c) (a0 :: a1 :: a2 :: a3 :: a4 :: a5 :: .int x :: L) S h = ev E M c (a0 :: a1 :: a2 :: a3 :: a4 :: am_kp a5 :: .int (x + Int32.ofInt v) :: L) S h := ev_go rfl
theorem e_iload_7 {a0 a1 a2 a3 a4 a5 a6 : Value} {x : Int32} : ev E M (.iload 7 :: c) (a0 :: a1 :: a2 :: a3 :: a4 :: a5 :: a6 :: .int x :: L) S h = ev E M c (a0 :: a1 :: a2 :: a3 :: a4 :: a5 :: a6 :: .int x :: L) (.int x :: S) h := ev_go rfl
theorem e_lload_7 {a0 a1 a2 a3 a4 a5 a6 : Value} {x : Int64} : ev E M (.lload 7 :: c) (a0 :: a1 :: a2 :: a3 :: a4 :: a5 :: a6 :: .long x :: L) S h = ev E M c (a0 :: a1 :: a2 :: a3 :: a4 :: a5 :: a6 :: .long x :: L) (.long x :: S) h := ev_go rfl
theorem e_aloadr_7 {a0 a1 a2 a3 a4 a5 a6 : Value} {x : Nat} : ev E M (.aload 7 :: c) (a0 :: a1 :: a2 :: a3 :: a4 :: a5 :: a6 :: .ref x :: L) S h = ev E M c (a0 :: a1 :: a2 :: a3 :: a4 :: a5 :: a6 :: .ref x :: L) (.ref x :: S) h := ev_go rfl
theorem e_aloadx_7 {a0 a1 a2 a3 a4 a5 a6 : Value} {x : Nat} : ev E M (.aload 7 :: c) (a0 :: a1 :: a2 :: a3 :: a4 :: a5 :: a6 :: .retAddr x :: L) S h = ev E M c (a0 :: a1 :: a2 :: a3 :: a4 :: a5 :: a6 :: .retAddr x :: L) (.retAddr x :: S) h := ev_go rfl
theorem e_istore_7 {a0 a1 a2 a3 a4 a5 a6 : Value} {b : Value} {x : Int32} : ev E M (.istore 7 :: c) (a0 :: a1 :: a2 :: a3 :: a4 :: a5 :: a6 :: b :: L) (.int x :: S) h = ev E M c (a0 :: a1 :: a2 :: a3 :: a4 :: a5 :: am_kp a6 :: .int x :: L) S h := ev_go (by simp only [am_step, List.length_cons]; rw [if_pos (by omega)]; rfl)
theorem e_astore_7 {a0 a1 a2 a3 a4 a5 a6 : Value} {b : Value} {x : Nat} : ev E M (.astore 7 :: c) (a0 :: a1 :: a2 :: a3 :: a4 :: a5 :: a6 :: b :: L) (.ref x :: S) h = ev E M c (a0 :: a1 :: a2 :: a3 :: a4 :: a5 :: am_kp a6 :: .ref x :: L) S h := ev_go (by simp only [am_step, List.length_cons]; rw [if_pos (by omega)]; rfl)
theorem e_lstore_7 {a0 a1 a2 a3 a4 a5 a6 : Value} {b b2 : Value} {x : Int64} : ev E M (.lstore 7 :: c) (a0 :: a1 :: a2 :: a3 :: a4 :: a5 :: a6 :: b :: b2 :: L) (.long x :: S) h = ev E M c (a0 :: a1 :: a2 :: a3 :: a4 :: a5 :: am_kp a6 :: .long x :: am_dm :: L) S h := ev_go (by simp only [am_step, List.length_cons]; rw [if_pos (by omega)]; rfl)
theorem e_iinc_7 {a0 a1 a2 a3 a4 a5 a6 : Value} {x : Int32} {v : Int} : ev E M (.iinc 7 v :: c) (a0 :: a1 :: a2 :: a3 :: a4 :: a5 :: a6 :: .int x :: L) S h = ev E M c (a0 :: a1 :: a2 :: a3 :: a4 :: a5 :: am_kp a6 :: .int (x + Int32.ofInt v) :: L) S h := ev_go rfl
theorem e_iload_8 {a0 a1 a2 a3 a4 a5 a6 a7 : Value} {x : Int32} : ev E M (.iload 8 :: c) (a0 :: a1 :: a2 :: a3 :: a4 :: a5 :: a6 :: a7 :: .int x :: L) S h = ev E M c (a0 :: a1 :: a2 :: a3 :: a4 :: a5 :: a6 :: a7 :: .int x :: L) (.int x :: S) h := ev_go rfl
theorem e_lload_8 {a0 a1 a2 a3 a4 a5 a6 a7 : Value} {x : Int64} : ev E M (.lload 8 :: c) (a0 :: a1 :: a2 :: a3 :: a4 :: a5 :: a6 :: a7 :: .long x :: L) S h = ev E M c (a0 :: a1 :: a2 :: a3 :: a4 :: a5 :: a6 :: a7 :: .long x :: L) (.long x :: S) h := ev_go rfl
theorem e_aloadr_8 {a0 a1 a2 a3 a4 a5 a6 a7 : Value} {x : Nat} : ev E M (.aload 8 :: c) (a0 :: a1 :: a2 :: a3 :: a4 :: a5 :: a6 :: a7 :: .ref x :: L) S h = ev E M c (a0 :: a1 :: a2 :: a3 :: a4 :: a5 :: a6 :: a7 :: .ref x :: L) (.ref x :: S) h := ev_go rfl
theorem e_aloadx_8 {a0 a1 a2 a3 a4 a5 a6 a7 : Value} {x : Nat} : ev E M (.aload 8 :: c) (a0 :: a1 :: a2 :: a3 :: a4 :: a5 :: a6 :: a7 :: .retAddr x :: L) S h = ev E M c (a0 :: a1 :: a2 :: a3 :: a4 :: a5 :: a6 :: a7 :: .retAddr x :: L) (.retAddr x :: S) h := ev_go rfl
theorem e_istore_8 {a0 a1 a2 a3 a4 a5 a6 a7 : Value} {b : Value} {x : Int32} : ev E M (.istore 8 :: c) (a0 :: a1 :: a2 :: a3 :: a4 :: a5 :: a6 :: a7 :: b :: L) (.int x :: S) h = ev E M c (a0 :: a1 :: a2 :: a3 :: a4 :: a5 :: a6 :: am_kp a7 :: .int x :: L) S h := ev_go (by simp only [am_step, List.length_cons]; rw [if_pos (by omega)]; rfl)
theorem e_astore_8 {a0 a1 a2 a3 a4 a5 a6 a7 : Value} {b : Value} {x : Nat} : ev E M (.astore 8 :: c) (a0 :: a1 :: a2 :: a3 :: a4 :: a5 :: a6 :: a7 :: b :: L) (.ref x :: S) h = ev E M c (a0 :: a1 :: a2 :: a3 :: a4 :: a5 :: a6 :: am_kp a7 :: .ref x :: L) S h := ev_go (by simp only [am_step, List.length_cons]; rw [if_pos (by omega)]; rfl)
theorem e_lstore_8 {a0 a1 a2 a3 a4 a5 a6 a7 : Value} {b b2 : Value} {x : Int64} : ev E M (.lstore 8 :: c) (a0 :: a1 :: a2 :: a3 :: a4 :: a5 :: a6 :: a7 :: b :: b2 :: L) (.long x :: S) h = ev E M c (a0 :: a1 :: a2 :: a3 :: a4 :: a5 :: a6 :: am_kp a7 :: .long x :: am_dm :: L) S h := ev_go (by simp only [am_step, List.length_cons]; rw [if_pos (by omega)]; rfl)
theorem e_iinc_8 {a0 a1 a2 a3 a4 a5 a6 a7 : Value} {x : Int32} {v : Int} : ev E M (.iinc 8 v :: c) (a0 :: a1 :: a2 :: a3 :: a4 :: a5 :: a6 :: a7 :: .int x :: L) S h = ev E M c (a0 :: a1 :: a2 :: a3 :: a4 :: a5 :: a6 :: am_kp a7 :: .int (x + Int32.ofInt v) :: L) S h := ev_go rfl
theorem e_iload_9 {a0 a1 a2 a3 a4 a5 a6 a7 a8 : Value} {x : Int32} : ev E M (.iload 9 :: c) (a0 :: a1 :: a2 :: a3 :: a4 :: a5 :: a6 :: a7 :: a8 :: .int x :: L) S h = ev E M c (a0 :: a1 :: a2 :: a3 :: a4 :: a5 :: a6 :: a7 :: a8 :: .int x :: L) (.int x :: S) h := ev_go rfl
theorem e_lload_9 {a0 a1 a2 a3 a4 a5 a6 a7 a8 : Value} {x : Int64} : ev E M (.lload 9 :: c) (a0 :: a1 :: a2 :: a3 :: a4 :: a5 :: a6 :: a7 :: a8 :: .long x :: L) S h = ev E M c (a0 :: a1 :: a2 :: a3 :: a4 :: a5 :: a6 :: a7 :: a8 :: .long x :: L) (.long x :: S) h := ev_go rfl
theorem e_aloadr_9 {a0 a1 a2 a3 a4 a5 a6 a7 a8 : Value} {x : Nat} : ev E M (.aload 9 :: c) (a0 :: a1 :: a2 :: a3 :: a4 :: a5 :: a6 :: a7 :: a8 :: .ref x :: L) S h = ev E M c (a0 :: a1 :: a2 :: a3 :: a4 :: a5 :: a6 :: a7 :: a8 :: .ref x :: L) (.ref x :: S) h := ev_go rfl
theorem e_aloadx_9 {a0 a1 a2 a3 a4 a5 a6 a7 a8 : Value} {x : Nat} : ev E M (.aload 9 :: c) (a0 :: a1 :: a2 :: a3 :: a4 :: a5 :: a6 :: a7 :: a8 :: .retAddr x :: L) S h = ev E M c (a0 :: a1 :: a2 :: a3 :: a4 :: a5 :: a6 :: a7 :: a8 :: .retAddr x :: L) (.retAddr x :: S) h := ev_go rfl
theorem e_istore_9 {a0 a1 a2 a3 a4 a5 a6 a7 a8 : Value} {b : Value} {x : Int32} : ev E M (.istore 9 :: c) (a0 :: a1 :: a2 :: a3 :: a4 :: a5 :: a6 :: a7 :: a8 :: b :: L) (.int x :: S) h = ev E M c (a0 :: a1 :: a2 :: a3 :: a4 :: a5 :: a6 :: a7 :: am_kp a8 :: .int x :: L) S h := ev_go (by simp only [am_step, List.length_cons]; rw [if_pos (by omega)]; rfl)
theorem e_astore_9 {a0 a1 a2 a3 a4 a5 a6 a7 a8 : Value} {b : Value} {x : Nat} : ev E M (.astore 9 :: c) (a0 :: a1 :: a2 :: a3 :: a4 :: a5 :: a6 :: a7 :: a8 :: b :: L) (.ref x :: S) h = ev E M c (a0 :: a1 :: a2 :: a3 :: a4 :: a5 :: a6 :: a7 :: am_kp a8 :: .ref x :: L) S h := ev_go (by simp only [am_step, List.length_cons]; rw [if_pos (by omega)]; rfl)
theorem e_lstore_9 {a0 a1 a2 a3 a4 a5 a6 a7 a8 : Value} {b b2 : Value} {x : Int64} : ev E M (.lstore 9 :: c) (a0 :: a1 :: a2 :: a3 :: a4 :: a5 :: a6 :: a7 :: a8 :: b :: b2 :: L) (.long x :: S) h = ev E M c (a0 :: a1 :: a2 :: a3 :: a4 :: a5 :: a6 :: a7 :: am_kp a8 :: .long x :: am_dm :: L) S h := ev_go (by simp only [am_step, List.length_cons]; rw [if_pos (by omega)]; rfl)
theorem e_iinc_9 {a0 a1 a2 a3 a4 a5 a6 a7 a8 : Value} {x : Int32} {v : Int} : ev E M (.iinc 9 v :: c) (a0 :: a1 :: a2 :: a3 :: a4 :: a5 :: a6 :: a7 :: a8 :: .int x :: L) S h = ev E M c (a0 :: a1 :: a2 :: a3 :: a4 :: a5 :: a6 :: a7 :: am_kp a8 :: .int (x + Int32.ofInt v) :: L) S h := ev_go rfl
theorem e_iload_10 {a0 a1 a2 a3 a4 a5 a6 a7 a8 a9 : Value} {x : Int32} : ev E M (.iload 10 :: c) (a0 :: a1 :: a2 :: a3 :: a4 :: a5 :: a6 :: a7 :: a8 :: a9 :: .int x :: L) S h = ev E M c (a0 :: a1 :: a2 :: a3 :: a4 :: a5 :: a6 :: a7 :: a8 :: a9 :: .int x :: L) (.int x :: S) h := ev_go rfl
theorem e_lload_10 {a0 a1 a2 a3 a4 a5 a6 a7 a8 a9 : Value} {x : Int64} : ev E M (.lload 10 :: c) (a0 :: a1 :: a2 :: a3 :: a4 :: a5 :: a6 :: a7 :: a8 :: a9 :: .long x :: L) S h = ev E M c (a0 :: a1 :: a2 :: a3 :: a4 :: a5 :: a6 :: a7 :: a8 :: a9 :: .long x :: L) (.long x :: S) h := ev_go rfl
theorem e_aloadr_10 {a0 a1 a2 a3 a4 a5 a6 a7 a8 a9 : Value} {x : Nat} : ev E M (.aload 10 :: c) (a0 :: a1 :: a2 :: a3 :: a4 :: a5 :: a6 :: a7 :: a8 :: a9 :: .ref x :: L) S h = ev E M c (a0 :: a1 :: a2 :: a3 :: a4 :: a5 :: a6 :: a7 :: a8 :: a9 :: .ref x :: L) (.ref x :: S) h := ev_go rfl
theorem e_aloadx_10 {a0 a1 a2 a3 a4 a5 a6 a7 a8 a9 : Value} {x : Nat} : ev E M (.aload 10 :: c) (a0 :: a1 :: a2 :: a3 :: a4 :: a5 :: a6 :: a7 :: a8 :: a9 :: .retAddr x :: L) S h = ev E M c (a0 :: a1 :: a2 :: a3 :: a4 :: a5 :: a6 :: a7 :: a8 :: a9 :: .retAddr x :: L) (.retAddr x :: S) h := ev_go rfl
theorem e_istore_10 {a0 a1 a2 a3 a4 a5 a6 a7 a8 a9 : Value} {b : Value} {x : Int32} : ev E M (.istore 10 :: c) (a0 :: a1 :: a2 :: a3 :: a4 :: a5 :: a6 :: a7 :: a8 :: a9 :: b :: L) (.int x :: S) h = ev E M c (a0 :: a1 :: a2 :: a3 :: a4 :: a5 :: a6 :: a7 :: a8 :: am_kp a9 :: .int x :: L) S h := ev_go (by simp only [am_step, List.length_cons]; rw [if_pos (by omega)]; rfl)
theorem e_astore_10 {a0 a1 a2 a3 a4 a5 a6 a7 a8 a9 : Value} {b : Value} {x : Nat} : ev E M (.astore 10 :: c) (a0 :: a1 :: a2 :: a3 :: a4 :: a5 :: a6 :: a7 :: a8 :: a9 :: b :: L) (.ref x :: S) h = ev E M c (a0 :: a1 :: a2 :: a3 :: a4 :: a5 :: a6 :: a7 :: a8 :: am_kp a9 :: .ref x :: L) S h := ev_go (by simp only [am_step, List.length_cons]; rw [if_pos (by omega)]; rfl)
theorem e_lstore_10 {a0 a1 a2 a3 a4 a5 a6 a7 a8 a9 : Value} {b b2 : Value} {x : Int64} : ev E M (.lstore 10 :: c) (a0 :: a1 :: a2 :: a3 :: a4 :: a5 :: a6 :: a7 :: a8 :: a9 :: b :: b2 :: L) (.long x :: S) h = ev E M c (a0 :: a1 :: a2 :: a3 :: a4 :: a5 :: a6 :: a7 :: a8 :: am_kp a9 :: .long x :: am_dm :: L) S h := ev_go (by simp only [am_step, List.length_cons]; rw [if_pos (by omega)]; rfl)
theorem e_iinc_10 {a0 a1 a2 a3 a4 a5 a6 a7 a8 a9 : Value} {x : Int32} {v : Int} : ev E M (.iinc 10 v :: c) (a0 :: a1 :: a2 :: a3 :: a4 :: a5 :: a6 :: a7 :: a8 :: a9 :: .int x :: L) S h = ev E M c (a0 :: a1 :: a2 :: a3 :: a4 :: a5 :: a6 :: a7 :: a8 :: am_kp a9 :: .int (x + Int32.ofInt v) :: L) S h := ev_go rfl
theorem e_iload_11 {a0 a1 a2 a3 a4 a5 a6 a7 a8 a9 a10 : Value} {x : Int32} : ev E M (.iload 11 :: c) (a0 :: a1 :: a2 :: a3 :: a4 :: a5 :: a6 :: a7 :: a8 :: a9 :: a10 :: .int x :: L) S h = ev E M c (a0 :: a1 :: a2 :: a3 :: a4 :: a5 :: a6 :: a7 :: a8 :: a9 :: a10 :: .int x :: L) (.int x :: S) h := ev_go rfl
theorem e_lload_11 {a0 a1 a2 a3 a4 a5 a6 a7 a8 a9 a10 : Value} {x : Int64} : ev E M (.lload 11 :: c) (a0 :: a1 :: a2 :: a3 :: a4 :: a5 :: a6 :: a7 :: a8 :: a9 :: a10 :: .long x :: L) S h = ev E M c (a0 :: a1 :: a2 :: a3 :: a4 :: a5 :: a6 :: a7 :: a8 :: a9 :: a10 :: .long x :: L) (.long x :: S) h := ev_go rfl
theorem e_aloadr_11 {a0 a1 a2 a3 a4 a5 a6 a7 a8 a9 a10 : Value} {x : Nat} : ev E M (.aload 11 :: c) (a0 :: a1 :: a2 :: a3 :: a4 :: a5 :: a6 :: a7 :: a8 :: a9 :: a10 :: .ref x :: L) S h = ev E M c (a0 :: a1 :: a2 :: a3 :: a4 :: a5 :: a6 :: a7 :: a8 :: a9 :: a10 :: .ref x :: L) (.ref x :: S) h := ev_go rfl
theorem e_aloadx_11 {a0 a1 a2 a3 a4 a5 a6 a7 a8 a9 a10 : Value} {x : Nat} : ev E M (.aload 11 :: c) (a0 :: a1 :: a2 :: a3 :: a4 :: a5 :: a6 :: a7 :: a8 :: a9 :: a10 :: .retAddr x :: L) S h = ev E M c (a0 :: a1 :: a2 :: a3 :: a4 :: a5 :: a6 :: a7 :: a8 :: a9 :: a10 :: .retAddr x :: L) (.retAddr x :: S) h := ev_go rfl
theorem e_istore_11 {a0 a1 a2 a3 a4 a5 a6 a7 a8 a9 a10 : Value} {b : Value} {x : Int32} : ev E M (.istore 11 :: c) (a0 :: a1 :: a2 :: a3 :: a4 :: a5 :: a6 :: a7 :: a8 :: a9 :: a10 :: b :: L) (.int x :: S) h = ev E M c (a0 :: a1 :: a2 :: a3 :: a4 :: a5 :: a6 :: a7 :: a8 :: a9 :: am_kp a10 :: .int x :: L) S h := ev_go (by simp only [am_step, List.length_cons]; rw [if_pos (by omega)]; rfl)
theorem e_astore_11 {a0 a1 a2 a3 a4 a5 a6 a7 a8 a9 a10 : Value} {b : Value} {x : Nat} : ev E M (.astore 11 :: c) (a0 :: a1 :: a2 :: a3 :: a4 :: a5 :: a6 :: a7 :: a8 :: a9 :: a10 :: b :: L) (.ref x :: S) h = ev E M c (a0 :: a1 :: a2 :: a3 :: a4 :: a5 :: a6 :: a7 :: a8 :: a9 :: am_kp a10 :: .ref x :: L) S h := ev_go (by simp only [am_step, List.length_cons]; rw [if_pos (by omega)]; rfl)
theorem e_lstore_11 {a0 a1 a2 a3 a4 a5 a6 a7 a8 a9 a10 : Value} {b b2 : Value} {x : Int64} : ev E M (.lstore 11 :: c) (a0 :: a1 :: a2 :: a3 :: a4 :: a5 :: a6 :: a7 :: a8 :: a9 :: a10 :: b :: b2 :: L) (.long x :: S) h = ev E M c (a0 :: a1 :: a2 :: a3 :: a4 :: a5 :: a6 :: a7 :: a8 :: a9 :: am_kp a10 :: .long x :: am_dm :: L) S h := ev_go (by simp only [am_step, List.length_cons]; rw [if_pos (by omega)]; rfl)
theorem e_iinc_11 {a0 a1 a2 a3 a4 a5 a6 a7 a8 a9 a10 : Value} {x : Int32} {v : Int} : ev E M (.iinc 11 v :: c) (a0 :: a1 :: a2 :: a3 :: a4 :: a5 :: a6 :: a7 :: a8 :: a9 :: a10 :: .int x :: L) S h = ev E M c (a0 :: a1 :: a2 :: a3 :: a4 :: a5 :: a6 :: a7 :: a8 :: a9 :: am_kp a10 :: .int (x + Int32.ofInt v) :: L) S h := ev_go rfl
theorem e_iload_12 {a0 a1 a2 a3 a4 a5 a6 a7 a8 a9 a10 a11 : Value} {x : Int32} : ev E M (.iload 12 :: c) (a0 :: a1 :: a2 :: a3 :: a4 :: a5 :: a6 :: a7 :: a8 :: a9 :: a10 :: a11 :: .int x :: L) S h = ev E M c (a0 :: a1 :: a2 :: a3 :: a4 :: a5 :: a6 :: a7 :: a8 :: a9 :: a10 :: a11 :: .int x :: L) (.int x :: S) h := ev_go rfl
theorem e_lload_12 {a0 a1 a2 a3 a4 a5 a6 a7 a8 a9 a10 a11 : Value} {x : Int64} : ev E M (.lload 12 :: c) (a0 :: a1 :: a2 :: a3 :: a4 :: a5 :: a6 :: a7 :: a8 :: a9 :: a10 :: a11 :: .long x :: L) S h = ev E M c (a0 :: a1 :: a2 :: a3 :: a4 :: a5 :: a6 :: a7 :: a8 :: a9 :: a10 :: a11 :: .long x :: L) (.long x :: S) h := ev_go rfl
theorem e_aloadr_12 {a0 a1 a2 a3 a4 a5 a6 a7 a8 a9 a10 a11 : Value} {x : Nat} : ev E M (.aload 12 :: c) (a0 :: a1 :: a2 :: a3 :: a4 :: a5 :: a6 :: a7 :: a8 :: a9 :: a10 :: a11 :: .ref x :: L) S h = ev E M c (a0 :: a1 :: a2 :: a3 :: a4 :: a5 :: a6 :: a7 :: a8 :: a9 :: a10 :: a11 :: .ref x :: L) (.ref x :: S) h := ev_go rfl
theorem e_aloadx_12 {a0 a1 a2 a3 a4 a5 a6 a7 a8 a9 a10 a11 : Value} {x : Nat} : ev E M (.aload 12 :: c) (a0 :: a1 :: a2 :: a3 :: a4 :: a5 :: a6 :: a7 :: a8 :: a9 :: a10 :: a11 :: .retAddr x :: L) S h = ev E M c (a0 :: a1 :: a2 :: a3 :: a4 :: a5 :: a6 :: a7 :: a8 :: a9 :: a10 :: a11 :: .retAddr x :: L) (.retAddr x :: S) h := ev_go rfl
theorem e_istore_12 {a0 a1 a2 a3 a4 a5 a6 a7 a8 a9 a10 a11 : Value} {b : Value} {x : Int32} : ev E M (.istore 12 :: c) (a0 :: a1 :: a2 :: a3 :: a4 :: a5 :: a6 :: a7 :: a8 :: a9 :: a10 :: a11 :: b :: L) (.int x :: S) h = ev E M c (a0 :: a1 :: a2 :: a3 :: a4 :: a5 :: a6 :: a7 :: a8 :: a9 :: a10 :: am_kp a11 :: .int x :: L) S h := ev_go (by simp only [am_step, List.length_cons]; rw [if_pos (by omega)]; rfl)
theorem e_astore_12 {a0 a1 a2 a3 a4 a5 a6 a7 a8 a9 a10 a11 : Value} {b : Value} {x : Nat} : ev E M (.astore 12 :: c) (a0 :: a1 :: a2 :: a3 :: a4 :: a5 :: a6 :: a7 :: a8 :: a9 :: a10 :: a11 :: b :: L) (.ref x :: S) h = ev E M c (a0 :: a1 :: a2 :: a3 :: a4 :: a5 :: a6 :: a7 :: a8 :: a9 :: a10 :: am_kp a11 :: .ref x :: L) S h := ev_go (by simp only [am_step, List.length_cons]; rw [if_pos (by omega)]; rfl)
theorem e_lstore_12 {a0 a1 a2 a3 a4 a5 a6 a7 a8 a9 a10 a11 : Value} {b b2 : Value} {x : Int64} : ev E M (.lstore 12 :: c) (a0 :: a1 :: a2 :: a3 :: a4 :: a5 :: a6 :: a7 :: a8 :: a9 :: a10 :: a11 :: b :: b2 :: L) (.long x :: S) h = ev E M c (a0 :: a1 :: a2 :: a3 :: a4 :: a5 :: a6 :: a7 :: a8 :: a9 :: a10 :: am_kp a11 :: .long x :: am_dm :: L) S h := ev_go (by simp only [am_step, List.length_cons]; rw [if_pos (by omega)]; rfl)
theorem e_iinc_12 {a0 a1 a2 a3 a4 a5 a6 a7 a8 a9 a10 a11 : Value} {x : Int32} {v : Int} : ev E M (.iinc 12 v :: c) (a0 :: a1 :: a2 :: a3 :: a4 :: a5 :: a6 :: a7 :: a8 :: a9 :: a10 :: a11 :: .int x :: L) S h = ev E M c (a0 :: a1 :: a2 :: a3 :: a4 :: a5 :: a6 :: a7 :: a8 :: a9 :: a10 :: am_kp a11 :: .int (x + Int32.ofInt v) :: L) S h := ev_go rfl
theorem e_iload_13 {a0 a1 a2 a3 a4 a5 a6 a7 a8 a9 a10 a11 a12 : Value} {x : Int32} : ev E M (.iload 13 :: c) (a0 :: a1 :: a2 :: a3 :: a4 :: a5 :: a6 :: a7 :: a8 :: a9 :: a10 :: a11 :: a12 :: .int x :: L) S h = ev E M c (a0 :: a1 :: a2 :: a3 :: a4 :: a5 :: a6 :: a7 :: a8 :: a9 :: a10 :: a11 :: a12 :: .int x :: L) (.int x :: S) h := ev_go rfl
theorem e_lload_13 {a0 a1 a2 a3 a4 a5 a6 a7 a8 a9 a10 a11 a12 : Value} {x : Int64} : ev E M (.lload 13 :: c) (a0 :: a1 :: a2 :: a3 :: a4 :: a5 :: a6 :: a7 :: a8 :: a9 :: a10 :: a11 :: a12 :: .long x :: L) S h = ev E M c (a0 :: a1 :: a2 :: a3 :: a4 :: a5 :: a6 :: a7 :: a8 :: a9 :: a10 :: a11 :: a12 :: .long x :: L) (.long x :: S) h := ev_go rfl
theorem e_aloadr_13 {a0 a1 a2 a3 a4 a5 a6 a7 a8 a9 a10 a11 a12 : Value} {x : Nat} : ev E M (.aload 13 :: c) (a0 :: a1 :: a2 :: a3 :: a4 :: a5 :: a6 :: a7 :: a8 :: a9 :: a10 :: a11 :: a12 :: .ref x :: L) S h = ev E M c (a0 :: a1 :: a2 :: a3 :: a4 :: a5 :: a6 :: a7 :: a8 :: a9 :: a10 :: a11 :: a12 :: .ref x :: L) (.ref x :: S) h := ev_go rfl
theorem e_aloadx_13 {a0 a1 a2 a3 a4 a5 a6 a7 a8 a9 a10 a11 a12 : Value} {x : Nat} : ev E M (.aload 13 :: c) (a0 :: a1 :: a2 :: a3 :: a4 :: a5 :: a6 :: a7 :: a8 :: a9 :: a10 :: a11 :: a12 :: .retAddr x :: L) S h = ev E M c (a0 :: a1 :: a2 :: a3 :: a4 :: a5 :: a6 :: a7 :: a8 :: a9 :: a10 :: a11 :: a12 :: .retAddr x :: L) (.retAddr x :: S) h := ev_go rfl
theorem e_istore_13 {a0 a1 a2 a3 a4 a5 a6 a7 a8 a9 a10 a11 a12 : Value} {b : Value} {x : Int32} : ev E M (.istore 13 :: c) (a0 :: a1 :: a2 :: a3 :: a4 :: a5 :: a6 :: a7 :: a8 :: a9 :: a10 :: a11 :: a12 :: b :: L) (.int x :: S) h = ev E M c (a0 :: a1 :: a2 :: a3 :: a4 :: a5 :: a6 :: a7 :: a8 :: a9 :: a10 :: a11 :: am_kp a12 :: .int x :: L) S h := ev_go (by simp only [am_step, List.length_cons]; rw [if_pos (by omega)]; rfl)
theorem e_astore_13 {a0 a1 a2 a3 a4 a5 a6 a7 a8 a9 a10 a11 a12 : Value} {b : Value} {x : Nat} : ev E M (.astore 13 :: c) (a0 :: a1 :: a2 :: a3 :: a4 :: a5 :: a6 :: a7 :: a8 :: a9 :: a10 :: a11 :: a12 :: b :: L) (.ref x :: S) h = ev E M c (a0 :: a1 :: a2 :: a3 :: a4 :: a5 :: a6 :: a7 :: a8 :: a9 :: a10 :: a11 :: am_kp a12 :: .ref x :: L) S h := ev_go (by simp only [am_step, List.length_cons]; rw [if_pos (by omega)]; rfl)
theorem e_lstore_13 {a0 a1 a2 a3 a4 a5 a6 a7 a8 a9 a10 a11 a12 : Value} {b b2 : Value} {x : Int64} : ev E M (.lstore 13 :: c) (a0 :: a1 :: a2 :: a3 :: a4 :: a5 :: a6 :: a7 :: a8 :: a9 :: a10 :: a11 :: a12 :: b :: b2 :: L) (.long x :: S) h = ev E M c (a0 :: a1 :: a2 :: a3 :: a4 :: a5 :: a6 :: a7 :: a8 :: a9 :: a10 :: a11 :: am_kp a12 :: .long x :: am_dm :: L) S h := ev_go (by simp only [am_step, List.length_cons]; rw [if_pos (by omega)]; rfl)
theorem e_iinc_13 {a0 a1 a2 a3 a4 a5 a6 a7 a8 a9 a10 a11 a12 : Value} {x : Int32} {v : Int} : ev E M (.iinc 13 v :: c) (a0 :: a1 :: a2 :: a3 :: a4 :: a5 :: a6 :: a7 :: a8 :: a9 :: a10 :: a11 :: a12 :: .int x :: L) S h = ev E M c (a0 :: a1 :: a2 :: a3 :: a4 :: a5 :: a6 :: a7 :: a8 :: a9 :: a10 :: a11 :: am_kp a12 :: .int (x + Int32.ofInt v) :: L) S h := ev_go rfl
theorem e_iload_14 {a0 a1 a2 a3 a4 a5 a6 a7 a8 a9 a10 a11 a12 a13 : Value} {x : Int32} : ev E M (.iload 14 :: c) (a0 :: a1 :: a2 :: a3 :: a4 :: a5 :: a6 :: a7 :: a8 :: a9 :: a10 :: a11 :: a12 :: a13 :: .int x :: L) S h = ev E M c (a0 :: a1 :: a2 :: a3 :: a4 :: a5 :: a6 :: a7 :: a8 :: a9 :: a10 :: a11 :: a12 :: a13 :: .int x :: L) (.int x :: S) h := ev_go rfl
theorem e_lload_14 {a0 a1 a2 a3 a4 a5 a6 a7 a8 a9 a10 a11 a12 a13 : Value} {x : Int64} : ev E M (.lload 14 :: c) (a0 :: a1 :: a2 :: a3 :: a4 :: a5 :: a6 :: a7 :: a8 :: a9 :: a10 :: a11 :: a12 :: a13 :: .long x :: L) S h = ev E M c (a0 :: a1 :: a2 :: a3 :: a4 :: a5 :: a6 :: a7 :: a8 :: a9 :: a10 :: a11 :: a12 :: a13 :: .long x :: L) (.long x :: S) h := ev_go rfl
theorem e_aloadr_14 {a0 a1 a2 a3 a4 a5 a6 a7 a8 a9 a10 a11 a12 a13 : Value} {x : Nat} : ev E M (.aload 14 :: c) (a0 :: a1 :: a2 :: a3 :: a4 :: a5 :: a6 :: a7 :: a8 :: a9 :: a10 :: a11 :: a12 :: a13 :: .ref x :: L) S h = ev E M c (a0 :: a1 :: a2 :: a3 :: a4 :: a5 :: a6 :: a7 :: a8 :: a9 :: a10 :: a11 :: a12 :: a13 :: .ref x :: L) (.ref x :: S) h := ev_go rfl
theorem e_aloadx_14 {a0 a1 a2 a3 a4 a5 a6 a7 a8 a9 a10 a11 a12 a13 : Value} {x : Nat} : ev E M (.aload 14 :: c) (a0 :: a1 :: a2 :: a3 :: a4 :: a5 :: a6 :: a7 :: a8 :: a9 :: a10 :: a11 :: a12 :: a13 :: .retAddr x :: L) S h = ev E M c (a0 :: a1 :: a2 :: a3 :: a4 :: a5 :: a6 :: a7 :: a8 :: a9 :: a10 :: a11 :: a12 :: a13 :: .retAddr x :: L) (.retAddr x :: S) h := ev_go rfl
theorem e_istore_14 {a0 a1 a2 a3 a4 a5 a6 a7 a8 a9 a10 a11 a12 a13 : Value} {b : Value} {x : Int32} : ev E M (.istore 14 :: c) (a0 :: a1 :: a2 :: a3 :: a4 :: a5 :: a6 :: a7 :: a8 :: a9 :: a10 :: a11 :: a12 :: a13 :: b :: L) (.int x :: S) h = ev E M c (a0 :: a1 :: a2 :: a3 :: a4 :: a5 :: a6 :: a7 :: a8 :: a9 :: a10 :: a11 :: a12 :: am_kp a13 :: .int x :: L) S h := ev_go (by simp only [am_step, List.length_cons]; rw [if_pos (by omega)]; rfl)
theorem e_astore_14 {a0 a1 a2 a3 a4 a5 a6 a7 a8 a9 a10 a11 a12 a13 : Value} {b : Value} {x : Nat} : ev E M (.astore 14 :: c) (a0 :: a1 :: a2 :: a3 :: a4 :: a5 :: a6 :: a7 :: a8 :: a9 :: a10 :: a11 :: a12 :: a13 :: b :: L) (.ref x :: S) h = ev E M c (a0 :: a1 :: a2 :: a3 :: a4 :: a5 :: a6 :: a7 :: a8 :: a9 :: a10 :: a11 :: a12 :: am_kp a13 :: .ref x :: L) S h := ev_go (by simp only [am_step, List.length_cons]; rw [if_pos (by omega)]; rfl)
theorem e_lstore_14 {a0 a1 a2 a3 a4 a5 a6 a7 a8 a9 a10 a11 a12 a13 : Value} {b b2 : Value} {x : Int64} : ev E M (.lstore 14 :: c) (a0 :: a1 :: a2 :: a3 :: a4 :: a5 :: a6 :: a7 :: a8 :: a9 :: a10 :: a11 :: a12 :: a13 :: b :: b2 :: L) (.long x :: S) h = ev E M c (a0 :: a1 :: a2 :: a3 :: a4 :: a5 :: a6 :: a7 :: a8 :: a9 :: a10 :: a11 :: a12 :: am_kp a13 :: .long x :: am_dm :: L) S h := ev_go (by simp only [am_step, List.length_cons]; rw [if_pos (by omega)]; rfl)
theorem e_iinc_14 {a0 a1 a2 a3 a4 a5 a6 a7 a8 a9 a10 a11 a12 a13 : Value} {x : Int32} {v : Int} : ev E M (.iinc 14 v :: c) (a0 :: a1 :: a2 :: a3 :: a4 :: a5 :: a6 :: a7 :: a8 :: a9 :: a10 :: a11 :: a12 :: a13 :: .int x :: L) S h = ev E M c (a0 :: a1 :: a2 :: a3 :: a4 :: a5 :: a6 :: a7 :: a8 :: a9 :: a10 :: a11 :: a12 :: am_kp a13 :: .int (x + Int32.ofInt v) :: L) S h := ev_go rfl
theorem e_iload_15 {a0 a1 a2 a3 a4 a5 a6 a7 a8 a9 a10 a11 a12 a13 a14 : Value} {x : Int32} : ev E M (.iload 15 :: c) (a0 :: a1 :: a2 :: a3 :: a4 :: a5 :: a6 :: a7 :: a8 :: a9 :: a10 :: a11 :: a12 :: a13 :: a14 :: .int x :: L) S h = ev E M c (a0 :: a1 :: a2 :: a3 :: a4 :: a5 :: a6 :: a7 :: a8 :: a9 :: a10 :: a11 :: a12 :: a13 :: a14 :: .int x :: L) (.int x :: S) h := ev_go rfl
theorem e_lload_15 {a0 a1 a2 a3 a4 a5 a6 a7 a8 a9 a10 a11 a12 a13 a14 : Value} {x : Int64} : ev E M (.lload 15 :: c) (a0 :: a1 :: a2 :: a3 :: a4 :: a5 :: a6 :: a7 :: a8 :: a9 :: a10 :: a11 :: a12 :: a13 :: a14 :: .long x :: L) S h = ev E M c (a0 :: a1 :: a2 :: a3 :: a4 :: a5 :: a6 :: a7 :: a8 :: a9 :: a10 :: a11 :: a12 :: a13 :: a14 :: .long x :: L) (.long x :: S) h := ev_go rfl
theorem e_aloadr_15 {a0 a1 a2 a3 a4 a5 a6 a7 a8 a9 a10 a11 a12 a13 a14 : Value} {x : Nat} : ev E M (.aload 15 :: c) (a0 :: a1 :: a2 :: a3 :: a4 :: a5 :: a6 :: a7 :: a8 :: a9 :: a10 :: a11 :: a12 :: a13 :: a14 :: .ref x :: L) S h = ev E M c (a0 :: a1 :: a2 :: a3 :: a4 :: a5 :: a6 :: a7 :: a8 :: a9 :: a10 :: a11 :: a12 :: a13 :: a14 :: .ref x :: L) (.ref x :: S) h := ev_go rfl
theorem e_aloadx_15 {a0 a1 a2 a3 a4 a5 a6 a7 a8 a9 a10 a11 a12 a13 a14 : Value} {x : Nat} : ev E M (.aload 15 :: c) (a0 :: a1 :: a2 :: a3 :: a4 :: a5 :: a6 :: a7 :: a8 :: a9 :: a10 :: a11 :: a12 :: a13 :: a14 :: .retAddr x :: L) S h = ev E M c (a0 :: a1 :: a2 :: a3 :: a4 :: a5 :: a6 :: a7 :: a8 :: a9 :: a10 :: a11 :: a12 :: a13 :: a14 :: .retAddr x :: L) (.retAddr x :: S) h := ev_go rfl
theorem e_istore_15 {a0 a1 a2 a3 a4 a5 a6 a7 a8 a9 a10 a11 a12 a13 a14 : Value} {b : Value} {x : Int32} : ev E M (.istore 15 :: c) (a0 :: a1 :: a2 :: a3 :: a4 :: a5 :: a6 :: a7 :: a8 :: a9 :: a10 :: a11 :: a12 :: a13 :: a14 :: b :: L) (.int x :: S) h = ev E M c (a0 :: a1 :: a2 :: a3 :: a4 :: a5 :: a6 :: a7 :: a8 :: a9 :: a10 :: a11 :: a12 :: a13 :: am_kp a14 :: .int x :: L) S h := ev_go (by simp only [am_step, List.length_cons]; rw [if_pos (by omega)]; rfl)
theorem e_astore_15 {a0 a1 a2 a3 a4 a5 a6 a7 a8 a9 a10 a11 a12 a13 a14 : Value} {b : Value} {x : Nat} : ev E M (.astore 15 :: c) (a0 :: a1 :: a2 :: a3 :: a4 :: a5 :: a6 :: a7 :: a8 :: a9 :: a10 :: a11 :: a12 :: a13 :: a14 :: b :: L) (.ref x :: S) h = ev E M c (a0 :: a1 :: a2 :: a3 :: a4 :: a5 :: a6 :: a7 :: a8 :: a9 :: a10 :: a11 :: a12 :: a13 :: am_kp a14 :: .ref x :: L) S h := ev_go (by simp only [am_step, List.length_cons]; rw [if_pos (by omega)]; rfl)
theorem e_lstore_15 {a0 a1 a2 a3 a4 a5 a6 a7 a8 a9 a10 a11 a12 a13 a14 : Value} {b b2 : Value} {x : Int64} : ev E M (.lstore 15 :: c) (a0 :: a1 :: a2 :: a3 :: a4 :: a5 :: a6 :: a7 :: a8 :: a9 :: a10 :: a11 :: a12 :: a13 :: a14 :: b :: b2 :: L) (.long x :: S) h = ev E M c (a0 :: a1 :: a2 :: a3 :: a4 :: a5 :: a6 :: a7 :: a8 :: a9 :: a10 :: a11 :: a12 :: a13 :: am_kp a14 :: .long x :: am_dm :: L) S h := ev_go (by simp only [am_step, List.length_cons]; rw [if_pos (by omega)]; rfl)
theorem e_iinc_15 {a0 a1 a2 a3 a4 a5 a6 a7 a8 a9 a10 a11 a12 a13 a14 : Value} {x : Int32} {v : Int} : ev E M (.iinc 15 v :: c) (a0 :: a1 :: a2 :: a3 :: a4 :: a5 :: a6 :: a7 :: a8 :: a9 :: a10 :: a11 :: a12 :: a13 :: a14 :: .int x :: L) S h = ev E M c (a0 :: a1 :: a2 :: a3 :: a4 :: a5 :: a6 :: a7 :: a8 :: a9 :: a10 :: a11 :: a12 :: a13 :: am_kp a14 :: .int (x + Int32.ofInt v) :: L) S h := ev_go rfl
theorem e_iload_16 {a0 a1 a2 a3 a4 a5 a6 a7 a8 a9 a10 a11 a12 a13 a14 a15 : Value} {x : Int32} : ev E M (.iload 16 :: c) (a0 :: a1 :: a2 :: a3 :: a4 :: a5 :: a6 :: a7 :: a8 :: a9 :: a10 :: a11 :: a12 :: a13 :: a14 :: a15 :: .int x :: L) S h = ev E M c (a0 :: a1 :: a2 :: a3 :: a4 :: a5 :: a6 :: a7 :: a8 :: a9 :: a10 :: a11 :: a12 :: a13 :: a14 :: a15 :: .int x :: L) (.int x :: S) h := ev_go rfl
theorem e_lload_16 {a0 a1 a2 a3 a4 a5 a6 a7 a8 a9 a10 a11 a12 a13 a14 a15 : Value} {x : Int64} : ev E M (.lload 16 :: c) (a0 :: a1 :: a2 :: a3 :: a4 :: a5 :: a6 :: a7 :: a8 :: a9 :: a10 :: a11 :: a12 :: a13 :: a14 :: a15 :: .long x :: L) S h = ev E M c (a0 :: a1 :: a2 :: a3 :: a4 :: a5 :: a6 :: a7 :: a8 :: a9 :: a10 :: a11 :: a12 :: a13 :: a14 :: a15 :: .long x :: L) (.long x :: S) h := ev_go rfl
theorem e_aloadr_16 {a0 a1 a2 a3 a4 a5 a6 a7 a8 a9 a10 a11 a12 a13 a14 a15 : Value} {x : Nat} : ev E M (.aload 16 :: c) (a0 :: a1 :: a2 :: a3 :: a4 :: a5 :: a6 :: a7 :: a8 :: a9 :: a10 :: a11 :: a12 :: a13 :: a14 :: a15 :: .ref x :: L) S h = ev E M c (a0 :: a1 :: a2 :: a3 :: a4 :: a5 :: a6 :: a7 :: a8 :: a9 :: a10 :: a11 :: a12 :: a13 :: a14 :: a15 :: .ref x :: L) (.ref x :: S) h := ev_go rfl
theorem e_aloadx_16 {a0 a1 a2 a3 a4 a5 a6 a7 a8 a9 a10 a11 a12 a13 a14 a15 : Value} {x : Nat} : ev E M (.aload 16 :: c) (a0 :: a1 :: a2 :: a3 :: a4 :: a5 :: a6 :: a7 :: a8 :: a9 :: a10 :: a11 :: a12 :: a13 :: a14 :: a15 :: .retAddr x :: L) S h = ev E M c (a0 :: a1 :: a2 :: a3 :: a4 :: a5 :: a6 :: a7 :: a8 :: a9 :: a10 :: a11 :: a12 :: a13 :: a14 :: a15 :: .retAddr x :: L) (.retAddr x :: S) h := ev_go rfl
theorem e_istore_16 {a0 a1 a2 a3 a4 a5 a6 a7 a8 a9 a10 a11 a12 a13 a14 a15 : Value} {b : Value} {x : Int32} : ev E M (.istore 16 :: c) (a0 :: a1 :: a2 :: a3 :: a4 :: a5 :: a6 :: a7 :: a8 :: a9 :: a10 :: a11 :: a12 :: a13 :: a14 :: a15 :: b :: L) (.int x :: S) h = ev E M c (a0 :: a1 :: a2 :: a3 :: a4 :: a5 :: a6 :: a7 :: a8 :: a9 :: a10 :: a11 :: a12 :: a13 :: a14 :: am_kp a15 :: .int x :: L) S h := ev_go (by simp only [am_step, List.length_cons]; rw [if_pos (by omega)]; rfl)
theorem e_astore_16 {a0 a1 a2 a3 a4 a5 a6 a7 a8 a9 a10 a11 a12 a13 a14 a15 : Value} {b : Value} {x : Nat} : ev E M (.astore 16 :: c) (a0 :: a1 :: a2 :: a3 :: a4 :: a5 :: a6 :: a7 :: a8 :: a9 :: a10 :: a11 :: a12 :: a13 :: a14 :: a15 :: b :: L) (.ref x :: S) h = ev E M c (a0 :: a1 :: a2 :: a3 :: a4 :: a5 :: a6 :: a7 :: a8 :: a9 :: a10 :: a11 :: a12 :: a13 :: a14 :: am_kp a15 :: .ref x :: L) S h := ev_go (by simp only [am_step, List.length_cons]; rw [if_pos (by omega)]; rfl)
theorem e_lstore_16 {a0 a1 a2 a3 a4 a5 a6 a7 a8 a9 a10 a11 a12 a13 a14 a15 : Value} {b b2 : Value} {x : Int64} : ev E M (.lstore 16 :: c) (a0 :: a1 :: a2 :: a3 :: a4 :: a5 :: a6 :: a7 :: a8 :: a9 :: a10 :: a11 :: a12 :: a13 :: a14 :: a15 :: b :: b2 :: L) (.long x :: S) h = ev E M c (a0 :: a1 :: a2 :: a3 :: a4 :: a5 :: a6 :: a7 :: a8 :: a9 :: a10 :: a11 :: a12 :: a13 :: a14 :: am_kp a15 :: .long x :: am_dm :: L) S h := ev_go (by simp only [am_step, List.length_cons]; rw [if_pos (by omega)]; rfl)
theorem e_iinc_16 {a0 a1 a2 a3 a4 a5 a6 a7 a8 a9 a10 a11 a12 a13 a14 a15 : Value} {x : Int32} {v : Int} : ev E M (.iinc 16 v :: c) (a0 :: a1 :: a2 :: a3 :: a4 :: a5 :: a6 :: a7 :: a8 :: a9 :: a10 :: a11 :: a12 :: a13 :: a14 :: a15 :: .int x :: L) S h = ev E M c (a0 :: a1 :: a2 :: a3 :: a4 :: a5 :: a6 :: a7 :: a8 :: a9 :: a10 :: a11 :: a12 :: a13 :: a14 :: am_kp a15 :: .int (x + Int32.ofInt v) :: L) S h := ev_go rfl
theorem e_iload_17 {a0 a1 a2 a3 a4 a5 a6 a7 a8 a9 a10 a11 a12 a13 a14 a15 a16 : Value} {x : Int32} : ev E M (.iload 17 :: c) (a0 :: a1 :: a2 :: a3 :: a4 :: a5 :: a6 :: a7 :: a8 :: a9 :: a10 :: a11 :: a12 :: a13 :: a14 :: a15 :: a16 :: .int x :: L) S h = ev E M c (a0 :: a1 :: a2 :: a3 :: a4 :: a5 :: a6 :: a7 :: a8 :: a9 :: a10 :: a11 :: a12 :: a13 :: a14 :: a15 :: a16 :: .int x :: L) (.int x :: S) h := ev_go rfl
theorem e_lload_17 {a0 a1 a2 a3 a4 a5 a6 a7 a8 a9 a10 a11 a12 a13 a14 a15 a16 : Value} {x : Int64} : ev E M (.lload 17 :: c) (a0 :: a1 :: a2 :: a3 :: a4 :: a5 :: a6 :: a7 :: a8 :: a9 :: a10 :: a11 :: a12 :: a13 :: a14 :: a15 :: a16 :: .long x :: L) S h = ev E M c (a0 :: a1 :: a2 :: a3 :: a4 :: a5 :: a6 :: a7 :: a8 :: a9 :: a10 :: a11 :: a12 :: a13 :: a14 :: a15 :: a16 :: .long x :: L) (.long x :: S) h := ev_go rfl
theorem e_aloadr_17 {a0 a1 a2 a3 a4 a5 a6 a7 a8 a9 a10 a11 a12 a13 a14 a15 a16 : Value} {x : Nat} : ev E M (.aload 17 :: c) (a0 :: a1 :: a2 :: a3 :: a4 :: a5 :: a6 :: a7 :: a8 :: a9 :: a10 :: a11 :: a12 :: a13 :: a14 :: a15 :: a16 :: .ref x :: L) S h = ev E M c (a0 :: a1 :: a2 :: a3 :: a4 :: a5 :: a6 :: a7 :: a8 :: a9 :: a10 :: a11 :: a12 :: a13 :: a14 :: a15 :: a16 :: .ref x :: L) (.ref x :: S) h := ev_go rfl
theorem e_aloadx_17 {a0 a1 a2 a3 a4 a5 a6 a7 a8 a9 a10 a11 a12 a13 a14 a15 a16 : Value} {x : Nat} : ev E M (.aload 17 :: c) (a0 :: a1 :: a2 :: a3 :: a4 :: a5 :: a6 :: a7 :: a8 :: a9 :: a10 :: a11 :: a12 :: a13 :: a14 :: a15 :: a16 :: .retAddr x :: L) S h = ev E M c (a0 :: a1 :: a2 :: a3 :: a4 :: a5 :: a6 :: a7 :: a8 :: a9 :: a10 :: a11 :: a12 :: a13 :: a14 :: a15 :: a16 :: .retAddr x :: L) (.retAddr x :: S) h := ev_go rfl
theorem e_istore_17 {a0 a1 a2 a3 a4 a5 a6 a7 a8 a9 a10 a11 a12 a13 a14 a15 a16 : Value} {b : Value} {x : Int32} : ev E M (.istore 17 :: c) (a0 :: a1 :: a2 :: a3 :: a4 :: a5 :: a6 :: a7 :: a8 :: a9 :: a10 :: a11 :: a12 :: a13 :: a14 :: a15 :: a16 :: b :: L) (.int x :: S) h = ev E M c (a0 :: a1 :: a2 :: a3 :: a4 :: a5 :: a6 :: a7 :: a8 :: a9 :: a10 :: a11 :: a12 :: a13 :: a14 :: a15 :: am_kp a16 :: .int x :: L) S h := ev_go (by simp only [am_step, List.length_cons]; rw [if_pos (by omega)]; rfl)
theorem e_astore_17 {a0 a1 a2 a3 a4 a5 a6 a7 a8 a9 a10 a11 a12 a13 a14 a15 a16 : Value} {b : Value} {x : Nat} : ev E M (.astore 17 :: c) (a0 :: a1 :: a2 :: a3 :: a4 :: a5 :: a6 :: a7 :: a8 :: a9 :: a10 :: a11 :: a12 :: a13 :: a14 :: a15 :: a16 :: b :: L) (.ref x :: S) h = ev E M c (a0 :: a1 :: a2 :: a3 :: a4 :: a5 :: a6 :: a7 :: a8 :: a9 :: a10 :: a11 :: a12 :: a13 :: a14 :: a15 :: am_kp a16 :: .ref x :: L) S h := ev_go (by simp only [am_step, List.length_cons]; rw [if_pos (by omega)]; rfl)
theorem e_lstore_17 {a0 a1 a2 a3 a4 a5 a6 a7 a8 a9 a10 a11 a12 a13 a14 a15 a16 : Value} {b b2 : Value} {x : Int64} : ev E M (.lstore 17 :: c) (a0 :: a1 :: a2 :: a3 :: a4 :: a5 :: a6 :: a7 :: a8 :: a9 :: a10 :: a11 :: a12 :: a13 :: a14 :: a15 :: a16 :: b :: b2 :: L) (.long x :: S) h = ev E M c (a0 :: a1 :: a2 :: a3 :: a4 :: a5 :: a6 :: a7 :: a8 :: a9 :: a10 :: a11 :: a12 :: a13 :: a14 :: a15 :: am_kp a16 :: .long x :: am_dm :: L) S h := ev_go (by simp only [am_step, List.length_cons]; rw [if_pos (by omega)]; rfl)
theorem e_iinc_17 {a0 a1 a2 a3 a4 a5 a6 a7 a8 a9 a10 a11 a12 a13 a14 a15 a16 : Value} {x : Int32} {v : Int} : ev E M (.iinc 17 v :: c) (a0 :: a1 :: a2 :: a3 :: a4 :: a5 :: a6 :: a7 :: a8 :: a9 :: a10 :: a11 :: a12 :: a13 :: a14 :: a15 :: a16 :: .int x :: L) S h = ev E M c (a0 :: a1 :: a2 :: a3 :: a4 :: a5 :: a6 :: a7 :: a8 :: a9 :: a10 :: a11 :: a12 :: a13 :: a14 :: a15 :: am_kp a16 :: .int (x + Int32.ofInt v) :: L) S h := ev_go rfl
theorem e_kpi {x : Int32} : am_kp (.int x) = .int x := rfl
theorem e_kpr {x : Nat} : am_kp (.ref x) = .ref x := rfl
theorem e_kpx {x : Nat} : am_kp (.retAddr x) = .retAddr x := rfl
theorem e_kpl {x : Int64} : am_kp (.long x) = am_dm := rfl
theorem e_kpd : am_kp am_dm = am_dm := rfl
theorem e_iadd {x y : Int32} : ev E M (.iadd :: c) L (.int y :: .int x :: S) h = ev E M c L (.int (x + y) :: S) h := ev_go rfl
theorem e_isub {x y : Int32} : ev E M (.isub :: c) L (.int y :: .int x :: S) h = ev E M c L (.int (x - y) :: S) h := ev_go rfl
theorem e_imul {x y : Int32} : ev E M (.imul :: c) L (.int y :: .int x :: S) h = ev E M c L (.int (x * y) :: S) h := ev_go rfl
theorem e_iand {x y : Int32} : ev E M (.iand :: c) L (.int y :: .int x :: S) h = ev E M c L (.int (x &&& y) :: S) h := ev_go rfl
theorem e_ior {x y : Int32} : ev E M (.ior :: c) L (.int y :: .int x :: S) h = ev E M c L (.int (x ||| y) :: S) h := ev_go rfl
theorem e_ixor {x y : Int32} : ev E M (.ixor :: c) L (.int y :: .int x :: S) h = ev E M c L (.int (x ^^^ y) :: S) h := ev_go rfl
theorem e_ishl {x y : Int32} : ev E M (.ishl :: c) L (.int y :: .int x :: S) h = ev E M c L (.int (x <<< (y &&& 31)) :: S) h := ev_go rfl
theorem e_ishr {x y : Int32} : ev E M (.ishr :: c) L (.int y :: .int x :: S) h = ev E M c L (.int (x >>> (y &&& 31)) :: S) h := ev_go rfl
theorem e_idiv {x y : Int32} (hy : ¬ y = 0) : ev E M (.idiv :: c) L (.int y :: .int x :: S) h = ev E M c L (.int (x / y) :: S) h := ev_go (by simp only [am_step, if_neg hy]; rfl)
theorem e_irem {x y : Int32} (hy : ¬ y = 0) : ev E M (.irem :: c) L (.int y :: .int x :: S) h = ev E M c L (.int (x - x / y * y) :: S) h := ev_go (by simp only [am_step, if_neg hy]; rfl)
theorem e_ldiv {x y : Int64} (hy : ¬ y = 0) : ev E M (.ldiv :: c) L (.long y :: .long x :: S) h = ev E M c L (.long (x / y) :: S) h := ev_go (by simp only [am_step, if_neg hy]; rfl)
theorem e_lrem {x y : Int64} (hy : ¬ y = 0) : ev E M (.lrem :: c) L (.long y :: .long x :: S) h = ev E M c L (.long (x - x / y * y) :: S) h := ev_go (by simp only [am_step, if_neg hy]; rfl)
theorem e_ladd {x y : Int64} : ev E M (.ladd :: c) L (.long y :: .long x :: S) h = ev E M c L (.long (x + y) :: S) h := ev_go rfl
theorem e_lsub {x y : Int64} : ev E M (.lsub :: c) L (.long y :: .long x :: S) h = ev E M c L (.long (x - y) :: S) h := ev_go rfl
theorem e_lmul {x y : Int64} : ev E M (.lmul :: c) L (.long y :: .long x :: S) h = ev E M c L (.long (x * y) :: S) h := ev_go rfl
theorem e_lcmp {x y : Int64} : ev E M (.lcmp :: c) L (.long y :: .long x :: S) h = ev E M c L (.int (lg_cmp x y) :: S) h := ev_go rfl
theorem e_ineg {x : Int32} : ev E M (.ineg :: c) L (.int x :: S) h = ev E M c L (.int (-x) :: S) h := ev_go rfl
theorem e_lneg {x : Int64} : ev E M (.lneg :: c) L (.long x :: S) h = ev E M c L (.long (-x) :: S) h := ev_go rfl
theorem e_i2l {x : Int32} : ev E M (.i2l :: c) L (.int x :: S) h = ev E M c L (.long x.toInt64 :: S) h := ev_go rfl
theorem e_i2b {x : Int32} : ev E M (.i2b :: c) L (.int x :: S) h = ev E M c L (.int x.toInt8.toInt32 :: S) h := ev_go rfl
theorem e_i2s {x : Int32} : ev E M (.i2s :: c) L (.int x :: S) h = ev E M c L (.int x.toInt16.toInt32 :: S) h := ev_go rfl
theorem e_dupr {x : Nat} : ev E M (.dup :: c) L (.ref x :: S) h = ev E M c L (.ref x :: .ref x :: S) h := ev_go rfl
theorem e_dupi {x : Int32} : ev E M (.dup :: c) L (.int x :: S) h = ev E M c L (.int x :: .int x :: S) h := ev_go rfl
theorem e_dup2 {x : Nat} {y : Int32} : ev E M (.dup2 :: c) L (.int y :: .ref x :: S) h = ev E M c L (.int y :: .ref x :: .int y :: .ref x :: S) h := ev_go rfl
theorem e_pop {x : Int32} : ev E M (.pop :: c) L (.int x :: S) h = ev E M c L S h := ev_go rfl
theorem e_goto {t : Int} : ev E M (.goto t :: c) L S h = ev E M (am_B M t.toNat) L S h := ev_go rfl
theorem e_jsr {t : Int} : ev E M (.jsr t :: c) L S h = ev E M (am_B M t.toNat) L S h := ev_go rfl
theorem e_icmp_eq {x y : Int32} {t : Int} : ev E M (.if_icmp .eq t :: c) L (.int y :: .int x :: S) h = if x = y then ev E M (am_B M t.toNat) L S h else ev E M c L S h := by
  by_cases hq : x = y
  · rw [if_pos hq]; exact ev_go (by simp only [am_step, am_cond, decide_eq_true hq]; rfl)
  · rw [if_neg hq]; exact ev_go (by simp only [am_step, am_cond, decide_eq_false hq]; rfl)
theorem e_icmp_ne {x y : Int32} {t : Int} : ev E M (.if_icmp .ne t :: c) L (.int y :: .int x :: S) h = if ¬ x = y then ev E M (am_B M t.toNat) L S h else ev E M c L S h := by
  by_cases hq : ¬ x = y
  · rw [if_pos hq]; exact ev_go (by simp only [am_step, am_cond, decide_eq_true hq]; rfl)
  · rw [if_neg hq]; exact ev_go (by simp only [am_step, am_cond, decide_eq_false hq]; rfl)
theorem e_icmp_lt {x y : Int32} {t : Int} : ev E M (.if_icmp .lt t :: c) L (.int y :: .int x :: S) h = if x < y then ev E M (am_B M t.toNat) L S h else ev E M c L S h := by
  by_cases hq : x < y
  · rw [if_pos hq]; exact ev_go (by simp only [am_step, am_cond, decide_eq_true hq]; rfl)
  · rw [if_neg hq]; exact ev_go (by simp only [am_step, am_cond, decide_eq_false hq]; rfl)
theorem e_icmp_ge {x y : Int32} {t : Int} : ev E M (.if_icmp .ge t :: c) L (.int y :: .int x :: S) h = if y ≤ x then ev E M (am_B M t.toNat) L S h else ev E M c L S h := by
  by_cases hq : y ≤ x
  · rw [if_pos hq]; exact ev_go (by simp only [am_step, am_cond, decide_eq_true hq]; rfl)
  · rw [if_neg hq]; exact ev_go (by simp only [am_step, am_cond, decide_eq_false hq]; rfl)
theorem e_icmp_gt {x y : Int32} {t : Int} : ev E M (.if_icmp .gt t :: c) L (.int y :: .int x :: S) h = if y < x then ev E M (am_B M t.toNat) L S h else ev E M c L S h := by
  by_cases hq : y < x
  · rw [if_pos hq]; exact ev_go (by simp only [am_step, am_cond, decide_eq_true hq]; rfl)
  · rw [if_neg hq]; exact ev_go (by simp only [am_step, am_cond, decide_eq_false hq]; rfl)
theorem e_icmp_le {x y : Int32} {t : Int} : ev E M (.if_icmp .le t :: c) L (.int y :: .int x :: S) h = if x ≤ y then ev E M (am_B M t.toNat) L S h else ev E M c L S h := by
  by_cases hq : x ≤ y
  · rw [if_pos hq]; exact ev_go (by simp only [am_step, am_cond, decide_eq_true hq]; rfl)
  · rw [if_neg hq]; exact ev_go (by simp only [am_step, am_cond, decide_eq_false hq]; rfl)
theorem e_if_eq {x : Int32} {t : Int} : ev E M (.ifCond .eq t :: c) L (.int x :: S) h = if x = 0 then ev E M (am_B M t.toNat) L S h else ev E M c L S h := by
  by_cases hq : x = 0
  · rw [if_pos hq]; exact ev_go (by simp only [am_step, am_cond, decide_eq_true hq]; rfl)
  · rw [if_neg hq]; exact ev_go (by simp only [am_step, am_cond, decide_eq_false hq]; rfl)
theorem e_if_ne {x : Int32} {t : Int} : ev E M (.ifCond .ne t :: c) L (.int x :: S) h = if ¬ x = 0 then ev E M (am_B M t.toNat) L S h else ev E M c L S h := by
  by_cases hq : ¬ x = 0
  · rw [if_pos hq]; exact ev_go (by simp only [am_step, am_cond, decide_eq_true hq]; rfl)
  · rw [if_neg hq]; exact ev_go (by simp only [am_step, am_cond, decide_eq_false hq]; rfl)
theorem e_if_lt {x : Int32} {t : Int} : ev E M (.ifCond .lt t :: c) L (.int x :: S) h = if x < 0 then ev E M (am_B M t.toNat) L S h else ev E M c L S h := by
  by_cases hq : x < 0
  · rw [if_pos hq]; exact ev_go (by simp only [am_step, am_cond, decide_eq_true hq]; rfl)
  · rw [if_neg hq]; exact ev_go (by simp only [am_step, am_cond, decide_eq_false hq]; rfl)
theorem e_if_ge {x : Int32} {t : Int} : ev E M (.ifCond .ge t :: c) L (.int x :: S) h = if 0 ≤ x then ev E M (am_B M t.toNat) L S h else ev E M c L S h := by
  by_cases hq : 0 ≤ x
  · rw [if_pos hq]; exact ev_go (by simp only [am_step, am_cond, decide_eq_true hq]; rfl)
  · rw [if_neg hq]; exact ev_go (by simp only [am_step, am_cond, decide_eq_false hq]; rfl)
theorem e_if_gt {x : Int32} {t : Int} : ev E M (.ifCond .gt t :: c) L (.int x :: S) h = if 0 < x then ev E M (am_B M t.toNat) L S h else ev E M c L S h := by
  by_cases hq : 0 < x
  · rw [if_pos hq]; exact ev_go (by simp only [am_step, am_cond, decide_eq_true hq]; rfl)
  · rw [if_neg hq]; exact ev_go (by simp only [am_step, am_cond, decide_eq_false hq]; rfl)
theorem e_if_le {x : Int32} {t : Int} : ev E M (.ifCond .le t :: c) L (.int x :: S) h = if x ≤ 0 then ev E M (am_B M t.toNat) L S h else ev E M c L S h := by
  by_cases hq : x ≤ 0
  · rw [if_pos hq]; exact ev_go (by simp only [am_step, am_cond, decide_eq_true hq]; rfl)
  · rw [if_neg hq]; exact ev_go (by simp only [am_step, am_cond, decide_eq_false hq]; rfl)
theorem e_tsw {d lo hi : Int} {os : Array Int} {x : Int32} : ev E M (.tableswitch d lo hi os :: c) L (.int x :: S) h = ev E M (am_B M (am_tsw d lo hi os x)) L S h := ev_go rfl
theorem e_lsw {d : Int} {ps : Array (Int × Int)} {x : Int32} : ev E M (.lookupswitch d ps :: c) L (.int x :: S) h = ev E M (am_B M (am_lsw d ps x)) L S h := ev_go rfl
theorem e_gets {x : Nat} : ev E M (.getstatic x :: c) L S h = ev E M c L (.retAddr x :: S) h := ev_go rfl
theorem e_fadd_0 {x y : Int32} : ev E M (.fadd :: c) L (.int y :: .int x :: []) h = ev E M c L (.int (if x < y then y else x) :: []) h := ev_go rfl
theorem e_fadd_1 {x y : Int32} {s0 : Value} : ev E M (.fadd :: c) L (.int y :: .int x :: [s0]) h = ev E M c L (.int (if x < y then y else x) :: [s0]) h := ev_go rfl
theorem e_fadd_2 {x y : Int32} {s0 s1 : Value} : ev E M (.fadd :: c) L (.int y :: .int x :: [s0, s1]) h = ev E M c L (.int (if x < y then y else x) :: [s0, s1]) h := ev_go rfl
theorem e_fadd_3 {x y : Int32} {s0 s1 s2 : Value} : ev E M (.fadd :: c) L (.int y :: .int x :: [s0, s1, s2]) h = ev E M c L (.int (if x < y then y else x) :: [s0, s1, s2]) h := ev_go rfl
theorem e_fadd_4 {x y : Int32} {s0 s1 s2 s3 : Value} : ev E M (.fadd :: c) L (.int y :: .int x :: [s0, s1, s2, s3]) h = ev E M c L (.int (if x < y then y else x) :: [s0, s1, s2, s3]) h := ev_go rfl
theorem e_fsub_0 {x y : Int32} : ev E M (.fsub :: c) L (.int y :: .int x :: []) h = ev E M c L (.int (if y < x then y else x) :: []) h := ev_go rfl
theorem e_fsub_1 {x y : Int32} {s0 : Value} : ev E M (.fsub :: c) L (.int y :: .int x :: [s0]) h = ev E M c L (.int (if y < x then y else x) :: [s0]) h := ev_go rfl
theorem e_fsub_2 {x y : Int32} {s0 s1 : Value} : ev E M (.fsub :: c) L (.int y :: .int x :: [s0, s1]) h = ev E M c L (.int (if y < x then y else x) :: [s0, s1]) h := ev_go rfl
theorem e_fsub_3 {x y : Int32} {s0 s1 s2 : Value} : ev E M (.fsub :: c) L (.int y :: .int x :: [s0, s1, s2]) h = ev E M c L (.int (if y < x then y else x) :: [s0, s1, s2]) h := ev_go rfl
theorem e_fsub_4 {x y : Int32} {s0 s1 s2 s3 : Value} : ev E M (.fsub :: c) L (.int y :: .int x :: [s0, s1, s2, s3]) h = ev E M c L (.int (if y < x then y else x) :: [s0, s1, s2, s3]) h := ev_go rfl
theorem e_fmul_0 {x : Int32} : ev E M (.fmul :: c) L (.int x :: []) h = ev E M c L (.int (if 0 ≤ x then x else 0 - x) :: []) h := ev_go rfl
theorem e_fmul_1 {x : Int32} {s0 : Value} : ev E M (.fmul :: c) L (.int x :: [s0]) h = ev E M c L (.int (if 0 ≤ x then x else 0 - x) :: [s0]) h := ev_go rfl
theorem e_fmul_2 {x : Int32} {s0 s1 : Value} : ev E M (.fmul :: c) L (.int x :: [s0, s1]) h = ev E M c L (.int (if 0 ≤ x then x else 0 - x) :: [s0, s1]) h := ev_go rfl
theorem e_fmul_3 {x : Int32} {s0 s1 s2 : Value} : ev E M (.fmul :: c) L (.int x :: [s0, s1, s2]) h = ev E M c L (.int (if 0 ≤ x then x else 0 - x) :: [s0, s1, s2]) h := ev_go rfl
theorem e_fmul_4 {x : Int32} {s0 s1 s2 s3 : Value} : ev E M (.fmul :: c) L (.int x :: [s0, s1, s2, s3]) h = ev E M c L (.int (if 0 ≤ x then x else 0 - x) :: [s0, s1, s2, s3]) h := ev_go rfl
theorem e_fdiv_0 {x : Int64} : ev E M (.fdiv :: c) L (.long x :: []) h = ev E M c L (.long (if 0 < x then x else -x) :: []) h := ev_go rfl
theorem e_fdiv_1 {x : Int64} {s0 : Value} : ev E M (.fdiv :: c) L (.long x :: [s0]) h = ev E M c L (.long (if 0 < x then x else -x) :: [s0]) h := ev_go rfl
theorem e_fdiv_2 {x : Int64} {s0 s1 : Value} : ev E M (.fdiv :: c) L (.long x :: [s0, s1]) h = ev E M c L (.long (if 0 < x then x else -x) :: [s0, s1]) h := ev_go rfl
theorem e_fdiv_3 {x : Int64} {s0 s1 s2 : Value} : ev E M (.fdiv :: c) L (.long x :: [s0, s1, s2]) h = ev E M c L (.long (if 0 < x then x else -x) :: [s0, s1, s2]) h := ev_go rfl
theorem e_fdiv_4 {x : Int64} {s0 s1 s2 s3 : Value} : ev E M (.fdiv :: c) L (.long x :: [s0, s1, s2, s3]) h = ev E M c L (.long (if 0 < x then x else -x) :: [s0, s1, s2, s3]) h := ev_go rfl
theorem e_iald {k n : Nat} {i : Int32} (hk : h.1[k]? = some (.inr (0, n))) (hi : am_inB i n = true) : ev E M (.iaload :: c) L (.int i :: .ref k :: S) h = ev E M c L (.int (h.2.2.1 k i.toNatClampNeg) :: S) h := ev_go (by simp only [am_step, am_row, hk, hi]; rfl)
theorem e_bald {k n : Nat} {i : Int32} (hk : h.1[k]? = some (.inr (1, n))) (hi : am_inB i n = true) : ev E M (.baload :: c) L (.int i :: .ref k :: S) h = ev E M c L (.int (h.2.2.1 k i.toNatClampNeg) :: S) h := ev_go (by simp only [am_step, am_row, hk, hi]; rfl)
theorem e_lald {k n : Nat} {i : Int32} (hk : h.1[k]? = some (.inr (2, n))) (hi : am_inB i n = true) : ev E M (.laload :: c) L (.int i :: .ref k :: S) h = ev E M c L (.long (h.2.2.2 k i.toNatClampNeg) :: S) h := ev_go (by simp only [am_step, am_row, hk, hi]; rfl)
theorem e_iast {k n : Nat} {i v : Int32} (hk : h.1[k]? = some (.inr (0, n))) (hi : am_inB i n = true) : ev E M (.iastore :: c) L (.int v :: .int i :: .ref k :: S) h = ev E M c L S (h.1, h.2.1, am_up h.2.2.1 k i.toNatClampNeg v, h.2.2.2) := ev_go (by simp only [am_step, am_row, hk, hi]; rfl)
theorem e_bast {k n : Nat} {i v : Int32} (hk : h.1[k]? = some (.inr (1, n))) (hi : am_inB i n = true) (hv : v = 0 ∨ v = 1) : ev E M (.bastore :: c) L (.int v :: .int i :: .ref k :: S) h = ev E M c L S (h.1, h.2.1, am_up h.2.2.1 k i.toNatClampNeg v, h.2.2.2) := ev_go (by
  have hr : am_row h k 1 i = true := by simp only [am_row, hk, hi]; rfl
  simp only [am_step]
  rw [if_pos ⟨hr, hv⟩]
  rfl)
theorem e_last {k n : Nat} {i : Int32} {v : Int64} (hk : h.1[k]? = some (.inr (2, n))) (hi : am_inB i n = true) : ev E M (.lastore :: c) L (.long v :: .int i :: .ref k :: S) h = ev E M c L S (h.1, h.2.1, h.2.2.1, am_up h.2.2.2 k i.toNatClampNeg v) := ev_go (by simp only [am_step, am_row, hk, hi]; rfl)
theorem e_aald {k t n : Nat} {i : Int32} (hk : h.1[k]? = some (.inr (t, n))) (ht : 3 ≤ t) (ht2 : t < 7) (hi : am_inB i n = true) : ev E M (.aaload :: c) L (.int i :: .ref k :: S) h = ev E M c L (va_rf (h.2.1 k i.toNatClampNeg) :: S) h := ev_go (by
  have hr : am_rowR h k i = true := by simp only [am_rowR, hk, hi, decide_eq_true ht, decide_eq_true ht2]; rfl
  simp only [am_step, hr]
  rfl)
theorem e_xld {k : Nat} {i : Int32} (hk : k < 3) (hi : am_inB i (E k).1 = true) : ev E M (.iaload :: c) L (.int i :: .retAddr k :: S) h = ev E M c L (.int ((E k).2 i.toNatClampNeg) :: S) h := ev_go (by
  simp only [am_step]
  rw [if_pos ⟨hk, hi⟩]
  rfl)
theorem e_xlen  : ev E M (.arraylength :: c) L (.retAddr 2 :: S) h = ev E M c L (.int (Int32.ofNat (E 2).1) :: S) h := ev_go rfl
theorem e_iret {x : Int32} : ev E M (.ireturn :: c) L [.int x] h = some (some (.int x), h) := ev_ret rfl
theorem e_zret0 : ev E M (.areturn :: c) L [.int 0] h = some (some (.int 0), h) := ev_ret rfl
theorem e_zret1 : ev E M (.areturn :: c) L [.int 1] h = some (some (.int 1), h) := ev_ret rfl
theorem e_zret {x : Int32} (hx : x = 0 ∨ x = 1) : ev E M (.areturn :: c) L [.int x] h = some (some (.int x), h) := ev_ret (by simp only [am_step]; rw [if_pos hx])
theorem e_lret {x : Int64} : ev E M (.lreturn :: c) L [.long x] h = some (some (.long x), h) := ev_ret rfl
theorem e_ret : ev E M (.return_ :: c) L [] h = some (none, h) := ev_ret rfl
end Ev
end
section
/-! THE TWO CONSTRUCTORS -/
def am_E0 : aE := fun _ => (0, fun _ => 0)
def am_stepN (M : Nat) (c0 : List Instr) (L S : List Value) (h : aH) : aO := match c0 with
  | .arraylength :: _ => none
  | .iaload :: _ => (match S with
    | .int _ :: .ref _ :: _ => am_step am_E0 M c0 L S h
    | _ => none)
  | _ => am_step am_E0 M c0 L S h
theorem am_stepN_step (E : aE) {M : Nat} {c0 : List Instr} {L S : List Value} {h : aH} {o : aS ⊕ (aR ⊕ (Nat × List Value × aS))} (hs : am_stepN M c0 L S h = some o) : am_step E M c0 L S h = some o := by
  unfold am_stepN at hs
  split at hs
  · cases hs
  · split at hs
    · exact hs
    · cases hs
  · rename_i h1 h2
    cases c0 with
    | nil => exact hs
    | cons i c =>
      cases i <;> first | exact hs | exact absurd rfl (h1 _) | exact absurd rfl (h2 _)
def am_runN : Nat → Nat → List Instr → List Value → List Value → aH → Option aR
  | 0, _, _, _, _, _ => none
  | n + 1, M, c, L, S, h => match am_stepN M c L S h with
    | none => none
    | some (.inl (c', L', S', h')) => am_runN n M c' L' S' h'
    | some (.inr (.inl r)) => some r
    | some (.inr (.inr (k, as, (c', L', S', h')))) => match am_runN n k (am_B k 0) (am_ent k as) [] h' with
      | none => none
      | some (v, h'') => am_runN n M c' L' (v.toList ++ S') h''
theorem am_runN_run (E : aE) : ∀ {n M : Nat} {c : List Instr} {L S : List Value} {h : aH} {r : aR}, am_runN n M c L S h = some r → am_run E n M c L S h = some r := by
  intro n
  induction n with
  | zero => intro M c L S h r hr; cases hr
  | succ n ih =>
    intro M c L S h r hr
    rw [am_runN] at hr
    split at hr
    · cases hr
    · rename_i hs
      rw [am_run, am_stepN_step E hs]
      exact ih hr
    · rename_i hs
      rw [am_run, am_stepN_step E hs]
      exact hr
    · rename_i hs
      split at hr
      · cases hr
      · rename_i hq
        rw [am_run, am_stepN_step E hs]
        dsimp only
        rw [ih hq]
        exact ih hr
def am_i1 : Option aR := am_runN 6000 0 (am_B 0 0) (am_ent 0 [.ref 0]) [] (am_lay am_h0 (.inl 8))
def am_hC1 : aH := (am_i1.getD (none, am_h0)).2
def am_i2 : Option aR := am_runN 6000 112 (am_B 112 0) (am_ent 112 [.ref 61]) [] (am_lay am_hC1 (.inl 9))
def am_hC : aH := (am_i2.getD (none, am_h0)).2
set_option maxRecDepth 100000 in
theorem am_i1_ok : am_i1.map (fun r => r.1) = some none := by decide +kernel
set_option maxRecDepth 100000 in
theorem am_i1_len : am_hC1.1.length = 61 := by decide +kernel
set_option maxRecDepth 100000 in
theorem am_i2_ok : am_i2.map (fun r => r.1) = some none := by decide +kernel
def am_LAY : List (Nat ⊕ (Nat × Nat)) := [.inl 8, .inl 2, .inr (0, 5), .inr (3, 5), .inr (4, 5), .inr (0, 5), .inl 6, .inl 6, .inl 6, .inl 6, .inl 6, .inl 7, .inr (0, 24), .inr (0, 24), .inl 7, .inr (0, 24), .inr (0, 24), .inl 7, .inr (0, 24), .inr (0, 24), .inl 7, .inr (0, 24), .inr (0, 24), .inl 7, .inr (0, 24), .inr (0, 24), .inl 1, .inl 4, .inl 4, .inr (5, 2), .inl 4, .inl 4, .inl 4, .inr (0, 5), .inl 0, .inr (0, 5), .inr (0, 5), .inr (1, 5), .inr (2, 5), .inr (2, 5), .inr (1, 5), .inr (0, 5), .inr (0, 5), .inl 4, .inl 4, .inl 3, .inl 4, .inr (0, 5), .inl 3, .inl 4, .inr (0, 5), .inr (6, 4), .inl 5, .inr (0, 60), .inl 5, .inr (0, 60), .inl 5, .inr (0, 60), .inl 5, .inr (0, 60), .inl 4, .inl 9, .inr (0, 5), .inr (0, 5), .inr (0, 6), .inr (1, 5), .inr (0, 5), .inr (0, 120), .inr (0, 120), .inr (0, 5), .inr (0, 4), .inr (0, 4), .inr (0, 240), .inr (0, 5), .inr (0, 5), .inr (0, 5), .inr (0, 5), .inr (0, 5)]
set_option maxRecDepth 100000 in
theorem am_LAY_ok : am_hC.1 = am_LAY := by decide +kernel
def am_rtab : List (Nat × Nat × Nat) := [(0, 0, 1), (0, 1, 26), (0, 2, 51), (0, 3, 60), (1, 0, 2), (1, 1, 3), (1, 2, 4), (1, 3, 5), (3, 0, 6), (3, 1, 7), (3, 2, 8), (3, 3, 9), (3, 4, 10), (4, 0, 11), (4, 1, 14), (4, 2, 17), (4, 3, 20), (4, 4, 23), (11, 0, 12), (11, 1, 13), (14, 0, 15), (14, 1, 16), (17, 0, 18), (17, 1, 19), (20, 0, 21), (20, 1, 22), (23, 0, 24), (23, 1, 25), (26, 0, 34), (26, 1, 27), (26, 4, 28), (26, 5, 29), (26, 6, 30), (26, 9, 1), (26, 10, 31), (26, 11, 32), (26, 12, 33), (29, 0, 45), (29, 1, 48), (34, 0, 35), (34, 1, 36), (34, 2, 37), (34, 3, 38), (34, 4, 39), (34, 6, 40), (34, 7, 41), (34, 8, 42), (34, 9, 2), (34, 10, 43), (34, 11, 44), (45, 0, 46), (45, 1, 47), (48, 0, 49), (48, 1, 50), (51, 0, 52), (51, 1, 54), (51, 2, 56), (51, 3, 58), (52, 0, 53), (54, 0, 55), (56, 0, 57), (58, 0, 59), (61, 2, 62), (61, 4, 63), (61, 5, 64), (61, 6, 65), (61, 7, 66), (61, 9, 67), (61, 10, 68), (61, 11, 69), (61, 12, 70), (61, 13, 71), (61, 14, 72), (61, 16, 73), (61, 17, 74), (61, 21, 75), (61, 29, 76), (61, 30, 77)]
set_option maxRecDepth 100000 in
theorem am_rtab_ok0 : am_rtab.all (fun q => decide (am_hC.2.1 q.1 q.2.1 = some q.2.2)) = true := by decide +kernel
theorem am_tab_of {f : Nat → Nat → Option Nat} {l : List (Nat × Nat × Nat)} (h : l.all (fun q => decide (f q.1 q.2.1 = some q.2.2)) = true) : ∀ k i j, (k, i, j) ∈ l → f k i = some j := by
  intro k i j hm
  have := List.all_eq_true.mp h _ hm
  simpa using this
theorem am_MRex : ∃ f : Nat → Nat → Option Nat, f = am_hC.2.1 ∧ ∀ k i j, (k, i, j) ∈ am_rtab → f k i = some j := ⟨_, rfl, am_tab_of am_rtab_ok0⟩
noncomputable def am_MR : Nat → Nat → Option Nat := Classical.choose am_MRex
theorem am_MR_eq : am_MR = am_hC.2.1 := (Classical.choose_spec am_MRex).1
theorem am_MRt {k i j : Nat} (h : (k, i, j) ∈ am_rtab) : am_MR k i = some j := (Classical.choose_spec am_MRex).2 k i j h
/-- what a new object holds: cell k, place i -/
def am_in0 (k i : Nat) : Int32 := if k = 2 ∨ k = 62 then (([100, 1, 750, 900, 500] : List Int32).getD i 0) else if 6 ≤ k ∧ k < 11 then (if i = 2 then 1 else if i = 3 then 3000 else 0) else if 11 ≤ k ∧ k < 26 ∧ k % 3 = 0 then -1 else if k = 26 then (if i = 7 then -9 else 0) else if 52 ≤ k ∧ k < 60 ∧ k % 2 = 0 then (if i = 1 then -1 else 0) else if k = 70 then -9 else 0
def am_szk (k : Nat) : Nat := match am_LAY[k]? with
  | some (.inl c) => am_N c
  | some (.inr (_, n)) => n
  | none => 0
set_option maxRecDepth 100000 in
theorem am_mi0_ok : (List.range 78).all (fun k => (List.range (am_szk k)).all (fun i => decide (am_hC.2.2.1 k i = am_in0 k i))) = true := by decide +kernel
set_option maxRecDepth 100000 in
theorem am_ml0_ok : ([27, 28, 30, 31, 32, 43, 44, 46, 49, 60] : List Nat).all (fun k => decide (am_hC.2.2.2 k 0 = 0) && decide (am_hC.2.2.2 k 1 = 1)) = true := by decide +kernel
/-- the heap of the two objects, with its numbers -/
noncomputable def HH (mi : Nat → Nat → Int32) (ml : Nat → Nat → Int64) : aH := (am_LAY, am_MR, mi, ml)
theorem am_hC_HH : am_hC = HH am_hC.2.2.1 am_hC.2.2.2 := by
  unfold HH
  rw [← am_LAY_ok, am_MR_eq]
theorem am_ev1 (E : aE) : ev E 0 (am_B 0 0) (am_ent 0 [.ref 0]) [] (am_lay am_h0 (.inl 8)) = some (none, am_hC1) := by
  have h := am_i1_ok
  cases h1 : am_i1 with
  | none => rw [h1] at h; cases h
  | some r =>
    obtain ⟨v, h2⟩ := r
    have e : am_hC1 = h2 := by unfold am_hC1; rw [h1]; rfl
    have ev0 : v = none := by rw [h1] at h; exact Option.some.inj h
    rw [e, ← ev0]
    exact ev_iff.mpr ⟨6000, am_runN_run E h1⟩
theorem am_ev2 (E : aE) : ev E 112 (am_B 112 0) (am_ent 112 [.ref 61]) [] (am_lay am_hC1 (.inl 9)) = some (none, HH am_hC.2.2.1 am_hC.2.2.2) := by
  rw [← am_hC_HH]
  have h := am_i2_ok
  cases h1 : am_i2 with
  | none => rw [h1] at h; cases h
  | some r =>
    obtain ⟨v, h2⟩ := r
    have e : am_hC = h2 := by unfold am_hC; rw [h1]; rfl
    have ev0 : v = none := by rw [h1] at h; exact Option.some.inj h
    rw [e, ← ev0]
    exact ev_iff.mpr ⟨6000, am_runN_run E h1⟩
end
section
/-! ROWS OF THE TWO OBJECTS' HEAP -/
section Rows
variable {E : aE} {M : Nat} {c : List Instr} {L S : List Value} {mi : Nat → Nat → Int32} {ml : Nat → Nat → Int64}
theorem e_getf {x k : Nat} {v : Value} (ho : am_obj (HH mi ml) k (x / 64) = true) (hv : am_fv (HH mi ml) (x / 64) k (x % 64) = v) : ev E M (.getfield x :: c) L (.ref k :: S) (HH mi ml) = ev E M c L (v :: S) (HH mi ml) := ev_go (by simp only [am_step, ho, hv]; rfl)
def am_isR (t : FieldType) : Bool := match t with
  | .object _ => true
  | .array _ => true
  | _ => false
theorem e_getR {x k j : Nat} (ho : am_obj (HH mi ml) k (x / 64) = true) (ht : am_isR (am_ty (x / 64) (x % 64)) = true) (hm : am_MR k (x % 64) = some j) : ev E M (.getfield x :: c) L (.ref k :: S) (HH mi ml) = ev E M c L (.ref j :: S) (HH mi ml) := by
  refine e_getf ho ?_
  unfold am_fv HH
  dsimp only
  rw [hm]
  unfold am_isR at ht
  split <;> first | rfl | (simp_all; done)
theorem e_putf {x k : Nat} {v : Value} {mi2 : Nat → Nat → Int32} {ml2 : Nat → Nat → Int64} (ho : am_obj (HH mi ml) k (x / 64) = true) (hv : am_pf (HH mi ml) (x / 64) k (x % 64) v = some (HH mi2 ml2)) : ev E M (.putfield x :: c) L (v :: .ref k :: S) (HH mi ml) = ev E M c L S (HH mi2 ml2) := ev_go (by simp only [am_step, ho, hv]; rfl)
theorem am_HHr : (HH mi ml).2.1 = am_MR := rfl
theorem am_nI_in {j n : Nat} (h : j < n) (hn : n < 2 ^ 31) : am_inB (nI j) n = true := by
  have h1 := nI_in h hn
  unfold am_inB
  simp only [Bool.not_eq_true', Bool.or_eq_false_iff, decide_eq_false_iff_not]
  exact ⟨fun q => h1 (Or.inl q), fun q => h1 (Or.inr q)⟩
theorem g_0_34 : ev E M (.getfield 0 :: c) L (.ref 34 :: S) (HH mi ml) = ev E M c L (.ref 35 :: S) (HH mi ml) := e_getR rfl rfl (am_MRt (by decide +kernel))
theorem g_1_34 : ev E M (.getfield 1 :: c) L (.ref 34 :: S) (HH mi ml) = ev E M c L (.ref 36 :: S) (HH mi ml) := e_getR rfl rfl (am_MRt (by decide +kernel))
theorem g_2_34 : ev E M (.getfield 2 :: c) L (.ref 34 :: S) (HH mi ml) = ev E M c L (.ref 37 :: S) (HH mi ml) := e_getR rfl rfl (am_MRt (by decide +kernel))
theorem g_3_34 : ev E M (.getfield 3 :: c) L (.ref 34 :: S) (HH mi ml) = ev E M c L (.ref 38 :: S) (HH mi ml) := e_getR rfl rfl (am_MRt (by decide +kernel))
theorem g_4_34 : ev E M (.getfield 4 :: c) L (.ref 34 :: S) (HH mi ml) = ev E M c L (.ref 39 :: S) (HH mi ml) := e_getR rfl rfl (am_MRt (by decide +kernel))
theorem g_5_34 : ev E M (.getfield 5 :: c) L (.ref 34 :: S) (HH mi ml) = ev E M c L (.int (mi 34 5) :: S) (HH mi ml) := e_getf rfl rfl
theorem p_5_34 {v : Int32} : ev E M (.putfield 5 :: c) L (.int v :: .ref 34 :: S) (HH mi ml) = ev E M c L S (HH (am_up mi 34 5 v) ml) := e_putf rfl rfl
theorem g_6_34 : ev E M (.getfield 6 :: c) L (.ref 34 :: S) (HH mi ml) = ev E M c L (.ref 40 :: S) (HH mi ml) := e_getR rfl rfl (am_MRt (by decide +kernel))
theorem g_7_34 : ev E M (.getfield 7 :: c) L (.ref 34 :: S) (HH mi ml) = ev E M c L (.ref 41 :: S) (HH mi ml) := e_getR rfl rfl (am_MRt (by decide +kernel))
theorem g_8_34 : ev E M (.getfield 8 :: c) L (.ref 34 :: S) (HH mi ml) = ev E M c L (.ref 42 :: S) (HH mi ml) := e_getR rfl rfl (am_MRt (by decide +kernel))
theorem g_9_34 : ev E M (.getfield 9 :: c) L (.ref 34 :: S) (HH mi ml) = ev E M c L (.ref 2 :: S) (HH mi ml) := e_getR rfl rfl (am_MRt (by decide +kernel))
theorem g_10_34 : ev E M (.getfield 10 :: c) L (.ref 34 :: S) (HH mi ml) = ev E M c L (.ref 43 :: S) (HH mi ml) := e_getR rfl rfl (am_MRt (by decide +kernel))
theorem g_11_34 : ev E M (.getfield 11 :: c) L (.ref 34 :: S) (HH mi ml) = ev E M c L (.ref 44 :: S) (HH mi ml) := e_getR rfl rfl (am_MRt (by decide +kernel))
theorem g_64_26 : ev E M (.getfield 64 :: c) L (.ref 26 :: S) (HH mi ml) = ev E M c L (.ref 34 :: S) (HH mi ml) := e_getR rfl rfl (am_MRt (by decide +kernel))
theorem g_65_26 : ev E M (.getfield 65 :: c) L (.ref 26 :: S) (HH mi ml) = ev E M c L (.ref 27 :: S) (HH mi ml) := e_getR rfl rfl (am_MRt (by decide +kernel))
theorem g_66_26 : ev E M (.getfield 66 :: c) L (.ref 26 :: S) (HH mi ml) = ev E M c L (.int (mi 26 2) :: S) (HH mi ml) := e_getf rfl rfl
theorem p_66_26 {v : Int32} : ev E M (.putfield 66 :: c) L (.int v :: .ref 26 :: S) (HH mi ml) = ev E M c L S (HH (am_up mi 26 2 v) ml) := e_putf rfl rfl
theorem g_67_26 : ev E M (.getfield 67 :: c) L (.ref 26 :: S) (HH mi ml) = ev E M c L (.int (mi 26 3) :: S) (HH mi ml) := e_getf rfl rfl
theorem p_67_26 {v : Int32} : ev E M (.putfield 67 :: c) L (.int v :: .ref 26 :: S) (HH mi ml) = ev E M c L S (HH (am_up mi 26 3 v) ml) := e_putf rfl rfl
theorem g_68_26 : ev E M (.getfield 68 :: c) L (.ref 26 :: S) (HH mi ml) = ev E M c L (.ref 28 :: S) (HH mi ml) := e_getR rfl rfl (am_MRt (by decide +kernel))
theorem g_69_26 : ev E M (.getfield 69 :: c) L (.ref 26 :: S) (HH mi ml) = ev E M c L (.ref 29 :: S) (HH mi ml) := e_getR rfl rfl (am_MRt (by decide +kernel))
theorem g_70_26 : ev E M (.getfield 70 :: c) L (.ref 26 :: S) (HH mi ml) = ev E M c L (.ref 30 :: S) (HH mi ml) := e_getR rfl rfl (am_MRt (by decide +kernel))
theorem g_71_26 : ev E M (.getfield 71 :: c) L (.ref 26 :: S) (HH mi ml) = ev E M c L (.int (mi 26 7) :: S) (HH mi ml) := e_getf rfl rfl
theorem p_71_26 {v : Int32} : ev E M (.putfield 71 :: c) L (.int v :: .ref 26 :: S) (HH mi ml) = ev E M c L S (HH (am_up mi 26 7 v) ml) := e_putf rfl rfl
theorem g_72_26 : ev E M (.getfield 72 :: c) L (.ref 26 :: S) (HH mi ml) = ev E M c L (.int (mi 26 8) :: S) (HH mi ml) := e_getf rfl rfl
theorem p_72_26 {v : Int32} (hv : v = 0 ∨ v = 1) : ev E M (.putfield 72 :: c) L (.int v :: .ref 26 :: S) (HH mi ml) = ev E M c L S (HH (am_up mi 26 8 v) ml) := e_putf rfl (by show (if v = 0 ∨ v = 1 then _ else none) = _; rw [if_pos hv]; rfl)
theorem g_73_26 : ev E M (.getfield 73 :: c) L (.ref 26 :: S) (HH mi ml) = ev E M c L (.ref 1 :: S) (HH mi ml) := e_getR rfl rfl (am_MRt (by decide +kernel))
theorem g_74_26 : ev E M (.getfield 74 :: c) L (.ref 26 :: S) (HH mi ml) = ev E M c L (.ref 31 :: S) (HH mi ml) := e_getR rfl rfl (am_MRt (by decide +kernel))
theorem g_75_26 : ev E M (.getfield 75 :: c) L (.ref 26 :: S) (HH mi ml) = ev E M c L (.ref 32 :: S) (HH mi ml) := e_getR rfl rfl (am_MRt (by decide +kernel))
theorem g_76_26 : ev E M (.getfield 76 :: c) L (.ref 26 :: S) (HH mi ml) = ev E M c L (.ref 33 :: S) (HH mi ml) := e_getR rfl rfl (am_MRt (by decide +kernel))
theorem g_128_1 : ev E M (.getfield 128 :: c) L (.ref 1 :: S) (HH mi ml) = ev E M c L (.ref 2 :: S) (HH mi ml) := e_getR rfl rfl (am_MRt (by decide +kernel))
theorem g_129_1 : ev E M (.getfield 129 :: c) L (.ref 1 :: S) (HH mi ml) = ev E M c L (.ref 3 :: S) (HH mi ml) := e_getR rfl rfl (am_MRt (by decide +kernel))
theorem g_130_1 : ev E M (.getfield 130 :: c) L (.ref 1 :: S) (HH mi ml) = ev E M c L (.ref 4 :: S) (HH mi ml) := e_getR rfl rfl (am_MRt (by decide +kernel))
theorem g_131_1 : ev E M (.getfield 131 :: c) L (.ref 1 :: S) (HH mi ml) = ev E M c L (.ref 5 :: S) (HH mi ml) := e_getR rfl rfl (am_MRt (by decide +kernel))
theorem g_132_1 : ev E M (.getfield 132 :: c) L (.ref 1 :: S) (HH mi ml) = ev E M c L (.int (mi 1 4) :: S) (HH mi ml) := e_getf rfl rfl
theorem p_132_1 {v : Int32} : ev E M (.putfield 132 :: c) L (.int v :: .ref 1 :: S) (HH mi ml) = ev E M c L S (HH (am_up mi 1 4 v) ml) := e_putf rfl rfl
theorem g_133_1 : ev E M (.getfield 133 :: c) L (.ref 1 :: S) (HH mi ml) = ev E M c L (.int (mi 1 5) :: S) (HH mi ml) := e_getf rfl rfl
theorem p_133_1 {v : Int32} : ev E M (.putfield 133 :: c) L (.int v :: .ref 1 :: S) (HH mi ml) = ev E M c L S (HH (am_up mi 1 5 v) ml) := e_putf rfl rfl
theorem g_192_45 : ev E M (.getfield 192 :: c) L (.ref 45 :: S) (HH mi ml) = ev E M c L (.ref 46 :: S) (HH mi ml) := e_getR rfl rfl (am_MRt (by decide +kernel))
theorem g_192_48 : ev E M (.getfield 192 :: c) L (.ref 48 :: S) (HH mi ml) = ev E M c L (.ref 49 :: S) (HH mi ml) := e_getR rfl rfl (am_MRt (by decide +kernel))
theorem gs_f192 {d : Nat} (hd : d < 2) : ev E M (.getfield 192 :: c) L (.ref (45 + 3 * d) :: S) (HH mi ml) = ev E M c L (.ref (46 + 3 * d) :: S) (HH mi ml) := by rcases (show d = 0 ∨ d = 1 by omega) with rfl | rfl <;> first | exact g_192_45 | exact g_192_48
theorem g_193_45 : ev E M (.getfield 193 :: c) L (.ref 45 :: S) (HH mi ml) = ev E M c L (.ref 47 :: S) (HH mi ml) := e_getR rfl rfl (am_MRt (by decide +kernel))
theorem g_193_48 : ev E M (.getfield 193 :: c) L (.ref 48 :: S) (HH mi ml) = ev E M c L (.ref 50 :: S) (HH mi ml) := e_getR rfl rfl (am_MRt (by decide +kernel))
theorem gs_f193 {d : Nat} (hd : d < 2) : ev E M (.getfield 193 :: c) L (.ref (45 + 3 * d) :: S) (HH mi ml) = ev E M c L (.ref (47 + 3 * d) :: S) (HH mi ml) := by rcases (show d = 0 ∨ d = 1 by omega) with rfl | rfl <;> first | exact g_193_45 | exact g_193_48
theorem g_194_45 : ev E M (.getfield 194 :: c) L (.ref 45 :: S) (HH mi ml) = ev E M c L (.int (mi 45 2) :: S) (HH mi ml) := e_getf rfl rfl
theorem p_194_45 {v : Int32} (hv : v = 0 ∨ v = 1) : ev E M (.putfield 194 :: c) L (.int v :: .ref 45 :: S) (HH mi ml) = ev E M c L S (HH (am_up mi 45 2 v) ml) := e_putf rfl (by show (if v = 0 ∨ v = 1 then _ else none) = _; rw [if_pos hv]; rfl)
theorem g_194_48 : ev E M (.getfield 194 :: c) L (.ref 48 :: S) (HH mi ml) = ev E M c L (.int (mi 48 2) :: S) (HH mi ml) := e_getf rfl rfl
theorem p_194_48 {v : Int32} (hv : v = 0 ∨ v = 1) : ev E M (.putfield 194 :: c) L (.int v :: .ref 48 :: S) (HH mi ml) = ev E M c L S (HH (am_up mi 48 2 v) ml) := e_putf rfl (by show (if v = 0 ∨ v = 1 then _ else none) = _; rw [if_pos hv]; rfl)
theorem gs_f194 {d : Nat} (hd : d < 2) : ev E M (.getfield 194 :: c) L (.ref (45 + 3 * d) :: S) (HH mi ml) = ev E M c L (.int (mi (45 + 3 * d) 2) :: S) (HH mi ml) := by rcases (show d = 0 ∨ d = 1 by omega) with rfl | rfl <;> first | exact g_194_45 | exact g_194_48
theorem ps_f194 {d : Nat} {v : Int32} (hd : d < 2) (hv : v = 0 ∨ v = 1) : ev E M (.putfield 194 :: c) L (.int v :: .ref (45 + 3 * d) :: S) (HH mi ml) = ev E M c L S (HH (am_up mi (45 + 3 * d) 2 v) ml) := by rcases (show d = 0 ∨ d = 1 by omega) with rfl | rfl <;> first | exact p_194_45 hv | exact p_194_48 hv
theorem g_256_27 : ev E M (.getfield 256 :: c) L (.ref 27 :: S) (HH mi ml) = ev E M c L (.long (ml 27 0) :: S) (HH mi ml) := e_getf rfl rfl
theorem p_256_27 {v : Int64} : ev E M (.putfield 256 :: c) L (.long v :: .ref 27 :: S) (HH mi ml) = ev E M c L S (HH mi (am_up ml 27 0 v)) := e_putf rfl rfl
theorem g_256_28 : ev E M (.getfield 256 :: c) L (.ref 28 :: S) (HH mi ml) = ev E M c L (.long (ml 28 0) :: S) (HH mi ml) := e_getf rfl rfl
theorem p_256_28 {v : Int64} : ev E M (.putfield 256 :: c) L (.long v :: .ref 28 :: S) (HH mi ml) = ev E M c L S (HH mi (am_up ml 28 0 v)) := e_putf rfl rfl
theorem g_256_30 : ev E M (.getfield 256 :: c) L (.ref 30 :: S) (HH mi ml) = ev E M c L (.long (ml 30 0) :: S) (HH mi ml) := e_getf rfl rfl
theorem p_256_30 {v : Int64} : ev E M (.putfield 256 :: c) L (.long v :: .ref 30 :: S) (HH mi ml) = ev E M c L S (HH mi (am_up ml 30 0 v)) := e_putf rfl rfl
theorem g_256_31 : ev E M (.getfield 256 :: c) L (.ref 31 :: S) (HH mi ml) = ev E M c L (.long (ml 31 0) :: S) (HH mi ml) := e_getf rfl rfl
theorem p_256_31 {v : Int64} : ev E M (.putfield 256 :: c) L (.long v :: .ref 31 :: S) (HH mi ml) = ev E M c L S (HH mi (am_up ml 31 0 v)) := e_putf rfl rfl
theorem g_256_32 : ev E M (.getfield 256 :: c) L (.ref 32 :: S) (HH mi ml) = ev E M c L (.long (ml 32 0) :: S) (HH mi ml) := e_getf rfl rfl
theorem p_256_32 {v : Int64} : ev E M (.putfield 256 :: c) L (.long v :: .ref 32 :: S) (HH mi ml) = ev E M c L S (HH mi (am_up ml 32 0 v)) := e_putf rfl rfl
theorem g_256_43 : ev E M (.getfield 256 :: c) L (.ref 43 :: S) (HH mi ml) = ev E M c L (.long (ml 43 0) :: S) (HH mi ml) := e_getf rfl rfl
theorem p_256_43 {v : Int64} : ev E M (.putfield 256 :: c) L (.long v :: .ref 43 :: S) (HH mi ml) = ev E M c L S (HH mi (am_up ml 43 0 v)) := e_putf rfl rfl
theorem g_256_44 : ev E M (.getfield 256 :: c) L (.ref 44 :: S) (HH mi ml) = ev E M c L (.long (ml 44 0) :: S) (HH mi ml) := e_getf rfl rfl
theorem p_256_44 {v : Int64} : ev E M (.putfield 256 :: c) L (.long v :: .ref 44 :: S) (HH mi ml) = ev E M c L S (HH mi (am_up ml 44 0 v)) := e_putf rfl rfl
theorem g_256_46 : ev E M (.getfield 256 :: c) L (.ref 46 :: S) (HH mi ml) = ev E M c L (.long (ml 46 0) :: S) (HH mi ml) := e_getf rfl rfl
theorem p_256_46 {v : Int64} : ev E M (.putfield 256 :: c) L (.long v :: .ref 46 :: S) (HH mi ml) = ev E M c L S (HH mi (am_up ml 46 0 v)) := e_putf rfl rfl
theorem g_256_49 : ev E M (.getfield 256 :: c) L (.ref 49 :: S) (HH mi ml) = ev E M c L (.long (ml 49 0) :: S) (HH mi ml) := e_getf rfl rfl
theorem p_256_49 {v : Int64} : ev E M (.putfield 256 :: c) L (.long v :: .ref 49 :: S) (HH mi ml) = ev E M c L S (HH mi (am_up ml 49 0 v)) := e_putf rfl rfl
theorem g_256_60 : ev E M (.getfield 256 :: c) L (.ref 60 :: S) (HH mi ml) = ev E M c L (.long (ml 60 0) :: S) (HH mi ml) := e_getf rfl rfl
theorem p_256_60 {v : Int64} : ev E M (.putfield 256 :: c) L (.long v :: .ref 60 :: S) (HH mi ml) = ev E M c L S (HH mi (am_up ml 60 0 v)) := e_putf rfl rfl
theorem g_257_27 : ev E M (.getfield 257 :: c) L (.ref 27 :: S) (HH mi ml) = ev E M c L (.long (ml 27 1) :: S) (HH mi ml) := e_getf rfl rfl
theorem p_257_27 {v : Int64} : ev E M (.putfield 257 :: c) L (.long v :: .ref 27 :: S) (HH mi ml) = ev E M c L S (HH mi (am_up ml 27 1 v)) := e_putf rfl rfl
theorem g_257_28 : ev E M (.getfield 257 :: c) L (.ref 28 :: S) (HH mi ml) = ev E M c L (.long (ml 28 1) :: S) (HH mi ml) := e_getf rfl rfl
theorem p_257_28 {v : Int64} : ev E M (.putfield 257 :: c) L (.long v :: .ref 28 :: S) (HH mi ml) = ev E M c L S (HH mi (am_up ml 28 1 v)) := e_putf rfl rfl
theorem g_257_30 : ev E M (.getfield 257 :: c) L (.ref 30 :: S) (HH mi ml) = ev E M c L (.long (ml 30 1) :: S) (HH mi ml) := e_getf rfl rfl
theorem p_257_30 {v : Int64} : ev E M (.putfield 257 :: c) L (.long v :: .ref 30 :: S) (HH mi ml) = ev E M c L S (HH mi (am_up ml 30 1 v)) := e_putf rfl rfl
theorem g_257_31 : ev E M (.getfield 257 :: c) L (.ref 31 :: S) (HH mi ml) = ev E M c L (.long (ml 31 1) :: S) (HH mi ml) := e_getf rfl rfl
theorem p_257_31 {v : Int64} : ev E M (.putfield 257 :: c) L (.long v :: .ref 31 :: S) (HH mi ml) = ev E M c L S (HH mi (am_up ml 31 1 v)) := e_putf rfl rfl
theorem g_257_32 : ev E M (.getfield 257 :: c) L (.ref 32 :: S) (HH mi ml) = ev E M c L (.long (ml 32 1) :: S) (HH mi ml) := e_getf rfl rfl
theorem p_257_32 {v : Int64} : ev E M (.putfield 257 :: c) L (.long v :: .ref 32 :: S) (HH mi ml) = ev E M c L S (HH mi (am_up ml 32 1 v)) := e_putf rfl rfl
theorem g_257_43 : ev E M (.getfield 257 :: c) L (.ref 43 :: S) (HH mi ml) = ev E M c L (.long (ml 43 1) :: S) (HH mi ml) := e_getf rfl rfl
theorem p_257_43 {v : Int64} : ev E M (.putfield 257 :: c) L (.long v :: .ref 43 :: S) (HH mi ml) = ev E M c L S (HH mi (am_up ml 43 1 v)) := e_putf rfl rfl
theorem g_257_44 : ev E M (.getfield 257 :: c) L (.ref 44 :: S) (HH mi ml) = ev E M c L (.long (ml 44 1) :: S) (HH mi ml) := e_getf rfl rfl
theorem p_257_44 {v : Int64} : ev E M (.putfield 257 :: c) L (.long v :: .ref 44 :: S) (HH mi ml) = ev E M c L S (HH mi (am_up ml 44 1 v)) := e_putf rfl rfl
theorem g_257_46 : ev E M (.getfield 257 :: c) L (.ref 46 :: S) (HH mi ml) = ev E M c L (.long (ml 46 1) :: S) (HH mi ml) := e_getf rfl rfl
theorem p_257_46 {v : Int64} : ev E M (.putfield 257 :: c) L (.long v :: .ref 46 :: S) (HH mi ml) = ev E M c L S (HH mi (am_up ml 46 1 v)) := e_putf rfl rfl
theorem g_257_49 : ev E M (.getfield 257 :: c) L (.ref 49 :: S) (HH mi ml) = ev E M c L (.long (ml 49 1) :: S) (HH mi ml) := e_getf rfl rfl
theorem p_257_49 {v : Int64} : ev E M (.putfield 257 :: c) L (.long v :: .ref 49 :: S) (HH mi ml) = ev E M c L S (HH mi (am_up ml 49 1 v)) := e_putf rfl rfl
theorem g_257_60 : ev E M (.getfield 257 :: c) L (.ref 60 :: S) (HH mi ml) = ev E M c L (.long (ml 60 1) :: S) (HH mi ml) := e_getf rfl rfl
theorem p_257_60 {v : Int64} : ev E M (.putfield 257 :: c) L (.long v :: .ref 60 :: S) (HH mi ml) = ev E M c L S (HH mi (am_up ml 60 1 v)) := e_putf rfl rfl
theorem g_320_52 : ev E M (.getfield 320 :: c) L (.ref 52 :: S) (HH mi ml) = ev E M c L (.ref 53 :: S) (HH mi ml) := e_getR rfl rfl (am_MRt (by decide +kernel))
theorem g_320_54 : ev E M (.getfield 320 :: c) L (.ref 54 :: S) (HH mi ml) = ev E M c L (.ref 55 :: S) (HH mi ml) := e_getR rfl rfl (am_MRt (by decide +kernel))
theorem g_320_56 : ev E M (.getfield 320 :: c) L (.ref 56 :: S) (HH mi ml) = ev E M c L (.ref 57 :: S) (HH mi ml) := e_getR rfl rfl (am_MRt (by decide +kernel))
theorem g_320_58 : ev E M (.getfield 320 :: c) L (.ref 58 :: S) (HH mi ml) = ev E M c L (.ref 59 :: S) (HH mi ml) := e_getR rfl rfl (am_MRt (by decide +kernel))
theorem gs_f320 {d : Nat} (hd : d < 4) : ev E M (.getfield 320 :: c) L (.ref (52 + 2 * d) :: S) (HH mi ml) = ev E M c L (.ref (53 + 2 * d) :: S) (HH mi ml) := by rcases (show d = 0 ∨ d = 1 ∨ d = 2 ∨ d = 3 by omega) with rfl | rfl | rfl | rfl <;> first | exact g_320_52 | exact g_320_54 | exact g_320_56 | exact g_320_58
theorem g_321_52 : ev E M (.getfield 321 :: c) L (.ref 52 :: S) (HH mi ml) = ev E M c L (.int (mi 52 1) :: S) (HH mi ml) := e_getf rfl rfl
theorem p_321_52 {v : Int32} : ev E M (.putfield 321 :: c) L (.int v :: .ref 52 :: S) (HH mi ml) = ev E M c L S (HH (am_up mi 52 1 v) ml) := e_putf rfl rfl
theorem g_321_54 : ev E M (.getfield 321 :: c) L (.ref 54 :: S) (HH mi ml) = ev E M c L (.int (mi 54 1) :: S) (HH mi ml) := e_getf rfl rfl
theorem p_321_54 {v : Int32} : ev E M (.putfield 321 :: c) L (.int v :: .ref 54 :: S) (HH mi ml) = ev E M c L S (HH (am_up mi 54 1 v) ml) := e_putf rfl rfl
theorem g_321_56 : ev E M (.getfield 321 :: c) L (.ref 56 :: S) (HH mi ml) = ev E M c L (.int (mi 56 1) :: S) (HH mi ml) := e_getf rfl rfl
theorem p_321_56 {v : Int32} : ev E M (.putfield 321 :: c) L (.int v :: .ref 56 :: S) (HH mi ml) = ev E M c L S (HH (am_up mi 56 1 v) ml) := e_putf rfl rfl
theorem g_321_58 : ev E M (.getfield 321 :: c) L (.ref 58 :: S) (HH mi ml) = ev E M c L (.int (mi 58 1) :: S) (HH mi ml) := e_getf rfl rfl
theorem p_321_58 {v : Int32} : ev E M (.putfield 321 :: c) L (.int v :: .ref 58 :: S) (HH mi ml) = ev E M c L S (HH (am_up mi 58 1 v) ml) := e_putf rfl rfl
theorem gs_f321 {d : Nat} (hd : d < 4) : ev E M (.getfield 321 :: c) L (.ref (52 + 2 * d) :: S) (HH mi ml) = ev E M c L (.int (mi (52 + 2 * d) 1) :: S) (HH mi ml) := by rcases (show d = 0 ∨ d = 1 ∨ d = 2 ∨ d = 3 by omega) with rfl | rfl | rfl | rfl <;> first | exact g_321_52 | exact g_321_54 | exact g_321_56 | exact g_321_58
theorem ps_f321 {d : Nat} {v : Int32} (hd : d < 4) : ev E M (.putfield 321 :: c) L (.int v :: .ref (52 + 2 * d) :: S) (HH mi ml) = ev E M c L S (HH (am_up mi (52 + 2 * d) 1 v) ml) := by rcases (show d = 0 ∨ d = 1 ∨ d = 2 ∨ d = 3 by omega) with rfl | rfl | rfl | rfl <;> first | exact p_321_52 | exact p_321_54 | exact p_321_56 | exact p_321_58
theorem g_322_52 : ev E M (.getfield 322 :: c) L (.ref 52 :: S) (HH mi ml) = ev E M c L (.int (mi 52 2) :: S) (HH mi ml) := e_getf rfl rfl
theorem p_322_52 {v : Int32} : ev E M (.putfield 322 :: c) L (.int v :: .ref 52 :: S) (HH mi ml) = ev E M c L S (HH (am_up mi 52 2 v) ml) := e_putf rfl rfl
theorem g_322_54 : ev E M (.getfield 322 :: c) L (.ref 54 :: S) (HH mi ml) = ev E M c L (.int (mi 54 2) :: S) (HH mi ml) := e_getf rfl rfl
theorem p_322_54 {v : Int32} : ev E M (.putfield 322 :: c) L (.int v :: .ref 54 :: S) (HH mi ml) = ev E M c L S (HH (am_up mi 54 2 v) ml) := e_putf rfl rfl
theorem g_322_56 : ev E M (.getfield 322 :: c) L (.ref 56 :: S) (HH mi ml) = ev E M c L (.int (mi 56 2) :: S) (HH mi ml) := e_getf rfl rfl
theorem p_322_56 {v : Int32} : ev E M (.putfield 322 :: c) L (.int v :: .ref 56 :: S) (HH mi ml) = ev E M c L S (HH (am_up mi 56 2 v) ml) := e_putf rfl rfl
theorem g_322_58 : ev E M (.getfield 322 :: c) L (.ref 58 :: S) (HH mi ml) = ev E M c L (.int (mi 58 2) :: S) (HH mi ml) := e_getf rfl rfl
theorem p_322_58 {v : Int32} : ev E M (.putfield 322 :: c) L (.int v :: .ref 58 :: S) (HH mi ml) = ev E M c L S (HH (am_up mi 58 2 v) ml) := e_putf rfl rfl
theorem gs_f322 {d : Nat} (hd : d < 4) : ev E M (.getfield 322 :: c) L (.ref (52 + 2 * d) :: S) (HH mi ml) = ev E M c L (.int (mi (52 + 2 * d) 2) :: S) (HH mi ml) := by rcases (show d = 0 ∨ d = 1 ∨ d = 2 ∨ d = 3 by omega) with rfl | rfl | rfl | rfl <;> first | exact g_322_52 | exact g_322_54 | exact g_322_56 | exact g_322_58
theorem ps_f322 {d : Nat} {v : Int32} (hd : d < 4) : ev E M (.putfield 322 :: c) L (.int v :: .ref (52 + 2 * d) :: S) (HH mi ml) = ev E M c L S (HH (am_up mi (52 + 2 * d) 2 v) ml) := by rcases (show d = 0 ∨ d = 1 ∨ d = 2 ∨ d = 3 by omega) with rfl | rfl | rfl | rfl <;> first | exact p_322_52 | exact p_322_54 | exact p_322_56 | exact p_322_58
theorem g_384_6 : ev E M (.getfield 384 :: c) L (.ref 6 :: S) (HH mi ml) = ev E M c L (.int (mi 6 0) :: S) (HH mi ml) := e_getf rfl rfl
theorem p_384_6 {v : Int32} : ev E M (.putfield 384 :: c) L (.int v :: .ref 6 :: S) (HH mi ml) = ev E M c L S (HH (am_up mi 6 0 v) ml) := e_putf rfl rfl
theorem g_384_7 : ev E M (.getfield 384 :: c) L (.ref 7 :: S) (HH mi ml) = ev E M c L (.int (mi 7 0) :: S) (HH mi ml) := e_getf rfl rfl
theorem p_384_7 {v : Int32} : ev E M (.putfield 384 :: c) L (.int v :: .ref 7 :: S) (HH mi ml) = ev E M c L S (HH (am_up mi 7 0 v) ml) := e_putf rfl rfl
theorem g_384_8 : ev E M (.getfield 384 :: c) L (.ref 8 :: S) (HH mi ml) = ev E M c L (.int (mi 8 0) :: S) (HH mi ml) := e_getf rfl rfl
theorem p_384_8 {v : Int32} : ev E M (.putfield 384 :: c) L (.int v :: .ref 8 :: S) (HH mi ml) = ev E M c L S (HH (am_up mi 8 0 v) ml) := e_putf rfl rfl
theorem g_384_9 : ev E M (.getfield 384 :: c) L (.ref 9 :: S) (HH mi ml) = ev E M c L (.int (mi 9 0) :: S) (HH mi ml) := e_getf rfl rfl
theorem p_384_9 {v : Int32} : ev E M (.putfield 384 :: c) L (.int v :: .ref 9 :: S) (HH mi ml) = ev E M c L S (HH (am_up mi 9 0 v) ml) := e_putf rfl rfl
theorem g_384_10 : ev E M (.getfield 384 :: c) L (.ref 10 :: S) (HH mi ml) = ev E M c L (.int (mi 10 0) :: S) (HH mi ml) := e_getf rfl rfl
theorem p_384_10 {v : Int32} : ev E M (.putfield 384 :: c) L (.int v :: .ref 10 :: S) (HH mi ml) = ev E M c L S (HH (am_up mi 10 0 v) ml) := e_putf rfl rfl
theorem gs_f384 {d : Nat} (hd : d < 5) : ev E M (.getfield 384 :: c) L (.ref (6 + d) :: S) (HH mi ml) = ev E M c L (.int (mi (6 + d) 0) :: S) (HH mi ml) := by rcases (show d = 0 ∨ d = 1 ∨ d = 2 ∨ d = 3 ∨ d = 4 by omega) with rfl | rfl | rfl | rfl | rfl <;> first | exact g_384_6 | exact g_384_7 | exact g_384_8 | exact g_384_9 | exact g_384_10
theorem ps_f384 {d : Nat} {v : Int32} (hd : d < 5) : ev E M (.putfield 384 :: c) L (.int v :: .ref (6 + d) :: S) (HH mi ml) = ev E M c L S (HH (am_up mi (6 + d) 0 v) ml) := by rcases (show d = 0 ∨ d = 1 ∨ d = 2 ∨ d = 3 ∨ d = 4 by omega) with rfl | rfl | rfl | rfl | rfl <;> first | exact p_384_6 | exact p_384_7 | exact p_384_8 | exact p_384_9 | exact p_384_10
theorem g_385_6 : ev E M (.getfield 385 :: c) L (.ref 6 :: S) (HH mi ml) = ev E M c L (.int (mi 6 1) :: S) (HH mi ml) := e_getf rfl rfl
theorem p_385_6 {v : Int32} : ev E M (.putfield 385 :: c) L (.int v :: .ref 6 :: S) (HH mi ml) = ev E M c L S (HH (am_up mi 6 1 v) ml) := e_putf rfl rfl
theorem g_385_7 : ev E M (.getfield 385 :: c) L (.ref 7 :: S) (HH mi ml) = ev E M c L (.int (mi 7 1) :: S) (HH mi ml) := e_getf rfl rfl
theorem p_385_7 {v : Int32} : ev E M (.putfield 385 :: c) L (.int v :: .ref 7 :: S) (HH mi ml) = ev E M c L S (HH (am_up mi 7 1 v) ml) := e_putf rfl rfl
theorem g_385_8 : ev E M (.getfield 385 :: c) L (.ref 8 :: S) (HH mi ml) = ev E M c L (.int (mi 8 1) :: S) (HH mi ml) := e_getf rfl rfl
theorem p_385_8 {v : Int32} : ev E M (.putfield 385 :: c) L (.int v :: .ref 8 :: S) (HH mi ml) = ev E M c L S (HH (am_up mi 8 1 v) ml) := e_putf rfl rfl
theorem g_385_9 : ev E M (.getfield 385 :: c) L (.ref 9 :: S) (HH mi ml) = ev E M c L (.int (mi 9 1) :: S) (HH mi ml) := e_getf rfl rfl
theorem p_385_9 {v : Int32} : ev E M (.putfield 385 :: c) L (.int v :: .ref 9 :: S) (HH mi ml) = ev E M c L S (HH (am_up mi 9 1 v) ml) := e_putf rfl rfl
theorem g_385_10 : ev E M (.getfield 385 :: c) L (.ref 10 :: S) (HH mi ml) = ev E M c L (.int (mi 10 1) :: S) (HH mi ml) := e_getf rfl rfl
theorem p_385_10 {v : Int32} : ev E M (.putfield 385 :: c) L (.int v :: .ref 10 :: S) (HH mi ml) = ev E M c L S (HH (am_up mi 10 1 v) ml) := e_putf rfl rfl
theorem gs_f385 {d : Nat} (hd : d < 5) : ev E M (.getfield 385 :: c) L (.ref (6 + d) :: S) (HH mi ml) = ev E M c L (.int (mi (6 + d) 1) :: S) (HH mi ml) := by rcases (show d = 0 ∨ d = 1 ∨ d = 2 ∨ d = 3 ∨ d = 4 by omega) with rfl | rfl | rfl | rfl | rfl <;> first | exact g_385_6 | exact g_385_7 | exact g_385_8 | exact g_385_9 | exact g_385_10
theorem ps_f385 {d : Nat} {v : Int32} (hd : d < 5) : ev E M (.putfield 385 :: c) L (.int v :: .ref (6 + d) :: S) (HH mi ml) = ev E M c L S (HH (am_up mi (6 + d) 1 v) ml) := by rcases (show d = 0 ∨ d = 1 ∨ d = 2 ∨ d = 3 ∨ d = 4 by omega) with rfl | rfl | rfl | rfl | rfl <;> first | exact p_385_6 | exact p_385_7 | exact p_385_8 | exact p_385_9 | exact p_385_10
theorem g_386_6 : ev E M (.getfield 386 :: c) L (.ref 6 :: S) (HH mi ml) = ev E M c L (.int (mi 6 2) :: S) (HH mi ml) := e_getf rfl rfl
theorem p_386_6 {v : Int32} (hv : v = 0 ∨ v = 1) : ev E M (.putfield 386 :: c) L (.int v :: .ref 6 :: S) (HH mi ml) = ev E M c L S (HH (am_up mi 6 2 v) ml) := e_putf rfl (by show (if v = 0 ∨ v = 1 then _ else none) = _; rw [if_pos hv]; rfl)
theorem g_386_7 : ev E M (.getfield 386 :: c) L (.ref 7 :: S) (HH mi ml) = ev E M c L (.int (mi 7 2) :: S) (HH mi ml) := e_getf rfl rfl
theorem p_386_7 {v : Int32} (hv : v = 0 ∨ v = 1) : ev E M (.putfield 386 :: c) L (.int v :: .ref 7 :: S) (HH mi ml) = ev E M c L S (HH (am_up mi 7 2 v) ml) := e_putf rfl (by show (if v = 0 ∨ v = 1 then _ else none) = _; rw [if_pos hv]; rfl)
theorem g_386_8 : ev E M (.getfield 386 :: c) L (.ref 8 :: S) (HH mi ml) = ev E M c L (.int (mi 8 2) :: S) (HH mi ml) := e_getf rfl rfl
theorem p_386_8 {v : Int32} (hv : v = 0 ∨ v = 1) : ev E M (.putfield 386 :: c) L (.int v :: .ref 8 :: S) (HH mi ml) = ev E M c L S (HH (am_up mi 8 2 v) ml) := e_putf rfl (by show (if v = 0 ∨ v = 1 then _ else none) = _; rw [if_pos hv]; rfl)
theorem g_386_9 : ev E M (.getfield 386 :: c) L (.ref 9 :: S) (HH mi ml) = ev E M c L (.int (mi 9 2) :: S) (HH mi ml) := e_getf rfl rfl
theorem p_386_9 {v : Int32} (hv : v = 0 ∨ v = 1) : ev E M (.putfield 386 :: c) L (.int v :: .ref 9 :: S) (HH mi ml) = ev E M c L S (HH (am_up mi 9 2 v) ml) := e_putf rfl (by show (if v = 0 ∨ v = 1 then _ else none) = _; rw [if_pos hv]; rfl)
theorem g_386_10 : ev E M (.getfield 386 :: c) L (.ref 10 :: S) (HH mi ml) = ev E M c L (.int (mi 10 2) :: S) (HH mi ml) := e_getf rfl rfl
theorem p_386_10 {v : Int32} (hv : v = 0 ∨ v = 1) : ev E M (.putfield 386 :: c) L (.int v :: .ref 10 :: S) (HH mi ml) = ev E M c L S (HH (am_up mi 10 2 v) ml) := e_putf rfl (by show (if v = 0 ∨ v = 1 then _ else none) = _; rw [if_pos hv]; rfl)
theorem gs_f386 {d : Nat} (hd : d < 5) : ev E M (.getfield 386 :: c) L (.ref (6 + d) :: S) (HH mi ml) = ev E M c L (.int (mi (6 + d) 2) :: S) (HH mi ml) := by rcases (show d = 0 ∨ d = 1 ∨ d = 2 ∨ d = 3 ∨ d = 4 by omega) with rfl | rfl | rfl | rfl | rfl <;> first | exact g_386_6 | exact g_386_7 | exact g_386_8 | exact g_386_9 | exact g_386_10
theorem ps_f386 {d : Nat} {v : Int32} (hd : d < 5) (hv : v = 0 ∨ v = 1) : ev E M (.putfield 386 :: c) L (.int v :: .ref (6 + d) :: S) (HH mi ml) = ev E M c L S (HH (am_up mi (6 + d) 2 v) ml) := by rcases (show d = 0 ∨ d = 1 ∨ d = 2 ∨ d = 3 ∨ d = 4 by omega) with rfl | rfl | rfl | rfl | rfl <;> first | exact p_386_6 hv | exact p_386_7 hv | exact p_386_8 hv | exact p_386_9 hv | exact p_386_10 hv
theorem g_387_6 : ev E M (.getfield 387 :: c) L (.ref 6 :: S) (HH mi ml) = ev E M c L (.int (mi 6 3) :: S) (HH mi ml) := e_getf rfl rfl
theorem p_387_6 {v : Int32} : ev E M (.putfield 387 :: c) L (.int v :: .ref 6 :: S) (HH mi ml) = ev E M c L S (HH (am_up mi 6 3 v) ml) := e_putf rfl rfl
theorem g_387_7 : ev E M (.getfield 387 :: c) L (.ref 7 :: S) (HH mi ml) = ev E M c L (.int (mi 7 3) :: S) (HH mi ml) := e_getf rfl rfl
theorem p_387_7 {v : Int32} : ev E M (.putfield 387 :: c) L (.int v :: .ref 7 :: S) (HH mi ml) = ev E M c L S (HH (am_up mi 7 3 v) ml) := e_putf rfl rfl
theorem g_387_8 : ev E M (.getfield 387 :: c) L (.ref 8 :: S) (HH mi ml) = ev E M c L (.int (mi 8 3) :: S) (HH mi ml) := e_getf rfl rfl
theorem p_387_8 {v : Int32} : ev E M (.putfield 387 :: c) L (.int v :: .ref 8 :: S) (HH mi ml) = ev E M c L S (HH (am_up mi 8 3 v) ml) := e_putf rfl rfl
theorem g_387_9 : ev E M (.getfield 387 :: c) L (.ref 9 :: S) (HH mi ml) = ev E M c L (.int (mi 9 3) :: S) (HH mi ml) := e_getf rfl rfl
theorem p_387_9 {v : Int32} : ev E M (.putfield 387 :: c) L (.int v :: .ref 9 :: S) (HH mi ml) = ev E M c L S (HH (am_up mi 9 3 v) ml) := e_putf rfl rfl
theorem g_387_10 : ev E M (.getfield 387 :: c) L (.ref 10 :: S) (HH mi ml) = ev E M c L (.int (mi 10 3) :: S) (HH mi ml) := e_getf rfl rfl
theorem p_387_10 {v : Int32} : ev E M (.putfield 387 :: c) L (.int v :: .ref 10 :: S) (HH mi ml) = ev E M c L S (HH (am_up mi 10 3 v) ml) := e_putf rfl rfl
theorem gs_f387 {d : Nat} (hd : d < 5) : ev E M (.getfield 387 :: c) L (.ref (6 + d) :: S) (HH mi ml) = ev E M c L (.int (mi (6 + d) 3) :: S) (HH mi ml) := by rcases (show d = 0 ∨ d = 1 ∨ d = 2 ∨ d = 3 ∨ d = 4 by omega) with rfl | rfl | rfl | rfl | rfl <;> first | exact g_387_6 | exact g_387_7 | exact g_387_8 | exact g_387_9 | exact g_387_10
theorem ps_f387 {d : Nat} {v : Int32} (hd : d < 5) : ev E M (.putfield 387 :: c) L (.int v :: .ref (6 + d) :: S) (HH mi ml) = ev E M c L S (HH (am_up mi (6 + d) 3 v) ml) := by rcases (show d = 0 ∨ d = 1 ∨ d = 2 ∨ d = 3 ∨ d = 4 by omega) with rfl | rfl | rfl | rfl | rfl <;> first | exact p_387_6 | exact p_387_7 | exact p_387_8 | exact p_387_9 | exact p_387_10
theorem g_448_11 : ev E M (.getfield 448 :: c) L (.ref 11 :: S) (HH mi ml) = ev E M c L (.ref 12 :: S) (HH mi ml) := e_getR rfl rfl (am_MRt (by decide +kernel))
theorem g_448_14 : ev E M (.getfield 448 :: c) L (.ref 14 :: S) (HH mi ml) = ev E M c L (.ref 15 :: S) (HH mi ml) := e_getR rfl rfl (am_MRt (by decide +kernel))
theorem g_448_17 : ev E M (.getfield 448 :: c) L (.ref 17 :: S) (HH mi ml) = ev E M c L (.ref 18 :: S) (HH mi ml) := e_getR rfl rfl (am_MRt (by decide +kernel))
theorem g_448_20 : ev E M (.getfield 448 :: c) L (.ref 20 :: S) (HH mi ml) = ev E M c L (.ref 21 :: S) (HH mi ml) := e_getR rfl rfl (am_MRt (by decide +kernel))
theorem g_448_23 : ev E M (.getfield 448 :: c) L (.ref 23 :: S) (HH mi ml) = ev E M c L (.ref 24 :: S) (HH mi ml) := e_getR rfl rfl (am_MRt (by decide +kernel))
theorem gs_f448 {d : Nat} (hd : d < 5) : ev E M (.getfield 448 :: c) L (.ref (11 + 3 * d) :: S) (HH mi ml) = ev E M c L (.ref (12 + 3 * d) :: S) (HH mi ml) := by rcases (show d = 0 ∨ d = 1 ∨ d = 2 ∨ d = 3 ∨ d = 4 by omega) with rfl | rfl | rfl | rfl | rfl <;> first | exact g_448_11 | exact g_448_14 | exact g_448_17 | exact g_448_20 | exact g_448_23
theorem g_449_11 : ev E M (.getfield 449 :: c) L (.ref 11 :: S) (HH mi ml) = ev E M c L (.ref 13 :: S) (HH mi ml) := e_getR rfl rfl (am_MRt (by decide +kernel))
theorem g_449_14 : ev E M (.getfield 449 :: c) L (.ref 14 :: S) (HH mi ml) = ev E M c L (.ref 16 :: S) (HH mi ml) := e_getR rfl rfl (am_MRt (by decide +kernel))
theorem g_449_17 : ev E M (.getfield 449 :: c) L (.ref 17 :: S) (HH mi ml) = ev E M c L (.ref 19 :: S) (HH mi ml) := e_getR rfl rfl (am_MRt (by decide +kernel))
theorem g_449_20 : ev E M (.getfield 449 :: c) L (.ref 20 :: S) (HH mi ml) = ev E M c L (.ref 22 :: S) (HH mi ml) := e_getR rfl rfl (am_MRt (by decide +kernel))
theorem g_449_23 : ev E M (.getfield 449 :: c) L (.ref 23 :: S) (HH mi ml) = ev E M c L (.ref 25 :: S) (HH mi ml) := e_getR rfl rfl (am_MRt (by decide +kernel))
theorem gs_f449 {d : Nat} (hd : d < 5) : ev E M (.getfield 449 :: c) L (.ref (11 + 3 * d) :: S) (HH mi ml) = ev E M c L (.ref (13 + 3 * d) :: S) (HH mi ml) := by rcases (show d = 0 ∨ d = 1 ∨ d = 2 ∨ d = 3 ∨ d = 4 by omega) with rfl | rfl | rfl | rfl | rfl <;> first | exact g_449_11 | exact g_449_14 | exact g_449_17 | exact g_449_20 | exact g_449_23
theorem g_512_0 : ev E M (.getfield 512 :: c) L (.ref 0 :: S) (HH mi ml) = ev E M c L (.ref 1 :: S) (HH mi ml) := e_getR rfl rfl (am_MRt (by decide +kernel))
theorem g_513_0 : ev E M (.getfield 513 :: c) L (.ref 0 :: S) (HH mi ml) = ev E M c L (.ref 26 :: S) (HH mi ml) := e_getR rfl rfl (am_MRt (by decide +kernel))
theorem g_514_0 : ev E M (.getfield 514 :: c) L (.ref 0 :: S) (HH mi ml) = ev E M c L (.ref 51 :: S) (HH mi ml) := e_getR rfl rfl (am_MRt (by decide +kernel))
theorem g_515_0 : ev E M (.getfield 515 :: c) L (.ref 0 :: S) (HH mi ml) = ev E M c L (.ref 60 :: S) (HH mi ml) := e_getR rfl rfl (am_MRt (by decide +kernel))
theorem g_516_0 : ev E M (.getfield 516 :: c) L (.ref 0 :: S) (HH mi ml) = ev E M c L (.int (mi 0 4) :: S) (HH mi ml) := e_getf rfl rfl
theorem p_516_0 {v : Int32} : ev E M (.putfield 516 :: c) L (.int v :: .ref 0 :: S) (HH mi ml) = ev E M c L S (HH (am_up mi 0 4 v) ml) := e_putf rfl rfl
theorem g_517_0 : ev E M (.getfield 517 :: c) L (.ref 0 :: S) (HH mi ml) = ev E M c L (.int (mi 0 5) :: S) (HH mi ml) := e_getf rfl rfl
theorem p_517_0 {v : Int32} : ev E M (.putfield 517 :: c) L (.int v :: .ref 0 :: S) (HH mi ml) = ev E M c L S (HH (am_up mi 0 5 v) ml) := e_putf rfl rfl
theorem g_576_61 : ev E M (.getfield 576 :: c) L (.ref 61 :: S) (HH mi ml) = ev E M c L (.int (mi 61 0) :: S) (HH mi ml) := e_getf rfl rfl
theorem p_576_61 {v : Int32} : ev E M (.putfield 576 :: c) L (.int v :: .ref 61 :: S) (HH mi ml) = ev E M c L S (HH (am_up mi 61 0 v) ml) := e_putf rfl rfl
theorem g_577_61 : ev E M (.getfield 577 :: c) L (.ref 61 :: S) (HH mi ml) = ev E M c L (.int (mi 61 1) :: S) (HH mi ml) := e_getf rfl rfl
theorem p_577_61 {v : Int32} : ev E M (.putfield 577 :: c) L (.int v :: .ref 61 :: S) (HH mi ml) = ev E M c L S (HH (am_up mi 61 1 v) ml) := e_putf rfl rfl
theorem g_578_61 : ev E M (.getfield 578 :: c) L (.ref 61 :: S) (HH mi ml) = ev E M c L (.ref 62 :: S) (HH mi ml) := e_getR rfl rfl (am_MRt (by decide +kernel))
theorem g_579_61 : ev E M (.getfield 579 :: c) L (.ref 61 :: S) (HH mi ml) = ev E M c L (.int (mi 61 3) :: S) (HH mi ml) := e_getf rfl rfl
theorem p_579_61 {v : Int32} : ev E M (.putfield 579 :: c) L (.int v :: .ref 61 :: S) (HH mi ml) = ev E M c L S (HH (am_up mi 61 3 v) ml) := e_putf rfl rfl
theorem g_580_61 : ev E M (.getfield 580 :: c) L (.ref 61 :: S) (HH mi ml) = ev E M c L (.ref 63 :: S) (HH mi ml) := e_getR rfl rfl (am_MRt (by decide +kernel))
theorem g_581_61 : ev E M (.getfield 581 :: c) L (.ref 61 :: S) (HH mi ml) = ev E M c L (.ref 64 :: S) (HH mi ml) := e_getR rfl rfl (am_MRt (by decide +kernel))
theorem g_582_61 : ev E M (.getfield 582 :: c) L (.ref 61 :: S) (HH mi ml) = ev E M c L (.ref 65 :: S) (HH mi ml) := e_getR rfl rfl (am_MRt (by decide +kernel))
theorem g_583_61 : ev E M (.getfield 583 :: c) L (.ref 61 :: S) (HH mi ml) = ev E M c L (.ref 66 :: S) (HH mi ml) := e_getR rfl rfl (am_MRt (by decide +kernel))
theorem g_584_61 : ev E M (.getfield 584 :: c) L (.ref 61 :: S) (HH mi ml) = ev E M c L (.int (mi 61 8) :: S) (HH mi ml) := e_getf rfl rfl
theorem p_584_61 {v : Int32} : ev E M (.putfield 584 :: c) L (.int v :: .ref 61 :: S) (HH mi ml) = ev E M c L S (HH (am_up mi 61 8 v) ml) := e_putf rfl rfl
theorem g_585_61 : ev E M (.getfield 585 :: c) L (.ref 61 :: S) (HH mi ml) = ev E M c L (.ref 67 :: S) (HH mi ml) := e_getR rfl rfl (am_MRt (by decide +kernel))
theorem g_586_61 : ev E M (.getfield 586 :: c) L (.ref 61 :: S) (HH mi ml) = ev E M c L (.ref 68 :: S) (HH mi ml) := e_getR rfl rfl (am_MRt (by decide +kernel))
theorem g_587_61 : ev E M (.getfield 587 :: c) L (.ref 61 :: S) (HH mi ml) = ev E M c L (.ref 69 :: S) (HH mi ml) := e_getR rfl rfl (am_MRt (by decide +kernel))
theorem g_588_61 : ev E M (.getfield 588 :: c) L (.ref 61 :: S) (HH mi ml) = ev E M c L (.ref 70 :: S) (HH mi ml) := e_getR rfl rfl (am_MRt (by decide +kernel))
theorem g_589_61 : ev E M (.getfield 589 :: c) L (.ref 61 :: S) (HH mi ml) = ev E M c L (.ref 71 :: S) (HH mi ml) := e_getR rfl rfl (am_MRt (by decide +kernel))
theorem g_590_61 : ev E M (.getfield 590 :: c) L (.ref 61 :: S) (HH mi ml) = ev E M c L (.ref 72 :: S) (HH mi ml) := e_getR rfl rfl (am_MRt (by decide +kernel))
theorem g_591_61 : ev E M (.getfield 591 :: c) L (.ref 61 :: S) (HH mi ml) = ev E M c L (.int (mi 61 15) :: S) (HH mi ml) := e_getf rfl rfl
theorem p_591_61 {v : Int32} : ev E M (.putfield 591 :: c) L (.int v :: .ref 61 :: S) (HH mi ml) = ev E M c L S (HH (am_up mi 61 15 v) ml) := e_putf rfl rfl
theorem g_592_61 : ev E M (.getfield 592 :: c) L (.ref 61 :: S) (HH mi ml) = ev E M c L (.ref 73 :: S) (HH mi ml) := e_getR rfl rfl (am_MRt (by decide +kernel))
theorem g_593_61 : ev E M (.getfield 593 :: c) L (.ref 61 :: S) (HH mi ml) = ev E M c L (.ref 74 :: S) (HH mi ml) := e_getR rfl rfl (am_MRt (by decide +kernel))
theorem g_594_61 : ev E M (.getfield 594 :: c) L (.ref 61 :: S) (HH mi ml) = ev E M c L (.int (mi 61 18) :: S) (HH mi ml) := e_getf rfl rfl
theorem p_594_61 {v : Int32} : ev E M (.putfield 594 :: c) L (.int v :: .ref 61 :: S) (HH mi ml) = ev E M c L S (HH (am_up mi 61 18 v) ml) := e_putf rfl rfl
theorem g_595_61 : ev E M (.getfield 595 :: c) L (.ref 61 :: S) (HH mi ml) = ev E M c L (.long (ml 61 19) :: S) (HH mi ml) := e_getf rfl rfl
theorem p_595_61 {v : Int64} : ev E M (.putfield 595 :: c) L (.long v :: .ref 61 :: S) (HH mi ml) = ev E M c L S (HH mi (am_up ml 61 19 v)) := e_putf rfl rfl
theorem g_596_61 : ev E M (.getfield 596 :: c) L (.ref 61 :: S) (HH mi ml) = ev E M c L (.long (ml 61 20) :: S) (HH mi ml) := e_getf rfl rfl
theorem p_596_61 {v : Int64} : ev E M (.putfield 596 :: c) L (.long v :: .ref 61 :: S) (HH mi ml) = ev E M c L S (HH mi (am_up ml 61 20 v)) := e_putf rfl rfl
theorem g_597_61 : ev E M (.getfield 597 :: c) L (.ref 61 :: S) (HH mi ml) = ev E M c L (.ref 75 :: S) (HH mi ml) := e_getR rfl rfl (am_MRt (by decide +kernel))
theorem g_598_61 : ev E M (.getfield 598 :: c) L (.ref 61 :: S) (HH mi ml) = ev E M c L (.int (mi 61 22) :: S) (HH mi ml) := e_getf rfl rfl
theorem p_598_61 {v : Int32} (hv : v = 0 ∨ v = 1) : ev E M (.putfield 598 :: c) L (.int v :: .ref 61 :: S) (HH mi ml) = ev E M c L S (HH (am_up mi 61 22 v) ml) := e_putf rfl (by show (if v = 0 ∨ v = 1 then _ else none) = _; rw [if_pos hv]; rfl)
theorem g_599_61 : ev E M (.getfield 599 :: c) L (.ref 61 :: S) (HH mi ml) = ev E M c L (.long (ml 61 23) :: S) (HH mi ml) := e_getf rfl rfl
theorem p_599_61 {v : Int64} : ev E M (.putfield 599 :: c) L (.long v :: .ref 61 :: S) (HH mi ml) = ev E M c L S (HH mi (am_up ml 61 23 v)) := e_putf rfl rfl
theorem g_600_61 : ev E M (.getfield 600 :: c) L (.ref 61 :: S) (HH mi ml) = ev E M c L (.long (ml 61 24) :: S) (HH mi ml) := e_getf rfl rfl
theorem p_600_61 {v : Int64} : ev E M (.putfield 600 :: c) L (.long v :: .ref 61 :: S) (HH mi ml) = ev E M c L S (HH mi (am_up ml 61 24 v)) := e_putf rfl rfl
theorem g_601_61 : ev E M (.getfield 601 :: c) L (.ref 61 :: S) (HH mi ml) = ev E M c L (.int (mi 61 25) :: S) (HH mi ml) := e_getf rfl rfl
theorem p_601_61 {v : Int32} : ev E M (.putfield 601 :: c) L (.int v :: .ref 61 :: S) (HH mi ml) = ev E M c L S (HH (am_up mi 61 25 v) ml) := e_putf rfl rfl
theorem g_602_61 : ev E M (.getfield 602 :: c) L (.ref 61 :: S) (HH mi ml) = ev E M c L (.int (mi 61 26) :: S) (HH mi ml) := e_getf rfl rfl
theorem p_602_61 {v : Int32} : ev E M (.putfield 602 :: c) L (.int v :: .ref 61 :: S) (HH mi ml) = ev E M c L S (HH (am_up mi 61 26 v) ml) := e_putf rfl rfl
theorem g_603_61 : ev E M (.getfield 603 :: c) L (.ref 61 :: S) (HH mi ml) = ev E M c L (.long (ml 61 27) :: S) (HH mi ml) := e_getf rfl rfl
theorem p_603_61 {v : Int64} : ev E M (.putfield 603 :: c) L (.long v :: .ref 61 :: S) (HH mi ml) = ev E M c L S (HH mi (am_up ml 61 27 v)) := e_putf rfl rfl
theorem g_604_61 : ev E M (.getfield 604 :: c) L (.ref 61 :: S) (HH mi ml) = ev E M c L (.long (ml 61 28) :: S) (HH mi ml) := e_getf rfl rfl
theorem p_604_61 {v : Int64} : ev E M (.putfield 604 :: c) L (.long v :: .ref 61 :: S) (HH mi ml) = ev E M c L S (HH mi (am_up ml 61 28 v)) := e_putf rfl rfl
theorem g_605_61 : ev E M (.getfield 605 :: c) L (.ref 61 :: S) (HH mi ml) = ev E M c L (.ref 76 :: S) (HH mi ml) := e_getR rfl rfl (am_MRt (by decide +kernel))
theorem g_606_61 : ev E M (.getfield 606 :: c) L (.ref 61 :: S) (HH mi ml) = ev E M c L (.ref 77 :: S) (HH mi ml) := e_getR rfl rfl (am_MRt (by decide +kernel))
theorem g_607_61 : ev E M (.getfield 607 :: c) L (.ref 61 :: S) (HH mi ml) = ev E M c L (.long (ml 61 31) :: S) (HH mi ml) := e_getf rfl rfl
theorem p_607_61 {v : Int64} : ev E M (.putfield 607 :: c) L (.long v :: .ref 61 :: S) (HH mi ml) = ev E M c L S (HH mi (am_up ml 61 31 v)) := e_putf rfl rfl
theorem g_608_61 : ev E M (.getfield 608 :: c) L (.ref 61 :: S) (HH mi ml) = ev E M c L (.long (ml 61 32) :: S) (HH mi ml) := e_getf rfl rfl
theorem p_608_61 {v : Int64} : ev E M (.putfield 608 :: c) L (.long v :: .ref 61 :: S) (HH mi ml) = ev E M c L S (HH mi (am_up ml 61 32 v)) := e_putf rfl rfl
theorem g_609_61 : ev E M (.getfield 609 :: c) L (.ref 61 :: S) (HH mi ml) = ev E M c L (.int (mi 61 33) :: S) (HH mi ml) := e_getf rfl rfl
theorem p_609_61 {v : Int32} : ev E M (.putfield 609 :: c) L (.int v :: .ref 61 :: S) (HH mi ml) = ev E M c L S (HH (am_up mi 61 33 v) ml) := e_putf rfl rfl
theorem g_610_61 : ev E M (.getfield 610 :: c) L (.ref 61 :: S) (HH mi ml) = ev E M c L (.long (ml 61 34) :: S) (HH mi ml) := e_getf rfl rfl
theorem p_610_61 {v : Int64} : ev E M (.putfield 610 :: c) L (.long v :: .ref 61 :: S) (HH mi ml) = ev E M c L S (HH mi (am_up ml 61 34 v)) := e_putf rfl rfl
theorem g_611_61 : ev E M (.getfield 611 :: c) L (.ref 61 :: S) (HH mi ml) = ev E M c L (.long (ml 61 35) :: S) (HH mi ml) := e_getf rfl rfl
theorem p_611_61 {v : Int64} : ev E M (.putfield 611 :: c) L (.long v :: .ref 61 :: S) (HH mi ml) = ev E M c L S (HH mi (am_up ml 61 35 v)) := e_putf rfl rfl
theorem il_2 {j : Nat} (hj : j < 5) : ev E M (.iaload :: c) L (.int (nI j) :: .ref 2 :: S) (HH mi ml) = ev E M c L (.int (mi 2 j) :: S) (HH mi ml) := by
  rw [e_iald (n := 5) rfl (am_nI_in hj (by decide)), nI_clamp (by omega)]; rfl
theorem is_2 {j : Nat} {v : Int32} (hj : j < 5) : ev E M (.iastore :: c) L (.int v :: .int (nI j) :: .ref 2 :: S) (HH mi ml) = ev E M c L S (HH (am_up mi 2 j v) ml) := by
  rw [e_iast (n := 5) rfl (am_nI_in hj (by decide)), nI_clamp (by omega)]; rfl
theorem il_3 {j : Nat} (hj : j < 5) : ev E M (.aaload :: c) L (.int (nI j) :: .ref 3 :: S) (HH mi ml) = ev E M c L (.ref (6 + j) :: S) (HH mi ml) := by
  rw [e_aald (t := 3) (n := 5) rfl (by decide) (by decide) (am_nI_in hj (by decide)), nI_clamp (by omega), am_HHr]
  have hm : am_MR 3 j = some (6 + j) := by rcases (show j = 0 ∨ j = 1 ∨ j = 2 ∨ j = 3 ∨ j = 4 by omega) with rfl | rfl | rfl | rfl | rfl <;> exact am_MRt (by decide +kernel)
  rw [hm]
  rfl
theorem il_4 {j : Nat} (hj : j < 5) : ev E M (.aaload :: c) L (.int (nI j) :: .ref 4 :: S) (HH mi ml) = ev E M c L (.ref (11 + 3 * j) :: S) (HH mi ml) := by
  rw [e_aald (t := 4) (n := 5) rfl (by decide) (by decide) (am_nI_in hj (by decide)), nI_clamp (by omega), am_HHr]
  have hm : am_MR 4 j = some (11 + 3 * j) := by rcases (show j = 0 ∨ j = 1 ∨ j = 2 ∨ j = 3 ∨ j = 4 by omega) with rfl | rfl | rfl | rfl | rfl <;> exact am_MRt (by decide +kernel)
  rw [hm]
  rfl
theorem il_5 {j : Nat} (hj : j < 5) : ev E M (.iaload :: c) L (.int (nI j) :: .ref 5 :: S) (HH mi ml) = ev E M c L (.int (mi 5 j) :: S) (HH mi ml) := by
  rw [e_iald (n := 5) rfl (am_nI_in hj (by decide)), nI_clamp (by omega)]; rfl
theorem is_5 {j : Nat} {v : Int32} (hj : j < 5) : ev E M (.iastore :: c) L (.int v :: .int (nI j) :: .ref 5 :: S) (HH mi ml) = ev E M c L S (HH (am_up mi 5 j v) ml) := by
  rw [e_iast (n := 5) rfl (am_nI_in hj (by decide)), nI_clamp (by omega)]; rfl
theorem il_12 {j : Nat} (hj : j < 24) : ev E M (.iaload :: c) L (.int (nI j) :: .ref 12 :: S) (HH mi ml) = ev E M c L (.int (mi 12 j) :: S) (HH mi ml) := by
  rw [e_iald (n := 24) rfl (am_nI_in hj (by decide)), nI_clamp (by omega)]; rfl
theorem is_12 {j : Nat} {v : Int32} (hj : j < 24) : ev E M (.iastore :: c) L (.int v :: .int (nI j) :: .ref 12 :: S) (HH mi ml) = ev E M c L S (HH (am_up mi 12 j v) ml) := by
  rw [e_iast (n := 24) rfl (am_nI_in hj (by decide)), nI_clamp (by omega)]; rfl
theorem il_13 {j : Nat} (hj : j < 24) : ev E M (.iaload :: c) L (.int (nI j) :: .ref 13 :: S) (HH mi ml) = ev E M c L (.int (mi 13 j) :: S) (HH mi ml) := by
  rw [e_iald (n := 24) rfl (am_nI_in hj (by decide)), nI_clamp (by omega)]; rfl
theorem is_13 {j : Nat} {v : Int32} (hj : j < 24) : ev E M (.iastore :: c) L (.int v :: .int (nI j) :: .ref 13 :: S) (HH mi ml) = ev E M c L S (HH (am_up mi 13 j v) ml) := by
  rw [e_iast (n := 24) rfl (am_nI_in hj (by decide)), nI_clamp (by omega)]; rfl
theorem il_15 {j : Nat} (hj : j < 24) : ev E M (.iaload :: c) L (.int (nI j) :: .ref 15 :: S) (HH mi ml) = ev E M c L (.int (mi 15 j) :: S) (HH mi ml) := by
  rw [e_iald (n := 24) rfl (am_nI_in hj (by decide)), nI_clamp (by omega)]; rfl
theorem is_15 {j : Nat} {v : Int32} (hj : j < 24) : ev E M (.iastore :: c) L (.int v :: .int (nI j) :: .ref 15 :: S) (HH mi ml) = ev E M c L S (HH (am_up mi 15 j v) ml) := by
  rw [e_iast (n := 24) rfl (am_nI_in hj (by decide)), nI_clamp (by omega)]; rfl
theorem il_16 {j : Nat} (hj : j < 24) : ev E M (.iaload :: c) L (.int (nI j) :: .ref 16 :: S) (HH mi ml) = ev E M c L (.int (mi 16 j) :: S) (HH mi ml) := by
  rw [e_iald (n := 24) rfl (am_nI_in hj (by decide)), nI_clamp (by omega)]; rfl
theorem is_16 {j : Nat} {v : Int32} (hj : j < 24) : ev E M (.iastore :: c) L (.int v :: .int (nI j) :: .ref 16 :: S) (HH mi ml) = ev E M c L S (HH (am_up mi 16 j v) ml) := by
  rw [e_iast (n := 24) rfl (am_nI_in hj (by decide)), nI_clamp (by omega)]; rfl
theorem il_18 {j : Nat} (hj : j < 24) : ev E M (.iaload :: c) L (.int (nI j) :: .ref 18 :: S) (HH mi ml) = ev E M c L (.int (mi 18 j) :: S) (HH mi ml) := by
  rw [e_iald (n := 24) rfl (am_nI_in hj (by decide)), nI_clamp (by omega)]; rfl
theorem is_18 {j : Nat} {v : Int32} (hj : j < 24) : ev E M (.iastore :: c) L (.int v :: .int (nI j) :: .ref 18 :: S) (HH mi ml) = ev E M c L S (HH (am_up mi 18 j v) ml) := by
  rw [e_iast (n := 24) rfl (am_nI_in hj (by decide)), nI_clamp (by omega)]; rfl
theorem il_19 {j : Nat} (hj : j < 24) : ev E M (.iaload :: c) L (.int (nI j) :: .ref 19 :: S) (HH mi ml) = ev E M c L (.int (mi 19 j) :: S) (HH mi ml) := by
  rw [e_iald (n := 24) rfl (am_nI_in hj (by decide)), nI_clamp (by omega)]; rfl
theorem is_19 {j : Nat} {v : Int32} (hj : j < 24) : ev E M (.iastore :: c) L (.int v :: .int (nI j) :: .ref 19 :: S) (HH mi ml) = ev E M c L S (HH (am_up mi 19 j v) ml) := by
  rw [e_iast (n := 24) rfl (am_nI_in hj (by decide)), nI_clamp (by omega)]; rfl
theorem il_21 {j : Nat} (hj : j < 24) : ev E M (.iaload :: c) L (.int (nI j) :: .ref 21 :: S) (HH mi ml) = ev E M c L (.int (mi 21 j) :: S) (HH mi ml) := by
  rw [e_iald (n := 24) rfl (am_nI_in hj (by decide)), nI_clamp (by omega)]; rfl
theorem is_21 {j : Nat} {v : Int32} (hj : j < 24) : ev E M (.iastore :: c) L (.int v :: .int (nI j) :: .ref 21 :: S) (HH mi ml) = ev E M c L S (HH (am_up mi 21 j v) ml) := by
  rw [e_iast (n := 24) rfl (am_nI_in hj (by decide)), nI_clamp (by omega)]; rfl
theorem il_22 {j : Nat} (hj : j < 24) : ev E M (.iaload :: c) L (.int (nI j) :: .ref 22 :: S) (HH mi ml) = ev E M c L (.int (mi 22 j) :: S) (HH mi ml) := by
  rw [e_iald (n := 24) rfl (am_nI_in hj (by decide)), nI_clamp (by omega)]; rfl
theorem is_22 {j : Nat} {v : Int32} (hj : j < 24) : ev E M (.iastore :: c) L (.int v :: .int (nI j) :: .ref 22 :: S) (HH mi ml) = ev E M c L S (HH (am_up mi 22 j v) ml) := by
  rw [e_iast (n := 24) rfl (am_nI_in hj (by decide)), nI_clamp (by omega)]; rfl
theorem il_24 {j : Nat} (hj : j < 24) : ev E M (.iaload :: c) L (.int (nI j) :: .ref 24 :: S) (HH mi ml) = ev E M c L (.int (mi 24 j) :: S) (HH mi ml) := by
  rw [e_iald (n := 24) rfl (am_nI_in hj (by decide)), nI_clamp (by omega)]; rfl
theorem is_24 {j : Nat} {v : Int32} (hj : j < 24) : ev E M (.iastore :: c) L (.int v :: .int (nI j) :: .ref 24 :: S) (HH mi ml) = ev E M c L S (HH (am_up mi 24 j v) ml) := by
  rw [e_iast (n := 24) rfl (am_nI_in hj (by decide)), nI_clamp (by omega)]; rfl
theorem il_25 {j : Nat} (hj : j < 24) : ev E M (.iaload :: c) L (.int (nI j) :: .ref 25 :: S) (HH mi ml) = ev E M c L (.int (mi 25 j) :: S) (HH mi ml) := by
  rw [e_iald (n := 24) rfl (am_nI_in hj (by decide)), nI_clamp (by omega)]; rfl
theorem is_25 {j : Nat} {v : Int32} (hj : j < 24) : ev E M (.iastore :: c) L (.int v :: .int (nI j) :: .ref 25 :: S) (HH mi ml) = ev E M c L S (HH (am_up mi 25 j v) ml) := by
  rw [e_iast (n := 24) rfl (am_nI_in hj (by decide)), nI_clamp (by omega)]; rfl
theorem il_29 {j : Nat} (hj : j < 2) : ev E M (.aaload :: c) L (.int (nI j) :: .ref 29 :: S) (HH mi ml) = ev E M c L (.ref (45 + 3 * j) :: S) (HH mi ml) := by
  rw [e_aald (t := 5) (n := 2) rfl (by decide) (by decide) (am_nI_in hj (by decide)), nI_clamp (by omega), am_HHr]
  have hm : am_MR 29 j = some (45 + 3 * j) := by rcases (show j = 0 ∨ j = 1 by omega) with rfl | rfl <;> exact am_MRt (by decide +kernel)
  rw [hm]
  rfl
theorem il_33 {j : Nat} (hj : j < 5) : ev E M (.iaload :: c) L (.int (nI j) :: .ref 33 :: S) (HH mi ml) = ev E M c L (.int (mi 33 j) :: S) (HH mi ml) := by
  rw [e_iald (n := 5) rfl (am_nI_in hj (by decide)), nI_clamp (by omega)]; rfl
theorem is_33 {j : Nat} {v : Int32} (hj : j < 5) : ev E M (.iastore :: c) L (.int v :: .int (nI j) :: .ref 33 :: S) (HH mi ml) = ev E M c L S (HH (am_up mi 33 j v) ml) := by
  rw [e_iast (n := 5) rfl (am_nI_in hj (by decide)), nI_clamp (by omega)]; rfl
theorem il_35 {j : Nat} (hj : j < 5) : ev E M (.iaload :: c) L (.int (nI j) :: .ref 35 :: S) (HH mi ml) = ev E M c L (.int (mi 35 j) :: S) (HH mi ml) := by
  rw [e_iald (n := 5) rfl (am_nI_in hj (by decide)), nI_clamp (by omega)]; rfl
theorem is_35 {j : Nat} {v : Int32} (hj : j < 5) : ev E M (.iastore :: c) L (.int v :: .int (nI j) :: .ref 35 :: S) (HH mi ml) = ev E M c L S (HH (am_up mi 35 j v) ml) := by
  rw [e_iast (n := 5) rfl (am_nI_in hj (by decide)), nI_clamp (by omega)]; rfl
theorem il_36 {j : Nat} (hj : j < 5) : ev E M (.iaload :: c) L (.int (nI j) :: .ref 36 :: S) (HH mi ml) = ev E M c L (.int (mi 36 j) :: S) (HH mi ml) := by
  rw [e_iald (n := 5) rfl (am_nI_in hj (by decide)), nI_clamp (by omega)]; rfl
theorem is_36 {j : Nat} {v : Int32} (hj : j < 5) : ev E M (.iastore :: c) L (.int v :: .int (nI j) :: .ref 36 :: S) (HH mi ml) = ev E M c L S (HH (am_up mi 36 j v) ml) := by
  rw [e_iast (n := 5) rfl (am_nI_in hj (by decide)), nI_clamp (by omega)]; rfl
theorem il_37 {j : Nat} (hj : j < 5) : ev E M (.baload :: c) L (.int (nI j) :: .ref 37 :: S) (HH mi ml) = ev E M c L (.int (mi 37 j) :: S) (HH mi ml) := by
  rw [e_bald (n := 5) rfl (am_nI_in hj (by decide)), nI_clamp (by omega)]; rfl
theorem is_37 {j : Nat} {v : Int32} (hj : j < 5) (hv : v = 0 ∨ v = 1) : ev E M (.bastore :: c) L (.int v :: .int (nI j) :: .ref 37 :: S) (HH mi ml) = ev E M c L S (HH (am_up mi 37 j v) ml) := by
  rw [e_bast (n := 5) rfl (am_nI_in hj (by decide)) hv, nI_clamp (by omega)]; rfl
theorem il_38 {j : Nat} (hj : j < 5) : ev E M (.laload :: c) L (.int (nI j) :: .ref 38 :: S) (HH mi ml) = ev E M c L (.long (ml 38 j) :: S) (HH mi ml) := by
  rw [e_lald (n := 5) rfl (am_nI_in hj (by decide)), nI_clamp (by omega)]; rfl
theorem is_38 {j : Nat} {v : Int64} (hj : j < 5) : ev E M (.lastore :: c) L (.long v :: .int (nI j) :: .ref 38 :: S) (HH mi ml) = ev E M c L S (HH mi (am_up ml 38 j v)) := by
  rw [e_last (n := 5) rfl (am_nI_in hj (by decide)), nI_clamp (by omega)]; rfl
theorem il_39 {j : Nat} (hj : j < 5) : ev E M (.laload :: c) L (.int (nI j) :: .ref 39 :: S) (HH mi ml) = ev E M c L (.long (ml 39 j) :: S) (HH mi ml) := by
  rw [e_lald (n := 5) rfl (am_nI_in hj (by decide)), nI_clamp (by omega)]; rfl
theorem is_39 {j : Nat} {v : Int64} (hj : j < 5) : ev E M (.lastore :: c) L (.long v :: .int (nI j) :: .ref 39 :: S) (HH mi ml) = ev E M c L S (HH mi (am_up ml 39 j v)) := by
  rw [e_last (n := 5) rfl (am_nI_in hj (by decide)), nI_clamp (by omega)]; rfl
theorem il_40 {j : Nat} (hj : j < 5) : ev E M (.baload :: c) L (.int (nI j) :: .ref 40 :: S) (HH mi ml) = ev E M c L (.int (mi 40 j) :: S) (HH mi ml) := by
  rw [e_bald (n := 5) rfl (am_nI_in hj (by decide)), nI_clamp (by omega)]; rfl
theorem is_40 {j : Nat} {v : Int32} (hj : j < 5) (hv : v = 0 ∨ v = 1) : ev E M (.bastore :: c) L (.int v :: .int (nI j) :: .ref 40 :: S) (HH mi ml) = ev E M c L S (HH (am_up mi 40 j v) ml) := by
  rw [e_bast (n := 5) rfl (am_nI_in hj (by decide)) hv, nI_clamp (by omega)]; rfl
theorem il_41 {j : Nat} (hj : j < 5) : ev E M (.iaload :: c) L (.int (nI j) :: .ref 41 :: S) (HH mi ml) = ev E M c L (.int (mi 41 j) :: S) (HH mi ml) := by
  rw [e_iald (n := 5) rfl (am_nI_in hj (by decide)), nI_clamp (by omega)]; rfl
theorem is_41 {j : Nat} {v : Int32} (hj : j < 5) : ev E M (.iastore :: c) L (.int v :: .int (nI j) :: .ref 41 :: S) (HH mi ml) = ev E M c L S (HH (am_up mi 41 j v) ml) := by
  rw [e_iast (n := 5) rfl (am_nI_in hj (by decide)), nI_clamp (by omega)]; rfl
theorem il_42 {j : Nat} (hj : j < 5) : ev E M (.iaload :: c) L (.int (nI j) :: .ref 42 :: S) (HH mi ml) = ev E M c L (.int (mi 42 j) :: S) (HH mi ml) := by
  rw [e_iald (n := 5) rfl (am_nI_in hj (by decide)), nI_clamp (by omega)]; rfl
theorem is_42 {j : Nat} {v : Int32} (hj : j < 5) : ev E M (.iastore :: c) L (.int v :: .int (nI j) :: .ref 42 :: S) (HH mi ml) = ev E M c L S (HH (am_up mi 42 j v) ml) := by
  rw [e_iast (n := 5) rfl (am_nI_in hj (by decide)), nI_clamp (by omega)]; rfl
theorem il_47 {j : Nat} (hj : j < 5) : ev E M (.iaload :: c) L (.int (nI j) :: .ref 47 :: S) (HH mi ml) = ev E M c L (.int (mi 47 j) :: S) (HH mi ml) := by
  rw [e_iald (n := 5) rfl (am_nI_in hj (by decide)), nI_clamp (by omega)]; rfl
theorem is_47 {j : Nat} {v : Int32} (hj : j < 5) : ev E M (.iastore :: c) L (.int v :: .int (nI j) :: .ref 47 :: S) (HH mi ml) = ev E M c L S (HH (am_up mi 47 j v) ml) := by
  rw [e_iast (n := 5) rfl (am_nI_in hj (by decide)), nI_clamp (by omega)]; rfl
theorem il_50 {j : Nat} (hj : j < 5) : ev E M (.iaload :: c) L (.int (nI j) :: .ref 50 :: S) (HH mi ml) = ev E M c L (.int (mi 50 j) :: S) (HH mi ml) := by
  rw [e_iald (n := 5) rfl (am_nI_in hj (by decide)), nI_clamp (by omega)]; rfl
theorem is_50 {j : Nat} {v : Int32} (hj : j < 5) : ev E M (.iastore :: c) L (.int v :: .int (nI j) :: .ref 50 :: S) (HH mi ml) = ev E M c L S (HH (am_up mi 50 j v) ml) := by
  rw [e_iast (n := 5) rfl (am_nI_in hj (by decide)), nI_clamp (by omega)]; rfl
theorem il_51 {j : Nat} (hj : j < 4) : ev E M (.aaload :: c) L (.int (nI j) :: .ref 51 :: S) (HH mi ml) = ev E M c L (.ref (52 + 2 * j) :: S) (HH mi ml) := by
  rw [e_aald (t := 6) (n := 4) rfl (by decide) (by decide) (am_nI_in hj (by decide)), nI_clamp (by omega), am_HHr]
  have hm : am_MR 51 j = some (52 + 2 * j) := by rcases (show j = 0 ∨ j = 1 ∨ j = 2 ∨ j = 3 by omega) with rfl | rfl | rfl | rfl <;> exact am_MRt (by decide +kernel)
  rw [hm]
  rfl
theorem il_53 {j : Nat} (hj : j < 60) : ev E M (.iaload :: c) L (.int (nI j) :: .ref 53 :: S) (HH mi ml) = ev E M c L (.int (mi 53 j) :: S) (HH mi ml) := by
  rw [e_iald (n := 60) rfl (am_nI_in hj (by decide)), nI_clamp (by omega)]; rfl
theorem is_53 {j : Nat} {v : Int32} (hj : j < 60) : ev E M (.iastore :: c) L (.int v :: .int (nI j) :: .ref 53 :: S) (HH mi ml) = ev E M c L S (HH (am_up mi 53 j v) ml) := by
  rw [e_iast (n := 60) rfl (am_nI_in hj (by decide)), nI_clamp (by omega)]; rfl
theorem il_55 {j : Nat} (hj : j < 60) : ev E M (.iaload :: c) L (.int (nI j) :: .ref 55 :: S) (HH mi ml) = ev E M c L (.int (mi 55 j) :: S) (HH mi ml) := by
  rw [e_iald (n := 60) rfl (am_nI_in hj (by decide)), nI_clamp (by omega)]; rfl
theorem is_55 {j : Nat} {v : Int32} (hj : j < 60) : ev E M (.iastore :: c) L (.int v :: .int (nI j) :: .ref 55 :: S) (HH mi ml) = ev E M c L S (HH (am_up mi 55 j v) ml) := by
  rw [e_iast (n := 60) rfl (am_nI_in hj (by decide)), nI_clamp (by omega)]; rfl
theorem il_57 {j : Nat} (hj : j < 60) : ev E M (.iaload :: c) L (.int (nI j) :: .ref 57 :: S) (HH mi ml) = ev E M c L (.int (mi 57 j) :: S) (HH mi ml) := by
  rw [e_iald (n := 60) rfl (am_nI_in hj (by decide)), nI_clamp (by omega)]; rfl
theorem is_57 {j : Nat} {v : Int32} (hj : j < 60) : ev E M (.iastore :: c) L (.int v :: .int (nI j) :: .ref 57 :: S) (HH mi ml) = ev E M c L S (HH (am_up mi 57 j v) ml) := by
  rw [e_iast (n := 60) rfl (am_nI_in hj (by decide)), nI_clamp (by omega)]; rfl
theorem il_59 {j : Nat} (hj : j < 60) : ev E M (.iaload :: c) L (.int (nI j) :: .ref 59 :: S) (HH mi ml) = ev E M c L (.int (mi 59 j) :: S) (HH mi ml) := by
  rw [e_iald (n := 60) rfl (am_nI_in hj (by decide)), nI_clamp (by omega)]; rfl
theorem is_59 {j : Nat} {v : Int32} (hj : j < 60) : ev E M (.iastore :: c) L (.int v :: .int (nI j) :: .ref 59 :: S) (HH mi ml) = ev E M c L S (HH (am_up mi 59 j v) ml) := by
  rw [e_iast (n := 60) rfl (am_nI_in hj (by decide)), nI_clamp (by omega)]; rfl
theorem il_62 {j : Nat} (hj : j < 5) : ev E M (.iaload :: c) L (.int (nI j) :: .ref 62 :: S) (HH mi ml) = ev E M c L (.int (mi 62 j) :: S) (HH mi ml) := by
  rw [e_iald (n := 5) rfl (am_nI_in hj (by decide)), nI_clamp (by omega)]; rfl
theorem is_62 {j : Nat} {v : Int32} (hj : j < 5) : ev E M (.iastore :: c) L (.int v :: .int (nI j) :: .ref 62 :: S) (HH mi ml) = ev E M c L S (HH (am_up mi 62 j v) ml) := by
  rw [e_iast (n := 5) rfl (am_nI_in hj (by decide)), nI_clamp (by omega)]; rfl
theorem il_63 {j : Nat} (hj : j < 5) : ev E M (.iaload :: c) L (.int (nI j) :: .ref 63 :: S) (HH mi ml) = ev E M c L (.int (mi 63 j) :: S) (HH mi ml) := by
  rw [e_iald (n := 5) rfl (am_nI_in hj (by decide)), nI_clamp (by omega)]; rfl
theorem is_63 {j : Nat} {v : Int32} (hj : j < 5) : ev E M (.iastore :: c) L (.int v :: .int (nI j) :: .ref 63 :: S) (HH mi ml) = ev E M c L S (HH (am_up mi 63 j v) ml) := by
  rw [e_iast (n := 5) rfl (am_nI_in hj (by decide)), nI_clamp (by omega)]; rfl
theorem il_64 {j : Nat} (hj : j < 6) : ev E M (.iaload :: c) L (.int (nI j) :: .ref 64 :: S) (HH mi ml) = ev E M c L (.int (mi 64 j) :: S) (HH mi ml) := by
  rw [e_iald (n := 6) rfl (am_nI_in hj (by decide)), nI_clamp (by omega)]; rfl
theorem is_64 {j : Nat} {v : Int32} (hj : j < 6) : ev E M (.iastore :: c) L (.int v :: .int (nI j) :: .ref 64 :: S) (HH mi ml) = ev E M c L S (HH (am_up mi 64 j v) ml) := by
  rw [e_iast (n := 6) rfl (am_nI_in hj (by decide)), nI_clamp (by omega)]; rfl
theorem il_65 {j : Nat} (hj : j < 5) : ev E M (.baload :: c) L (.int (nI j) :: .ref 65 :: S) (HH mi ml) = ev E M c L (.int (mi 65 j) :: S) (HH mi ml) := by
  rw [e_bald (n := 5) rfl (am_nI_in hj (by decide)), nI_clamp (by omega)]; rfl
theorem is_65 {j : Nat} {v : Int32} (hj : j < 5) (hv : v = 0 ∨ v = 1) : ev E M (.bastore :: c) L (.int v :: .int (nI j) :: .ref 65 :: S) (HH mi ml) = ev E M c L S (HH (am_up mi 65 j v) ml) := by
  rw [e_bast (n := 5) rfl (am_nI_in hj (by decide)) hv, nI_clamp (by omega)]; rfl
theorem il_66 {j : Nat} (hj : j < 5) : ev E M (.iaload :: c) L (.int (nI j) :: .ref 66 :: S) (HH mi ml) = ev E M c L (.int (mi 66 j) :: S) (HH mi ml) := by
  rw [e_iald (n := 5) rfl (am_nI_in hj (by decide)), nI_clamp (by omega)]; rfl
theorem is_66 {j : Nat} {v : Int32} (hj : j < 5) : ev E M (.iastore :: c) L (.int v :: .int (nI j) :: .ref 66 :: S) (HH mi ml) = ev E M c L S (HH (am_up mi 66 j v) ml) := by
  rw [e_iast (n := 5) rfl (am_nI_in hj (by decide)), nI_clamp (by omega)]; rfl
theorem il_67 {j : Nat} (hj : j < 120) : ev E M (.iaload :: c) L (.int (nI j) :: .ref 67 :: S) (HH mi ml) = ev E M c L (.int (mi 67 j) :: S) (HH mi ml) := by
  rw [e_iald (n := 120) rfl (am_nI_in hj (by decide)), nI_clamp (by omega)]; rfl
theorem is_67 {j : Nat} {v : Int32} (hj : j < 120) : ev E M (.iastore :: c) L (.int v :: .int (nI j) :: .ref 67 :: S) (HH mi ml) = ev E M c L S (HH (am_up mi 67 j v) ml) := by
  rw [e_iast (n := 120) rfl (am_nI_in hj (by decide)), nI_clamp (by omega)]; rfl
theorem il_68 {j : Nat} (hj : j < 120) : ev E M (.iaload :: c) L (.int (nI j) :: .ref 68 :: S) (HH mi ml) = ev E M c L (.int (mi 68 j) :: S) (HH mi ml) := by
  rw [e_iald (n := 120) rfl (am_nI_in hj (by decide)), nI_clamp (by omega)]; rfl
theorem is_68 {j : Nat} {v : Int32} (hj : j < 120) : ev E M (.iastore :: c) L (.int v :: .int (nI j) :: .ref 68 :: S) (HH mi ml) = ev E M c L S (HH (am_up mi 68 j v) ml) := by
  rw [e_iast (n := 120) rfl (am_nI_in hj (by decide)), nI_clamp (by omega)]; rfl
theorem il_69 {j : Nat} (hj : j < 5) : ev E M (.iaload :: c) L (.int (nI j) :: .ref 69 :: S) (HH mi ml) = ev E M c L (.int (mi 69 j) :: S) (HH mi ml) := by
  rw [e_iald (n := 5) rfl (am_nI_in hj (by decide)), nI_clamp (by omega)]; rfl
theorem is_69 {j : Nat} {v : Int32} (hj : j < 5) : ev E M (.iastore :: c) L (.int v :: .int (nI j) :: .ref 69 :: S) (HH mi ml) = ev E M c L S (HH (am_up mi 69 j v) ml) := by
  rw [e_iast (n := 5) rfl (am_nI_in hj (by decide)), nI_clamp (by omega)]; rfl
theorem il_70 {j : Nat} (hj : j < 4) : ev E M (.iaload :: c) L (.int (nI j) :: .ref 70 :: S) (HH mi ml) = ev E M c L (.int (mi 70 j) :: S) (HH mi ml) := by
  rw [e_iald (n := 4) rfl (am_nI_in hj (by decide)), nI_clamp (by omega)]; rfl
theorem is_70 {j : Nat} {v : Int32} (hj : j < 4) : ev E M (.iastore :: c) L (.int v :: .int (nI j) :: .ref 70 :: S) (HH mi ml) = ev E M c L S (HH (am_up mi 70 j v) ml) := by
  rw [e_iast (n := 4) rfl (am_nI_in hj (by decide)), nI_clamp (by omega)]; rfl
theorem il_71 {j : Nat} (hj : j < 4) : ev E M (.iaload :: c) L (.int (nI j) :: .ref 71 :: S) (HH mi ml) = ev E M c L (.int (mi 71 j) :: S) (HH mi ml) := by
  rw [e_iald (n := 4) rfl (am_nI_in hj (by decide)), nI_clamp (by omega)]; rfl
theorem is_71 {j : Nat} {v : Int32} (hj : j < 4) : ev E M (.iastore :: c) L (.int v :: .int (nI j) :: .ref 71 :: S) (HH mi ml) = ev E M c L S (HH (am_up mi 71 j v) ml) := by
  rw [e_iast (n := 4) rfl (am_nI_in hj (by decide)), nI_clamp (by omega)]; rfl
theorem il_72 {j : Nat} (hj : j < 240) : ev E M (.iaload :: c) L (.int (nI j) :: .ref 72 :: S) (HH mi ml) = ev E M c L (.int (mi 72 j) :: S) (HH mi ml) := by
  rw [e_iald (n := 240) rfl (am_nI_in hj (by decide)), nI_clamp (by omega)]; rfl
theorem is_72 {j : Nat} {v : Int32} (hj : j < 240) : ev E M (.iastore :: c) L (.int v :: .int (nI j) :: .ref 72 :: S) (HH mi ml) = ev E M c L S (HH (am_up mi 72 j v) ml) := by
  rw [e_iast (n := 240) rfl (am_nI_in hj (by decide)), nI_clamp (by omega)]; rfl
theorem il_73 {j : Nat} (hj : j < 5) : ev E M (.iaload :: c) L (.int (nI j) :: .ref 73 :: S) (HH mi ml) = ev E M c L (.int (mi 73 j) :: S) (HH mi ml) := by
  rw [e_iald (n := 5) rfl (am_nI_in hj (by decide)), nI_clamp (by omega)]; rfl
theorem is_73 {j : Nat} {v : Int32} (hj : j < 5) : ev E M (.iastore :: c) L (.int v :: .int (nI j) :: .ref 73 :: S) (HH mi ml) = ev E M c L S (HH (am_up mi 73 j v) ml) := by
  rw [e_iast (n := 5) rfl (am_nI_in hj (by decide)), nI_clamp (by omega)]; rfl
theorem il_74 {j : Nat} (hj : j < 5) : ev E M (.iaload :: c) L (.int (nI j) :: .ref 74 :: S) (HH mi ml) = ev E M c L (.int (mi 74 j) :: S) (HH mi ml) := by
  rw [e_iald (n := 5) rfl (am_nI_in hj (by decide)), nI_clamp (by omega)]; rfl
theorem is_74 {j : Nat} {v : Int32} (hj : j < 5) : ev E M (.iastore :: c) L (.int v :: .int (nI j) :: .ref 74 :: S) (HH mi ml) = ev E M c L S (HH (am_up mi 74 j v) ml) := by
  rw [e_iast (n := 5) rfl (am_nI_in hj (by decide)), nI_clamp (by omega)]; rfl
theorem il_75 {j : Nat} (hj : j < 5) : ev E M (.iaload :: c) L (.int (nI j) :: .ref 75 :: S) (HH mi ml) = ev E M c L (.int (mi 75 j) :: S) (HH mi ml) := by
  rw [e_iald (n := 5) rfl (am_nI_in hj (by decide)), nI_clamp (by omega)]; rfl
theorem is_75 {j : Nat} {v : Int32} (hj : j < 5) : ev E M (.iastore :: c) L (.int v :: .int (nI j) :: .ref 75 :: S) (HH mi ml) = ev E M c L S (HH (am_up mi 75 j v) ml) := by
  rw [e_iast (n := 5) rfl (am_nI_in hj (by decide)), nI_clamp (by omega)]; rfl
theorem il_76 {j : Nat} (hj : j < 5) : ev E M (.iaload :: c) L (.int (nI j) :: .ref 76 :: S) (HH mi ml) = ev E M c L (.int (mi 76 j) :: S) (HH mi ml) := by
  rw [e_iald (n := 5) rfl (am_nI_in hj (by decide)), nI_clamp (by omega)]; rfl
theorem is_76 {j : Nat} {v : Int32} (hj : j < 5) : ev E M (.iastore :: c) L (.int v :: .int (nI j) :: .ref 76 :: S) (HH mi ml) = ev E M c L S (HH (am_up mi 76 j v) ml) := by
  rw [e_iast (n := 5) rfl (am_nI_in hj (by decide)), nI_clamp (by omega)]; rfl
theorem il_77 {j : Nat} (hj : j < 5) : ev E M (.iaload :: c) L (.int (nI j) :: .ref 77 :: S) (HH mi ml) = ev E M c L (.int (mi 77 j) :: S) (HH mi ml) := by
  rw [e_iald (n := 5) rfl (am_nI_in hj (by decide)), nI_clamp (by omega)]; rfl
theorem is_77 {j : Nat} {v : Int32} (hj : j < 5) : ev E M (.iastore :: c) L (.int v :: .int (nI j) :: .ref 77 :: S) (HH mi ml) = ev E M c L S (HH (am_up mi 77 j v) ml) := by
  rw [e_iast (n := 5) rfl (am_nI_in hj (by decide)), nI_clamp (by omega)]; rfl
theorem ik_2_0 : ev E M (.iaload :: c) L (.int 0 :: .ref 2 :: S) (HH mi ml) = ev E M c L (.int (mi 2 0) :: S) (HH mi ml) := il_2 (j := 0) (by decide)
theorem iks_2_0 {v : Int32} : ev E M (.iastore :: c) L (.int v :: .int 0 :: .ref 2 :: S) (HH mi ml) = ev E M c L S (HH (am_up mi 2 0 v) ml) := is_2 (j := 0) (by decide)
theorem ik_2_1 : ev E M (.iaload :: c) L (.int 1 :: .ref 2 :: S) (HH mi ml) = ev E M c L (.int (mi 2 1) :: S) (HH mi ml) := il_2 (j := 1) (by decide)
theorem iks_2_1 {v : Int32} : ev E M (.iastore :: c) L (.int v :: .int 1 :: .ref 2 :: S) (HH mi ml) = ev E M c L S (HH (am_up mi 2 1 v) ml) := is_2 (j := 1) (by decide)
theorem ik_2_2 : ev E M (.iaload :: c) L (.int 2 :: .ref 2 :: S) (HH mi ml) = ev E M c L (.int (mi 2 2) :: S) (HH mi ml) := il_2 (j := 2) (by decide)
theorem iks_2_2 {v : Int32} : ev E M (.iastore :: c) L (.int v :: .int 2 :: .ref 2 :: S) (HH mi ml) = ev E M c L S (HH (am_up mi 2 2 v) ml) := is_2 (j := 2) (by decide)
theorem ik_2_3 : ev E M (.iaload :: c) L (.int 3 :: .ref 2 :: S) (HH mi ml) = ev E M c L (.int (mi 2 3) :: S) (HH mi ml) := il_2 (j := 3) (by decide)
theorem iks_2_3 {v : Int32} : ev E M (.iastore :: c) L (.int v :: .int 3 :: .ref 2 :: S) (HH mi ml) = ev E M c L S (HH (am_up mi 2 3 v) ml) := is_2 (j := 3) (by decide)
theorem ik_2_4 : ev E M (.iaload :: c) L (.int 4 :: .ref 2 :: S) (HH mi ml) = ev E M c L (.int (mi 2 4) :: S) (HH mi ml) := il_2 (j := 4) (by decide)
theorem iks_2_4 {v : Int32} : ev E M (.iastore :: c) L (.int v :: .int 4 :: .ref 2 :: S) (HH mi ml) = ev E M c L S (HH (am_up mi 2 4 v) ml) := is_2 (j := 4) (by decide)
theorem ik_62_0 : ev E M (.iaload :: c) L (.int 0 :: .ref 62 :: S) (HH mi ml) = ev E M c L (.int (mi 62 0) :: S) (HH mi ml) := il_62 (j := 0) (by decide)
theorem iks_62_0 {v : Int32} : ev E M (.iastore :: c) L (.int v :: .int 0 :: .ref 62 :: S) (HH mi ml) = ev E M c L S (HH (am_up mi 62 0 v) ml) := is_62 (j := 0) (by decide)
theorem ik_62_1 : ev E M (.iaload :: c) L (.int 1 :: .ref 62 :: S) (HH mi ml) = ev E M c L (.int (mi 62 1) :: S) (HH mi ml) := il_62 (j := 1) (by decide)
theorem iks_62_1 {v : Int32} : ev E M (.iastore :: c) L (.int v :: .int 1 :: .ref 62 :: S) (HH mi ml) = ev E M c L S (HH (am_up mi 62 1 v) ml) := is_62 (j := 1) (by decide)
theorem ik_62_2 : ev E M (.iaload :: c) L (.int 2 :: .ref 62 :: S) (HH mi ml) = ev E M c L (.int (mi 62 2) :: S) (HH mi ml) := il_62 (j := 2) (by decide)
theorem iks_62_2 {v : Int32} : ev E M (.iastore :: c) L (.int v :: .int 2 :: .ref 62 :: S) (HH mi ml) = ev E M c L S (HH (am_up mi 62 2 v) ml) := is_62 (j := 2) (by decide)
theorem ik_62_3 : ev E M (.iaload :: c) L (.int 3 :: .ref 62 :: S) (HH mi ml) = ev E M c L (.int (mi 62 3) :: S) (HH mi ml) := il_62 (j := 3) (by decide)
theorem iks_62_3 {v : Int32} : ev E M (.iastore :: c) L (.int v :: .int 3 :: .ref 62 :: S) (HH mi ml) = ev E M c L S (HH (am_up mi 62 3 v) ml) := is_62 (j := 3) (by decide)
theorem ik_62_4 : ev E M (.iaload :: c) L (.int 4 :: .ref 62 :: S) (HH mi ml) = ev E M c L (.int (mi 62 4) :: S) (HH mi ml) := il_62 (j := 4) (by decide)
theorem iks_62_4 {v : Int32} : ev E M (.iastore :: c) L (.int v :: .int 4 :: .ref 62 :: S) (HH mi ml) = ev E M c L S (HH (am_up mi 62 4 v) ml) := is_62 (j := 4) (by decide)
theorem ik_73_0 : ev E M (.iaload :: c) L (.int 0 :: .ref 73 :: S) (HH mi ml) = ev E M c L (.int (mi 73 0) :: S) (HH mi ml) := il_73 (j := 0) (by decide)
theorem iks_73_0 {v : Int32} : ev E M (.iastore :: c) L (.int v :: .int 0 :: .ref 73 :: S) (HH mi ml) = ev E M c L S (HH (am_up mi 73 0 v) ml) := is_73 (j := 0) (by decide)
theorem ik_74_0 : ev E M (.iaload :: c) L (.int 0 :: .ref 74 :: S) (HH mi ml) = ev E M c L (.int (mi 74 0) :: S) (HH mi ml) := il_74 (j := 0) (by decide)
theorem iks_74_0 {v : Int32} : ev E M (.iastore :: c) L (.int v :: .int 0 :: .ref 74 :: S) (HH mi ml) = ev E M c L S (HH (am_up mi 74 0 v) ml) := is_74 (j := 0) (by decide)
theorem il_tp {d j : Nat} (hd : d < 5) (hj : j < 24) : ev E M (.iaload :: c) L (.int (nI j) :: .ref (12 + 3 * d) :: S) (HH mi ml) = ev E M c L (.int (mi (12 + 3 * d) j) :: S) (HH mi ml) := by
  rcases (show d = 0 ∨ d = 1 ∨ d = 2 ∨ d = 3 ∨ d = 4 by omega) with rfl | rfl | rfl | rfl | rfl <;> first | exact il_12 hj | exact il_15 hj | exact il_18 hj | exact il_21 hj | exact il_24 hj
theorem is_tp {d j : Nat} {v : Int32} (hd : d < 5) (hj : j < 24) : ev E M (.iastore :: c) L (.int v :: .int (nI j) :: .ref (12 + 3 * d) :: S) (HH mi ml) = ev E M c L S (HH (am_up mi (12 + 3 * d) j v) ml) := by
  rcases (show d = 0 ∨ d = 1 ∨ d = 2 ∨ d = 3 ∨ d = 4 by omega) with rfl | rfl | rfl | rfl | rfl <;> first | exact is_12 hj | exact is_15 hj | exact is_18 hj | exact is_21 hj | exact is_24 hj
theorem il_ta {d j : Nat} (hd : d < 5) (hj : j < 24) : ev E M (.iaload :: c) L (.int (nI j) :: .ref (13 + 3 * d) :: S) (HH mi ml) = ev E M c L (.int (mi (13 + 3 * d) j) :: S) (HH mi ml) := by
  rcases (show d = 0 ∨ d = 1 ∨ d = 2 ∨ d = 3 ∨ d = 4 by omega) with rfl | rfl | rfl | rfl | rfl <;> first | exact il_13 hj | exact il_16 hj | exact il_19 hj | exact il_22 hj | exact il_25 hj
theorem is_ta {d j : Nat} {v : Int32} (hd : d < 5) (hj : j < 24) : ev E M (.iastore :: c) L (.int v :: .int (nI j) :: .ref (13 + 3 * d) :: S) (HH mi ml) = ev E M c L S (HH (am_up mi (13 + 3 * d) j v) ml) := by
  rcases (show d = 0 ∨ d = 1 ∨ d = 2 ∨ d = 3 ∨ d = 4 by omega) with rfl | rfl | rfl | rfl | rfl <;> first | exact is_13 hj | exact is_16 hj | exact is_19 hj | exact is_22 hj | exact is_25 hj
theorem il_sc {d j : Nat} (hd : d < 4) (hj : j < 60) : ev E M (.iaload :: c) L (.int (nI j) :: .ref (53 + 2 * d) :: S) (HH mi ml) = ev E M c L (.int (mi (53 + 2 * d) j) :: S) (HH mi ml) := by
  rcases (show d = 0 ∨ d = 1 ∨ d = 2 ∨ d = 3 by omega) with rfl | rfl | rfl | rfl <;> first | exact il_53 hj | exact il_55 hj | exact il_57 hj | exact il_59 hj
theorem is_sc {d j : Nat} {v : Int32} (hd : d < 4) (hj : j < 60) : ev E M (.iastore :: c) L (.int v :: .int (nI j) :: .ref (53 + 2 * d) :: S) (HH mi ml) = ev E M c L S (HH (am_up mi (53 + 2 * d) j v) ml) := by
  rcases (show d = 0 ∨ d = 1 ∨ d = 2 ∨ d = 3 by omega) with rfl | rfl | rfl | rfl <;> first | exact is_53 hj | exact is_55 hj | exact is_57 hj | exact is_59 hj
theorem il_po {d j : Nat} (hd : d < 2) (hj : j < 5) : ev E M (.iaload :: c) L (.int (nI j) :: .ref (47 + 3 * d) :: S) (HH mi ml) = ev E M c L (.int (mi (47 + 3 * d) j) :: S) (HH mi ml) := by
  rcases (show d = 0 ∨ d = 1 by omega) with rfl | rfl <;> first | exact il_47 hj | exact il_50 hj
theorem is_po {d j : Nat} {v : Int32} (hd : d < 2) (hj : j < 5) : ev E M (.iastore :: c) L (.int v :: .int (nI j) :: .ref (47 + 3 * d) :: S) (HH mi ml) = ev E M c L S (HH (am_up mi (47 + 3 * d) j v) ml) := by
  rcases (show d = 0 ∨ d = 1 by omega) with rfl | rfl <;> first | exact is_47 hj | exact is_50 hj
theorem k_m400 {h : aH} : ev E M (.bipush (-400 : Int) :: c) L S h = ev E M c L (.int (-400) :: S) h := ev_go rfl
theorem k_m10 {h : aH} : ev E M (.bipush (-10 : Int) :: c) L S h = ev E M c L (.int (-10) :: S) h := ev_go rfl
theorem k_m9 {h : aH} : ev E M (.bipush (-9 : Int) :: c) L S h = ev E M c L (.int (-9) :: S) h := ev_go rfl
theorem k_m4 {h : aH} : ev E M (.bipush (-4 : Int) :: c) L S h = ev E M c L (.int (-4) :: S) h := ev_go rfl
theorem k_m3 {h : aH} : ev E M (.bipush (-3 : Int) :: c) L S h = ev E M c L (.int (-3) :: S) h := ev_go rfl
theorem k_m2 {h : aH} : ev E M (.bipush (-2 : Int) :: c) L S h = ev E M c L (.int (-2) :: S) h := ev_go rfl
theorem k_m1 {h : aH} : ev E M (.bipush (-1 : Int) :: c) L S h = ev E M c L (.int (-1) :: S) h := ev_go rfl
theorem k_0 {h : aH} : ev E M (.bipush (0 : Int) :: c) L S h = ev E M c L (.int 0 :: S) h := ev_go rfl
theorem k_1 {h : aH} : ev E M (.bipush (1 : Int) :: c) L S h = ev E M c L (.int 1 :: S) h := ev_go rfl
theorem k_2 {h : aH} : ev E M (.bipush (2 : Int) :: c) L S h = ev E M c L (.int 2 :: S) h := ev_go rfl
theorem k_3 {h : aH} : ev E M (.bipush (3 : Int) :: c) L S h = ev E M c L (.int 3 :: S) h := ev_go rfl
theorem k_4 {h : aH} : ev E M (.bipush (4 : Int) :: c) L S h = ev E M c L (.int 4 :: S) h := ev_go rfl
theorem k_5 {h : aH} : ev E M (.bipush (5 : Int) :: c) L S h = ev E M c L (.int 5 :: S) h := ev_go rfl
theorem k_6 {h : aH} : ev E M (.bipush (6 : Int) :: c) L S h = ev E M c L (.int 6 :: S) h := ev_go rfl
theorem k_10 {h : aH} : ev E M (.bipush (10 : Int) :: c) L S h = ev E M c L (.int 10 :: S) h := ev_go rfl
theorem k_20 {h : aH} : ev E M (.bipush (20 : Int) :: c) L S h = ev E M c L (.int 20 :: S) h := ev_go rfl
theorem k_23 {h : aH} : ev E M (.bipush (23 : Int) :: c) L S h = ev E M c L (.int 23 :: S) h := ev_go rfl
theorem k_24 {h : aH} : ev E M (.bipush (24 : Int) :: c) L S h = ev E M c L (.int 24 :: S) h := ev_go rfl
theorem k_31 {h : aH} : ev E M (.bipush (31 : Int) :: c) L S h = ev E M c L (.int 31 :: S) h := ev_go rfl
theorem k_45 {h : aH} : ev E M (.bipush (45 : Int) :: c) L S h = ev E M c L (.int 45 :: S) h := ev_go rfl
theorem k_50 {h : aH} : ev E M (.bipush (50 : Int) :: c) L S h = ev E M c L (.int 50 :: S) h := ev_go rfl
theorem k_60 {h : aH} : ev E M (.bipush (60 : Int) :: c) L S h = ev E M c L (.int 60 :: S) h := ev_go rfl
theorem k_63 {h : aH} : ev E M (.bipush (63 : Int) :: c) L S h = ev E M c L (.int 63 :: S) h := ev_go rfl
theorem k_100 {h : aH} : ev E M (.bipush (100 : Int) :: c) L S h = ev E M c L (.int 100 :: S) h := ev_go rfl
theorem k_120 {h : aH} : ev E M (.bipush (120 : Int) :: c) L S h = ev E M c L (.int 120 :: S) h := ev_go rfl
theorem k_200 {h : aH} : ev E M (.bipush (200 : Int) :: c) L S h = ev E M c L (.int 200 :: S) h := ev_go rfl
theorem k_240 {h : aH} : ev E M (.bipush (240 : Int) :: c) L S h = ev E M c L (.int 240 :: S) h := ev_go rfl
theorem k_400 {h : aH} : ev E M (.bipush (400 : Int) :: c) L S h = ev E M c L (.int 400 :: S) h := ev_go rfl
theorem k_500 {h : aH} : ev E M (.bipush (500 : Int) :: c) L S h = ev E M c L (.int 500 :: S) h := ev_go rfl
theorem k_750 {h : aH} : ev E M (.bipush (750 : Int) :: c) L S h = ev E M c L (.int 750 :: S) h := ev_go rfl
theorem k_900 {h : aH} : ev E M (.bipush (900 : Int) :: c) L S h = ev E M c L (.int 900 :: S) h := ev_go rfl
theorem k_1000 {h : aH} : ev E M (.bipush (1000 : Int) :: c) L S h = ev E M c L (.int 1000 :: S) h := ev_go rfl
theorem k_2000 {h : aH} : ev E M (.bipush (2000 : Int) :: c) L S h = ev E M c L (.int 2000 :: S) h := ev_go rfl
theorem k_3000 {h : aH} : ev E M (.bipush (3000 : Int) :: c) L S h = ev E M c L (.int 3000 :: S) h := ev_go rfl
theorem k_100000 {h : aH} : ev E M (.bipush (100000 : Int) :: c) L S h = ev E M c L (.int 100000 :: S) h := ev_go rfl
theorem kl_m9223372036854775808 {h : aH} : ev E M (.sipush (-9223372036854775808 : Int) :: c) L S h = ev E M c L (.long (-9223372036854775808) :: S) h := ev_go rfl
theorem kl_m1000000000 {h : aH} : ev E M (.sipush (-1000000000 : Int) :: c) L S h = ev E M c L (.long (-1000000000) :: S) h := ev_go rfl
theorem kl_m1 {h : aH} : ev E M (.sipush (-1 : Int) :: c) L S h = ev E M c L (.long (-1) :: S) h := ev_go rfl
theorem kl_0 {h : aH} : ev E M (.sipush (0 : Int) :: c) L S h = ev E M c L (.long 0 :: S) h := ev_go rfl
theorem kl_1 {h : aH} : ev E M (.sipush (1 : Int) :: c) L S h = ev E M c L (.long 1 :: S) h := ev_go rfl
theorem kl_2 {h : aH} : ev E M (.sipush (2 : Int) :: c) L S h = ev E M c L (.long 2 :: S) h := ev_go rfl
theorem kl_1000 {h : aH} : ev E M (.sipush (1000 : Int) :: c) L S h = ev E M c L (.long 1000 :: S) h := ev_go rfl
theorem kl_1000000000 {h : aH} : ev E M (.sipush (1000000000 : Int) :: c) L S h = ev E M c L (.long 1000000000 :: S) h := ev_go rfl
def am_sl : List Value → Bool := fun s => match s with
  | [] => true
  | [_] => true
  | [_, _] => true
  | [_, _, _] => true
  | [_, _, _, _] => true
  | _ => false
theorem am_sl0 : am_sl [] = true := rfl
theorem am_sl1 {a : Value} : am_sl [a] = true := rfl
theorem am_sl2 {a b : Value} : am_sl [a, b] = true := rfl
theorem am_sl3 {a b d : Value} : am_sl [a, b, d] = true := rfl
theorem am_sl4 {a b d e : Value} : am_sl [a, b, d, e] = true := rfl
theorem am_sl_len {s : List Value} (h : am_sl s = true) : s.length ≤ 4 := by
  unfold am_sl at h
  split at h <;> first | (simp; done) | cases h
theorem e_inv {h h1 : aH} {k : Nat} {as : List Value} {v : Option Value} (hS : am_sl S = true) (hn : as.length = am_na k) (hl : (am_loc as).length ≤ am_mL k) (hr : am_recv h k as = true) (hq : ev E k (am_B k 0) (am_ent k as) [] h = some (v, h1)) : ev E M (.invokevirtual k :: c) L (as.reverse ++ S) h = ev E M c L (v.toList ++ S) h1 := by
  have hlen : (as.reverse ++ S).length = am_na k + S.length := by simp [hn]
  have ht : ((as.reverse ++ S).take (am_na k)).reverse = as := by rw [← hn, ← List.length_reverse (as := as), List.take_left, List.reverse_reverse]
  have hd : (as.reverse ++ S).drop (am_na k) = S := by rw [← hn, ← List.length_reverse (as := as), List.drop_left]
  refine ev_call (k := k) (as := as) (c' := c) (L' := L) (S' := S) (h1 := h) ?_ hq
  simp only [am_step]
  rw [ht, hd, if_pos ⟨by omega, by have := am_sl_len hS; omega, hl, hr⟩]
end Rows
end
section
theorem b_0_e : am_B 0 0 = [.aload 0, .pop2, .aload 0, .new 2, .dup, .invokevirtual 1, .putfield 512, .aload 0, .new 1, .dup, .aload 0, .getfield 512, .invokevirtual 4, .putfield 513, .aload 0, .bipush 4, .anewarray 6, .putfield 514, .bipush 0, .istore 1, .jsr 40] := rfl
theorem b_0_40 : am_B 0 (Int.toNat 40) = [.iload 1, .bipush 4, .if_icmp .ge 64, .aload 0, .getfield 514, .iload 1, .new 5, .dup, .invokevirtual 8, .aastore, .iinc 1 1, .goto 40] := rfl
theorem b_0_64 : am_B 0 (Int.toNat 64) = [.aload 0, .new 4, .dup, .invokevirtual 5, .putfield 515, .return_] := rfl
theorem b_1_e : am_B 1 0 = [.aload 0, .pop2, .aload 0, .bipush 5, .newarray .int, .dup, .bipush 0, .bipush 100, .iastore, .dup, .bipush 1, .bipush 1, .iastore, .dup, .bipush 2, .bipush 750, .iastore, .dup, .bipush 3, .bipush 900, .iastore, .dup, .bipush 4, .bipush 500, .iastore, .putfield 128, .aload 0, .bipush 5, .anewarray 3, .putfield 129, .aload 0, .bipush 5, .anewarray 4, .putfield 130, .aload 0, .bipush 5, .newarray .int, .putfield 131, .bipush 0, .istore 1, .jsr 63] := rfl
theorem b_1_63 : am_B 1 (Int.toNat 63) = [.iload 1, .bipush 5, .if_icmp .ge 87, .aload 0, .getfield 129, .iload 1, .new 6, .dup, .invokevirtual 2, .aastore, .iinc 1 1, .goto 63] := rfl
theorem b_1_87 : am_B 1 (Int.toNat 87) = [.bipush 0, .istore 1, .jsr 89] := rfl
theorem b_1_89 : am_B 1 (Int.toNat 89) = [.iload 1, .bipush 5, .if_icmp .ge 113, .aload 0, .getfield 130, .iload 1, .new 7, .dup, .invokevirtual 3, .aastore, .iinc 1 1, .goto 89] := rfl
theorem b_1_113 : am_B 1 (Int.toNat 113) = [.return_] := rfl
theorem b_2_e : am_B 2 0 = [.aload 0, .pop2, .aload 0, .bipush 1, .putfield 386, .aload 0, .bipush 3000, .putfield 387, .return_] := rfl
theorem b_3_e : am_B 3 0 = [.aload 0, .pop2, .aload 0, .bipush 24, .newarray .int, .putfield 448, .aload 0, .bipush 24, .newarray .int, .putfield 449, .bipush 0, .istore 1, .jsr 22] := rfl
theorem b_3_22 : am_B 3 (Int.toNat 22) = [.iload 1, .bipush 24, .if_icmp .ge 41, .aload 0, .getfield 448, .iload 1, .bipush (-1), .iastore, .iinc 1 1, .goto 22] := rfl
theorem b_3_41 : am_B 3 (Int.toNat 41) = [.return_] := rfl
theorem b_4_e : am_B 4 0 = [.aload 0, .pop2, .aload 0, .new 4, .dup, .invokevirtual 5, .putfield 65, .aload 0, .new 4, .dup, .invokevirtual 5, .putfield 68, .aload 0, .bipush 2, .anewarray 5, .putfield 69, .aload 0, .new 4, .dup, .invokevirtual 5, .putfield 70, .aload 0, .bipush (-9), .putfield 71, .aload 0, .new 4, .dup, .invokevirtual 5, .putfield 74, .aload 0, .new 4, .dup, .invokevirtual 5, .putfield 75, .aload 0, .bipush 5, .newarray .int, .putfield 76, .aload 0, .aload 1, .putfield 73, .aload 0, .new 0, .dup, .aload 1, .getfield 128, .invokevirtual 6, .putfield 64, .bipush 0, .istore 2, .jsr 102] := rfl
theorem b_4_102 : am_B 4 (Int.toNat 102) = [.iload 2, .bipush 2, .if_icmp .ge 126, .aload 0, .getfield 69, .iload 2, .new 3, .dup, .invokevirtual 7, .aastore, .iinc 2 1, .goto 102] := rfl
theorem b_4_126 : am_B 4 (Int.toNat 126) = [.return_] := rfl
theorem b_5_e : am_B 5 0 = [.aload 0, .pop2, .aload 0, .sipush 1, .putfield 257, .return_] := rfl
theorem b_6_e : am_B 6 0 = [.aload 0, .pop2, .aload 0, .bipush 5, .newarray .int, .putfield 0, .aload 0, .bipush 5, .newarray .int, .putfield 1, .aload 0, .bipush 5, .newarray .boolean, .putfield 2, .aload 0, .bipush 5, .newarray .long, .putfield 3, .aload 0, .bipush 5, .newarray .long, .putfield 4, .aload 0, .bipush 5, .newarray .boolean, .putfield 6, .aload 0, .bipush 5, .newarray .int, .putfield 7, .aload 0, .bipush 5, .newarray .int, .putfield 8, .aload 0, .new 4, .dup, .invokevirtual 5, .putfield 10, .aload 0, .new 4, .dup, .invokevirtual 5, .putfield 11, .aload 0, .aload 1, .putfield 9, .return_] := rfl
theorem b_7_e : am_B 7 0 = [.aload 0, .pop2, .aload 0, .new 4, .dup, .invokevirtual 5, .putfield 192, .aload 0, .bipush 5, .newarray .int, .putfield 193, .return_] := rfl
theorem b_8_e : am_B 8 0 = [.aload 0, .pop2, .aload 0, .bipush 60, .newarray .int, .putfield 320, .aload 0, .bipush (-1), .putfield 321, .return_] := rfl
theorem b_9_e : am_B 9 0 = [.iload 1, .ifCond .lt 9, .iload 1, .bipush 5, .if_icmp .lt 11, .jsr 9] := rfl
theorem b_9_9 : am_B 9 (Int.toNat 9) = [.bipush (-1), .ireturn] := rfl
theorem b_9_11 : am_B 9 (Int.toNat 11) = [.iload 2, .getstatic 0, .iload 1, .iaload, .if_icmp .lt 29, .iload 2, .getstatic 1, .iload 1, .iaload, .if_icmp .le 32, .jsr 29] := rfl
theorem b_9_29 : am_B 9 (Int.toNat 29) = [.bipush (-2), .ireturn] := rfl
theorem b_9_32 : am_B 9 (Int.toNat 32) = [.aload 0, .getfield 512, .iload 1, .iload 2, .invokevirtual 10, .ifCond .ne 47, .bipush (-3), .ireturn] := rfl
theorem b_9_47 : am_B 9 (Int.toNat 47) = [.aload 0, .getfield 512, .getfield 128, .iload 1, .iaload, .istore 3, .aload 0, .getfield 512, .getfield 128, .iload 1, .iload 2, .iastore, .aload 0, .getfield 513, .invokevirtual 12, .iload 3, .ireturn] := rfl
theorem b_10_e : am_B 10 0 = [.iload 1, .tableswitch 108 0 4 #[36, 108, 50, 76, 92]] := rfl
theorem b_10_36 : am_B 10 (Int.toNat 36) = [.aload 0, .iload 2, .invokevirtual 11, .ifCond .ne 48, .bipush 1, .goto 49] := rfl
theorem b_10_48 : am_B 10 (Int.toNat 48) = [.bipush 0, .jsr 49] := rfl
theorem b_10_49 : am_B 10 (Int.toNat 49) = [.areturn] := rfl
theorem b_10_50 : am_B 10 (Int.toNat 50) = [.iload 2, .aload 0, .getfield 128, .bipush 3, .iaload, .if_icmp .gt 74, .iload 2, .aload 0, .getfield 128, .bipush 4, .iaload, .if_icmp .lt 74, .bipush 1, .goto 75] := rfl
theorem b_10_74 : am_B 10 (Int.toNat 74) = [.bipush 0, .jsr 75] := rfl
theorem b_10_75 : am_B 10 (Int.toNat 75) = [.areturn] := rfl
theorem b_10_76 : am_B 10 (Int.toNat 76) = [.aload 0, .getfield 128, .bipush 2, .iaload, .iload 2, .if_icmp .gt 90, .bipush 1, .goto 91] := rfl
theorem b_10_90 : am_B 10 (Int.toNat 90) = [.bipush 0, .jsr 91] := rfl
theorem b_10_91 : am_B 10 (Int.toNat 91) = [.areturn] := rfl
theorem b_10_92 : am_B 10 (Int.toNat 92) = [.aload 0, .getfield 128, .bipush 2, .iaload, .iload 2, .if_icmp .lt 106, .bipush 1, .goto 107] := rfl
theorem b_10_106 : am_B 10 (Int.toNat 106) = [.bipush 0, .jsr 107] := rfl
theorem b_10_107 : am_B 10 (Int.toNat 107) = [.areturn] := rfl
theorem b_10_108 : am_B 10 (Int.toNat 108) = [.bipush 1, .areturn] := rfl
theorem b_11_e : am_B 11 0 = [.bipush 0, .istore 2, .jsr 2] := rfl
theorem b_11_2 : am_B 11 (Int.toNat 2) = [.iload 2, .aload 0, .getfield 132, .if_icmp .ge 31, .aload 0, .getfield 129, .iload 2, .aaload, .getfield 385, .iload 1, .if_icmp .le 25, .bipush 1, .areturn] := rfl
theorem b_11_25 : am_B 11 (Int.toNat 25) = [.iinc 2 1, .goto 2] := rfl
theorem b_11_31 : am_B 11 (Int.toNat 31) = [.bipush 0, .istore 2, .jsr 33] := rfl
theorem b_11_33 : am_B 11 (Int.toNat 33) = [.iload 2, .aload 0, .getfield 133, .if_icmp .ge 78, .bipush 0, .istore 3, .jsr 43] := rfl
theorem b_11_43 : am_B 11 (Int.toNat 43) = [.iload 3, .bipush 24, .if_icmp .ge 72, .aload 0, .getfield 130, .iload 2, .aaload, .getfield 448, .iload 3, .iaload, .iload 1, .if_icmp .le 66, .bipush 1, .areturn] := rfl
theorem b_11_66 : am_B 11 (Int.toNat 66) = [.iinc 3 1, .goto 43] := rfl
theorem b_11_72 : am_B 11 (Int.toNat 72) = [.iinc 2 1, .goto 33] := rfl
theorem b_11_78 : am_B 11 (Int.toNat 78) = [.bipush 0, .areturn] := rfl
theorem b_12_e : am_B 12 0 = [.aload 0, .bipush 0, .putfield 72, .bipush 0, .istore 1, .jsr 7] := rfl
theorem b_12_7 : am_B 12 (Int.toNat 7) = [.iload 1, .bipush 2, .if_icmp .ge 28, .aload 0, .getfield 69, .iload 1, .aaload, .bipush 0, .putfield 194, .iinc 1 1, .goto 7] := rfl
theorem b_12_28 : am_B 12 (Int.toNat 28) = [.return_] := rfl
theorem b_13_e : am_B 13 0 = [.iload 1, .ifCond .lt 20, .iload 1, .bipush 2, .if_icmp .gt 20, .aload 0, .getfield 512, .iload 2, .invokevirtual 14, .ifCond .ne 23, .jsr 20] := rfl
theorem b_13_20 : am_B 13 (Int.toNat 20) = [.bipush (-2), .ireturn] := rfl
theorem b_13_23 : am_B 13 (Int.toNat 23) = [.aload 0, .getfield 512, .iload 2, .invokevirtual 15, .ifCond .eq 37, .bipush (-3), .ireturn] := rfl
theorem b_13_37 : am_B 13 (Int.toNat 37) = [.aload 0, .getfield 512, .getfield 132, .bipush 5, .if_icmp .lt 51, .bipush (-4), .ireturn] := rfl
theorem b_13_51 : am_B 13 (Int.toNat 51) = [.aload 0, .getfield 512, .getfield 132, .istore 3, .aload 0, .getfield 512, .getfield 129, .iload 3, .aaload, .iload 1, .putfield 384, .aload 0, .getfield 512, .getfield 129, .iload 3, .aaload, .iload 2, .putfield 385, .aload 0, .getfield 512, .iload 3, .bipush 1, .iadd, .putfield 132, .aload 0, .getfield 513, .invokevirtual 12, .iload 3, .ireturn] := rfl
theorem b_14_e : am_B 14 0 = [.iload 1, .ifCond .lt 18, .iload 1, .aload 0, .getfield 128, .bipush 0, .iaload, .if_icmp .gt 18, .bipush 1, .goto 19] := rfl
theorem b_14_18 : am_B 14 (Int.toNat 18) = [.bipush 0, .jsr 19] := rfl
theorem b_14_19 : am_B 14 (Int.toNat 19) = [.areturn] := rfl
theorem b_15_e : am_B 15 0 = [.bipush 0, .istore 2, .jsr 2] := rfl
theorem b_15_2 : am_B 15 (Int.toNat 2) = [.iload 2, .aload 0, .getfield 132, .if_icmp .ge 31, .aload 0, .getfield 129, .iload 2, .aaload, .getfield 385, .iload 1, .if_icmp .ne 25, .bipush 1, .areturn] := rfl
theorem b_15_25 : am_B 15 (Int.toNat 25) = [.iinc 2 1, .goto 2] := rfl
theorem b_15_31 : am_B 15 (Int.toNat 31) = [.bipush 0, .areturn] := rfl
theorem b_16_e : am_B 16 0 = [.aload 0, .getfield 512, .iload 1, .invokevirtual 17, .ifCond .ne 13, .bipush (-1), .ireturn] := rfl
theorem b_16_13 : am_B 16 (Int.toNat 13) = [.aload 0, .getfield 512, .getfield 129, .iload 1, .aaload, .getfield 386, .iload 2, .if_icmp .ne 31, .bipush 0, .ireturn] := rfl
theorem b_16_31 : am_B 16 (Int.toNat 31) = [.aload 0, .getfield 512, .getfield 129, .iload 1, .aaload, .iload 2, .putfield 386, .aload 0, .getfield 513, .invokevirtual 12, .bipush 1, .ireturn] := rfl
theorem b_17_e : am_B 17 0 = [.iload 1, .ifCond .lt 16, .iload 1, .aload 0, .getfield 132, .if_icmp .ge 16, .bipush 1, .goto 17] := rfl
theorem b_17_16 : am_B 17 (Int.toNat 16) = [.bipush 0, .jsr 17] := rfl
theorem b_17_17 : am_B 17 (Int.toNat 17) = [.areturn] := rfl
theorem b_18_e : am_B 18 0 = [.aload 0, .getfield 512, .iload 1, .invokevirtual 17, .ifCond .ne 13, .bipush (-1), .ireturn] := rfl
theorem b_18_13 : am_B 18 (Int.toNat 13) = [.iload 2, .ifCond .lt 23, .iload 2, .bipush 100000, .if_icmp .le 26, .jsr 23] := rfl
theorem b_18_23 : am_B 18 (Int.toNat 23) = [.bipush (-2), .ireturn] := rfl
theorem b_18_26 : am_B 18 (Int.toNat 26) = [.aload 0, .getfield 512, .getfield 129, .iload 1, .aaload, .getfield 387, .istore 3, .aload 0, .getfield 512, .getfield 129, .iload 1, .aaload, .iload 2, .putfield 387, .iload 3, .ireturn] := rfl
theorem b_19_e : am_B 19 0 = [.aload 0, .getfield 512, .iload 1, .invokevirtual 17, .ifCond .ne 13, .bipush (-1), .ireturn] := rfl
theorem b_19_13 : am_B 19 (Int.toNat 13) = [.aload 0, .getfield 512, .getfield 129, .iload 1, .aaload, .astore 3, .iload 2, .tableswitch 84 0 3 #[56, 61, 66, 79]] := rfl
theorem b_19_56 : am_B 19 (Int.toNat 56) = [.aload 3, .getfield 384, .ireturn] := rfl
theorem b_19_61 : am_B 19 (Int.toNat 61) = [.aload 3, .getfield 385, .ireturn] := rfl
theorem b_19_66 : am_B 19 (Int.toNat 66) = [.aload 3, .getfield 386, .ifCond .eq 77, .bipush 1, .goto 78] := rfl
theorem b_19_77 : am_B 19 (Int.toNat 77) = [.bipush 0, .jsr 78] := rfl
theorem b_19_78 : am_B 19 (Int.toNat 78) = [.ireturn] := rfl
theorem b_19_79 : am_B 19 (Int.toNat 79) = [.aload 3, .getfield 387, .ireturn] := rfl
theorem b_19_84 : am_B 19 (Int.toNat 84) = [.bipush (-2), .ireturn] := rfl
theorem b_20_e : am_B 20 0 = [.aload 0, .getfield 512, .getfield 133, .bipush 5, .if_icmp .lt 14, .bipush (-4), .ireturn] := rfl
theorem b_20_14 : am_B 20 (Int.toNat 14) = [.aload 0, .getfield 512, .getfield 133, .istore 1, .aload 0, .getfield 512, .iload 1, .bipush 1, .iadd, .putfield 133, .aload 0, .getfield 513, .invokevirtual 12, .iload 1, .ireturn] := rfl
theorem b_21_e : am_B 21 0 = [.aload 0, .getfield 512, .iload 1, .invokevirtual 22, .ifCond .eq 18, .iload 2, .invokevirtual 23, .ifCond .ne 20, .jsr 18] := rfl
theorem b_21_18 : am_B 21 (Int.toNat 18) = [.bipush (-1), .ireturn] := rfl
theorem b_21_20 : am_B 21 (Int.toNat 20) = [.aload 0, .getfield 512, .iload 3, .iload 4, .invokevirtual 24, .ifCond .ne 36, .bipush (-2), .ireturn] := rfl
theorem b_21_36 : am_B 21 (Int.toNat 36) = [.aload 0, .getfield 512, .getfield 130, .iload 1, .aaload, .iload 2, .iload 3, .iload 4, .invokevirtual 25, .aload 0, .getfield 513, .invokevirtual 12, .bipush 1, .ireturn] := rfl
theorem b_22_e : am_B 22 0 = [.iload 1, .ifCond .lt 16, .iload 1, .aload 0, .getfield 133, .if_icmp .ge 16, .bipush 1, .goto 17] := rfl
theorem b_22_16 : am_B 22 (Int.toNat 16) = [.bipush 0, .jsr 17] := rfl
theorem b_22_17 : am_B 22 (Int.toNat 17) = [.areturn] := rfl
theorem b_23_e : am_B 23 0 = [.iload 0, .ifCond .lt 14, .iload 0, .bipush 24, .if_icmp .ge 14, .bipush 1, .goto 15] := rfl
theorem b_23_14 : am_B 23 (Int.toNat 14) = [.bipush 0, .jsr 15] := rfl
theorem b_23_15 : am_B 23 (Int.toNat 15) = [.areturn] := rfl
theorem b_24_e : am_B 24 0 = [.iload 1, .bipush (-1), .if_icmp .ne 7, .bipush 1, .areturn] := rfl
theorem b_24_7 : am_B 24 (Int.toNat 7) = [.aload 0, .iload 1, .invokevirtual 14, .ifCond .eq 33, .iload 2, .bipush (-400), .if_icmp .lt 33, .iload 2, .bipush 400, .if_icmp .gt 33, .bipush 1, .goto 34] := rfl
theorem b_24_33 : am_B 24 (Int.toNat 33) = [.bipush 0, .jsr 34] := rfl
theorem b_24_34 : am_B 24 (Int.toNat 34) = [.areturn] := rfl
theorem b_25_e : am_B 25 0 = [.aload 0, .getfield 448, .iload 1, .iload 2, .iastore, .aload 0, .getfield 449, .iload 1, .iload 3, .iastore, .return_] := rfl
theorem b_26_e : am_B 26 0 = [.aload 0, .bipush 0, .putfield 517, .aload 0, .getfield 512, .iload 1, .invokevirtual 22, .ifCond .eq 23, .iload 2, .invokevirtual 27, .ifCond .ne 25, .jsr 23] := rfl
theorem b_26_23 : am_B 26 (Int.toNat 23) = [.bipush (-1), .ireturn] := rfl
theorem b_26_25 : am_B 26 (Int.toNat 25) = [.iload 3, .invokevirtual 28, .ifCond .ne 35, .bipush (-2), .ireturn] := rfl
theorem b_26_35 : am_B 26 (Int.toNat 35) = [.aload 0, .getfield 514, .iload 2, .aaload, .astore 6, .aload 6, .iload 3, .invokevirtual 29, .istore 7, .iload 7, .ifCond .ne 64, .iload 5, .ifCond .ge 64, .bipush 4, .istore 7, .jsr 64] := rfl
theorem b_26_64 : am_B 26 (Int.toNat 64) = [.iload 7, .ifCond .ne 89, .aload 6, .iload 4, .sipush 2, .iload 5, .i2l, .lmul, .invokevirtual 30, .ifCond .ne 89, .bipush 3, .istore 7, .jsr 89] := rfl
theorem b_26_89 : am_B 26 (Int.toNat 89) = [.iload 7, .ifCond .eq 101, .aload 0, .iload 7, .invokevirtual 31, .ireturn] := rfl
theorem b_26_101 : am_B 26 (Int.toNat 101) = [.iload 5, .bipush 24, .if_icmp .gt 121, .aload 0, .aload 6, .iload 4, .iload 5, .invokevirtual 32, .ifCond .ne 124, .jsr 121] := rfl
theorem b_26_121 : am_B 26 (Int.toNat 121) = [.bipush (-2), .ireturn] := rfl
theorem b_26_124 : am_B 26 (Int.toNat 124) = [.aload 0, .getfield 513, .invokevirtual 12, .aload 0, .getfield 512, .getfield 130, .iload 1, .aaload, .aload 6, .iload 4, .iload 5, .invokevirtual 33, .ireturn] := rfl
theorem b_27_e : am_B 27 0 = [.iload 0, .ifCond .lt 13, .iload 0, .bipush 4, .if_icmp .ge 13, .bipush 1, .goto 14] := rfl
theorem b_27_13 : am_B 27 (Int.toNat 13) = [.bipush 0, .jsr 14] := rfl
theorem b_27_14 : am_B 27 (Int.toNat 14) = [.areturn] := rfl
theorem b_28_e : am_B 28 0 = [.iload 0, .ifCond .lt 13, .iload 0, .bipush 2, .if_icmp .gt 13, .bipush 1, .goto 14] := rfl
theorem b_28_13 : am_B 28 (Int.toNat 13) = [.bipush 0, .jsr 14] := rfl
theorem b_28_14 : am_B 28 (Int.toNat 14) = [.areturn] := rfl
theorem b_29_e : am_B 29 0 = [.aload 0, .getfield 321, .bipush (-1), .if_icmp .ne 10, .bipush 1, .ireturn] := rfl
theorem b_29_10 : am_B 29 (Int.toNat 10) = [.aload 0, .getfield 321, .iload 1, .if_icmp .ne 22, .bipush 0, .goto 23] := rfl
theorem b_29_22 : am_B 29 (Int.toNat 22) = [.bipush 2, .jsr 23] := rfl
theorem b_29_23 : am_B 29 (Int.toNat 23) = [.ireturn] := rfl
theorem b_30_e : am_B 30 0 = [.iload 1, .ifCond .lt 28, .iload 1, .aload 0, .getfield 322, .if_icmp .gt 28, .lload 2, .aload 0, .getfield 322, .iload 1, .isub, .i2l, .lcmp, .ifCond .gt 28, .bipush 1, .goto 29] := rfl
theorem b_30_28 : am_B 30 (Int.toNat 28) = [.bipush 0, .jsr 29] := rfl
theorem b_30_29 : am_B 30 (Int.toNat 29) = [.areturn] := rfl
theorem b_31_e : am_B 31 0 = [.aload 0, .iload 1, .putfield 517, .bipush (-10), .iload 1, .isub, .ireturn] := rfl
theorem b_32_e : am_B 32 0 = [.bipush 0, .istore 4, .jsr 3] := rfl
theorem b_32_3 : am_B 32 (Int.toNat 3) = [.iload 4, .iload 3, .if_icmp .ge 51, .aload 0, .getfield 512, .aload 1, .getfield 320, .iload 2, .bipush 2, .iload 4, .imul, .iadd, .iaload, .aload 1, .getfield 320, .iload 2, .bipush 2, .iload 4, .imul, .iadd, .bipush 1, .iadd, .iaload, .invokevirtual 24, .ifCond .ne 45, .bipush 0, .areturn] := rfl
theorem b_32_45 : am_B 32 (Int.toNat 45) = [.iinc 4 1, .goto 3] := rfl
theorem b_32_51 : am_B 32 (Int.toNat 51) = [.bipush 1, .areturn] := rfl
theorem b_33_e : am_B 33 0 = [.bipush 0, .istore 4, .bipush 0, .istore 5, .jsr 6] := rfl
theorem b_33_6 : am_B 33 (Int.toNat 6) = [.iload 5, .bipush 24, .if_icmp .ge 80, .iload 5, .iload 3, .if_icmp .ge 52, .aload 0, .iload 5, .aload 1, .getfield 320, .iload 2, .bipush 2, .iload 5, .imul, .iadd, .iaload, .aload 1, .getfield 320, .iload 2, .bipush 2, .iload 5, .imul, .iadd, .bipush 1, .iadd, .iaload, .invokevirtual 25, .goto 60] := rfl
theorem b_33_52 : am_B 33 (Int.toNat 52) = [.aload 0, .iload 5, .bipush (-1), .bipush 0, .invokevirtual 25, .jsr 60] := rfl
theorem b_33_60 : am_B 33 (Int.toNat 60) = [.aload 0, .getfield 448, .iload 5, .iaload, .bipush (-1), .if_icmp .eq 74, .iinc 4 1, .jsr 74] := rfl
theorem b_33_74 : am_B 33 (Int.toNat 74) = [.iinc 5 1, .goto 6] := rfl
theorem b_33_80 : am_B 33 (Int.toNat 80) = [.iload 4, .ireturn] := rfl
theorem b_34_e : am_B 34 0 = [.aload 0, .getfield 512, .iload 1, .invokevirtual 22, .ifCond .ne 13, .bipush (-1), .ireturn] := rfl
theorem b_34_13 : am_B 34 (Int.toNat 13) = [.iload 2, .ifCond .lt 22, .iload 2, .bipush 5, .if_icmp .le 25, .jsr 22] := rfl
theorem b_34_22 : am_B 34 (Int.toNat 22) = [.bipush (-2), .ireturn] := rfl
theorem b_34_25 : am_B 34 (Int.toNat 25) = [.aload 0, .getfield 512, .getfield 131, .iload 1, .iaload, .istore 3, .aload 0, .getfield 512, .getfield 131, .iload 1, .iload 2, .iastore, .aload 0, .getfield 513, .invokevirtual 12, .iload 3, .ireturn] := rfl
theorem b_35_e : am_B 35 0 = [.aload 0, .getfield 512, .iload 1, .invokevirtual 22, .ifCond .eq 18, .iload 2, .invokevirtual 23, .ifCond .ne 20, .jsr 18] := rfl
theorem b_35_18 : am_B 35 (Int.toNat 18) = [.bipush (-1), .ireturn] := rfl
theorem b_35_20 : am_B 35 (Int.toNat 20) = [.iload 3, .ifCond .lt 29, .iload 3, .bipush 2, .if_icmp .le 32, .jsr 29] := rfl
theorem b_35_29 : am_B 35 (Int.toNat 29) = [.bipush (-2), .ireturn] := rfl
theorem b_35_32 : am_B 35 (Int.toNat 32) = [.iload 3, .bipush 2, .if_icmp .ne 50, .aload 0, .getfield 512, .invokevirtual 36, .ifCond .eq 50, .bipush (-3), .ireturn] := rfl
theorem b_35_50 : am_B 35 (Int.toNat 50) = [.iload 2, .aload 0, .getfield 512, .getfield 131, .iload 1, .iaload, .isub, .istore 4, .iload 4, .invokevirtual 23, .ifCond .eq 90, .aload 0, .getfield 512, .getfield 130, .iload 1, .aaload, .getfield 448, .iload 4, .iaload, .bipush (-1), .if_icmp .ne 101, .jsr 90] := rfl
theorem b_35_90 : am_B 35 (Int.toNat 90) = [.iload 3, .ifCond .ne 99, .bipush (-9), .goto 100] := rfl
theorem b_35_99 : am_B 35 (Int.toNat 99) = [.bipush 0, .jsr 100] := rfl
theorem b_35_100 : am_B 35 (Int.toNat 100) = [.ireturn] := rfl
theorem b_35_101 : am_B 35 (Int.toNat 101) = [.iload 3, .ifCond .ne 121, .aload 0, .getfield 512, .getfield 130, .iload 1, .aaload, .getfield 448, .iload 4, .iaload, .ireturn] := rfl
theorem b_35_121 : am_B 35 (Int.toNat 121) = [.iload 3, .bipush 1, .if_icmp .ne 142, .aload 0, .getfield 512, .getfield 130, .iload 1, .aaload, .getfield 449, .iload 4, .iaload, .ireturn] := rfl
theorem b_35_142 : am_B 35 (Int.toNat 142) = [.aload 0, .getfield 513, .iload 2, .invokevirtual 38, .aload 0, .getfield 513, .getfield 64, .getfield 8, .iload 1, .iaload, .ireturn] := rfl
theorem b_36_e : am_B 36 0 = [.aload 0, .invokevirtual 37, .ifCond .ne 11, .bipush 1, .goto 12] := rfl
theorem b_36_11 : am_B 36 (Int.toNat 11) = [.bipush 0, .jsr 12] := rfl
theorem b_36_12 : am_B 36 (Int.toNat 12) = [.areturn] := rfl
theorem b_37_e : am_B 37 0 = [.bipush 0, .istore 1, .bipush 0, .istore 2, .jsr 4] := rfl
theorem b_37_4 : am_B 37 (Int.toNat 4) = [.iload 2, .aload 0, .getfield 132, .if_icmp .ge 33, .aload 0, .getfield 129, .iload 2, .aaload, .getfield 386, .ifCond .eq 27, .iinc 1 1, .jsr 27] := rfl
theorem b_37_27 : am_B 37 (Int.toNat 27) = [.iinc 2 1, .goto 4] := rfl
theorem b_37_33 : am_B 37 (Int.toNat 33) = [.iload 1, .ireturn] := rfl
theorem b_38_e : am_B 38 0 = [.aload 0, .bipush (-9), .invokevirtual 39, .aload 0, .iload 1, .aload 0, .getfield 73, .getfield 131, .invokevirtual 42, .pop, .aload 0, .getfield 64, .invokevirtual 45, .return_] := rfl
theorem b_39_e : am_B 39 0 = [.aload 0, .getfield 64, .invokevirtual 40, .bipush 0, .istore 2, .jsr 9] := rfl
theorem b_39_9 : am_B 39 (Int.toNat 9) = [.iload 2, .aload 0, .getfield 73, .getfield 132, .if_icmp .ge 66, .aload 0, .getfield 73, .getfield 129, .iload 2, .aaload, .getfield 386, .ifCond .eq 60, .iload 2, .iload 1, .if_icmp .eq 60, .aload 0, .getfield 64, .iload 2, .aload 0, .getfield 73, .getfield 129, .iload 2, .aaload, .getfield 385, .invokevirtual 41, .jsr 60] := rfl
theorem b_39_60 : am_B 39 (Int.toNat 60) = [.iinc 2 1, .goto 9] := rfl
theorem b_39_66 : am_B 39 (Int.toNat 66) = [.return_] := rfl
theorem b_40_e : am_B 40 0 = [.aload 0, .bipush 0, .putfield 5, .return_] := rfl
theorem b_41_e : am_B 41 0 = [.aload 0, .getfield 5, .bipush 5, .if_icmp .lt 9, .return_] := rfl
theorem b_41_9 : am_B 41 (Int.toNat 9) = [.aload 0, .getfield 5, .istore 3, .jsr 14] := rfl
theorem b_41_14 : am_B 41 (Int.toNat 14) = [.iload 3, .ifCond .le 64, .aload 0, .getfield 1, .iload 3, .bipush 1, .isub, .iaload, .iload 2, .if_icmp .le 64, .aload 0, .getfield 1, .iload 3, .aload 0, .getfield 1, .iload 3, .bipush 1, .isub, .iaload, .iastore, .aload 0, .getfield 0, .iload 3, .aload 0, .getfield 0, .iload 3, .bipush 1, .isub, .iaload, .iastore, .iinc 3 (-1), .goto 14] := rfl
theorem b_41_64 : am_B 41 (Int.toNat 64) = [.aload 0, .getfield 1, .iload 3, .iload 2, .iastore, .aload 0, .getfield 0, .iload 3, .iload 1, .iastore, .aload 0, .dup, .getfield 5, .bipush 1, .iadd, .putfield 5, .return_] := rfl
theorem b_42_e : am_B 42 0 = [.bipush 0, .istore 3, .aload 0, .getfield 64, .invokevirtual 43, .bipush 0, .istore 4, .jsr 12] := rfl
theorem b_42_12 : am_B 42 (Int.toNat 12) = [.iload 4, .aload 0, .getfield 73, .getfield 133, .if_icmp .ge 109, .iload 1, .aload 2, .iload 4, .iaload, .isub, .istore 5, .iload 5, .invokevirtual 23, .ifCond .eq 103, .aload 0, .getfield 73, .getfield 130, .iload 4, .aaload, .getfield 448, .iload 5, .iaload, .bipush (-1), .if_icmp .eq 103, .aload 0, .getfield 64, .iload 4, .aload 0, .getfield 73, .getfield 130, .iload 4, .aaload, .getfield 448, .iload 5, .iaload, .aload 0, .getfield 73, .getfield 130, .iload 4, .aaload, .getfield 449, .iload 5, .iaload, .invokevirtual 44, .bipush 1, .istore 3, .jsr 103] := rfl
theorem b_42_103 : am_B 42 (Int.toNat 103) = [.iinc 4 1, .goto 12] := rfl
theorem b_42_109 : am_B 42 (Int.toNat 109) = [.iload 3, .areturn] := rfl
theorem b_43_e : am_B 43 0 = [.bipush 0, .istore 1, .jsr 2] := rfl
theorem b_43_2 : am_B 43 (Int.toNat 2) = [.iload 1, .bipush 5, .if_icmp .ge 27, .aload 0, .getfield 6, .iload 1, .bipush 0, .bastore, .aload 0, .getfield 8, .iload 1, .bipush 0, .iastore, .iinc 1 1, .goto 2] := rfl
theorem b_43_27 : am_B 43 (Int.toNat 27) = [.return_] := rfl
theorem b_44_e : am_B 44 0 = [.aload 0, .getfield 6, .iload 1, .bipush 1, .bastore, .aload 0, .getfield 7, .iload 1, .iload 2, .iastore, .aload 0, .getfield 8, .iload 1, .iload 3, .iastore, .return_] := rfl
theorem b_45_e : am_B 45 0 = [.bipush 0, .istore 1, .jsr 2] := rfl
theorem b_45_2 : am_B 45 (Int.toNat 2) = [.iload 1, .bipush 45, .if_icmp .gt 48, .aload 0, .invokevirtual 46, .ifCond .eq 22, .aload 0, .invokevirtual 53, .goto 26] := rfl
theorem b_45_22 : am_B 45 (Int.toNat 22) = [.aload 0, .invokevirtual 54, .jsr 26] := rfl
theorem b_45_26 : am_B 45 (Int.toNat 26) = [.istore 2, .iload 2, .ifCond .ge 32, .return_] := rfl
theorem b_45_32 : am_B 45 (Int.toNat 32) = [.aload 0, .getfield 8, .iload 2, .dup2, .iaload, .bipush 2, .idiv, .iastore, .iinc 1 1, .goto 2] := rfl
theorem b_45_48 : am_B 45 (Int.toNat 48) = [.return_] := rfl
theorem b_46_e : am_B 46 0 = [.aload 0, .invokevirtual 47, .sipush 0, .lcmp, .ifCond .ge 11, .bipush 0, .areturn] := rfl
theorem b_46_11 : am_B 46 (Int.toNat 11) = [.bipush 0, .istore 1, .jsr 13] := rfl
theorem b_46_13 : am_B 46 (Int.toNat 13) = [.iload 1, .aload 0, .getfield 5, .if_icmp .ge 34, .aload 0, .getfield 2, .iload 1, .bipush 1, .bastore, .iinc 1 1, .goto 13] := rfl
theorem b_46_34 : am_B 46 (Int.toNat 34) = [.bipush 0, .istore 1, .jsr 36] := rfl
theorem b_46_36 : am_B 46 (Int.toNat 36) = [.iload 1, .aload 0, .getfield 5, .if_icmp .ge 64, .aload 0, .invokevirtual 48, .aload 0, .invokevirtual 51, .ifCond .ne 58, .goto 64] := rfl
theorem b_46_58 : am_B 46 (Int.toNat 58) = [.iinc 1 1, .goto 36] := rfl
theorem b_46_64 : am_B 46 (Int.toNat 64) = [.aload 0, .invokevirtual 52, .bipush 1, .areturn] := rfl
theorem b_47_e : am_B 47 0 = [.sipush 0, .lstore 1, .bipush 0, .istore 3, .jsr 4] := rfl
theorem b_47_4 : am_B 47 (Int.toNat 4) = [.iload 3, .bipush 5, .if_icmp .ge 25, .lload 1, .aload 0, .getfield 8, .iload 3, .iaload, .i2l, .ladd, .lstore 1, .iinc 3 1, .goto 4] := rfl
theorem b_47_25 : am_B 47 (Int.toNat 25) = [.lload 1, .lreturn] := rfl
theorem b_48_e : am_B 48 0 = [.bipush (-1), .istore 1, .bipush 0, .istore 2, .jsr 4] := rfl
theorem b_48_4 : am_B 48 (Int.toNat 4) = [.iload 2, .aload 0, .getfield 5, .if_icmp .ge 40, .aload 0, .getfield 2, .iload 2, .baload, .ifCond .eq 34, .aload 0, .iload 2, .iload 1, .aload 0, .iload 2, .invokevirtual 49, .invokevirtual 50, .iload 2, .istore 1, .jsr 34] := rfl
theorem b_48_34 : am_B 48 (Int.toNat 34) = [.iinc 2 1, .goto 4] := rfl
theorem b_48_40 : am_B 48 (Int.toNat 40) = [.return_] := rfl
theorem b_49_e : am_B 49 0 = [.iload 1, .bipush 1, .iadd, .istore 2, .jsr 4] := rfl
theorem b_49_4 : am_B 49 (Int.toNat 4) = [.iload 2, .aload 0, .getfield 5, .if_icmp .ge 29, .aload 0, .getfield 2, .iload 2, .baload, .ifCond .eq 23, .iload 2, .ireturn] := rfl
theorem b_49_23 : am_B 49 (Int.toNat 23) = [.iinc 2 1, .goto 4] := rfl
theorem b_49_29 : am_B 49 (Int.toNat 29) = [.bipush (-1), .ireturn] := rfl
theorem b_50_e : am_B 50 0 = [.aload 0, .getfield 1, .iload 1, .iaload, .istore 4, .iload 2, .ifCond .ge 16, .sipush 1, .goto 26] := rfl
theorem b_50_16 : am_B 50 (Int.toNat 16) = [.iload 4, .aload 0, .getfield 1, .iload 2, .iaload, .isub, .i2l, .jsr 26] := rfl
theorem b_50_26 : am_B 50 (Int.toNat 26) = [.lstore 5, .iload 3, .ifCond .ge 36, .sipush 1, .goto 46] := rfl
theorem b_50_36 : am_B 50 (Int.toNat 36) = [.aload 0, .getfield 1, .iload 3, .iaload, .iload 4, .isub, .i2l, .jsr 46] := rfl
theorem b_50_46 : am_B 50 (Int.toNat 46) = [.lstore 7, .sipush 0, .lstore 9, .bipush 0, .istore 11, .jsr 54] := rfl
theorem b_50_54 : am_B 50 (Int.toNat 54) = [.iload 11, .bipush 5, .if_icmp .ge 205, .aload 0, .getfield 6, .iload 11, .baload, .ifCond .ne 73, .goto 199] := rfl
theorem b_50_73 : am_B 50 (Int.toNat 73) = [.aload 0, .getfield 7, .iload 11, .iaload, .istore 12, .iload 12, .iload 4, .if_icmp .ge 131, .lload 9, .aload 0, .getfield 8, .iload 11, .iaload, .i2l, .lload 7, .lmul, .iload 2, .ifCond .ge 110, .bipush 1, .goto 123] := rfl
theorem b_50_110 : am_B 50 (Int.toNat 110) = [.bipush 0, .iload 12, .aload 0, .getfield 1, .iload 2, .iaload, .isub, .fadd, .jsr 123] := rfl
theorem b_50_123 : am_B 50 (Int.toNat 123) = [.i2l, .lmul, .ladd, .lstore 9, .goto 199] := rfl
theorem b_50_131 : am_B 50 (Int.toNat 131) = [.iload 12, .iload 4, .if_icmp .le 180, .lload 9, .aload 0, .getfield 8, .iload 11, .iaload, .i2l, .lload 5, .lmul, .iload 3, .ifCond .ge 159, .bipush 1, .goto 172] := rfl
theorem b_50_159 : am_B 50 (Int.toNat 159) = [.bipush 0, .aload 0, .getfield 1, .iload 3, .iaload, .iload 12, .isub, .fadd, .jsr 172] := rfl
theorem b_50_172 : am_B 50 (Int.toNat 172) = [.i2l, .lmul, .ladd, .lstore 9, .goto 199] := rfl
theorem b_50_180 : am_B 50 (Int.toNat 180) = [.lload 9, .aload 0, .getfield 8, .iload 11, .iaload, .i2l, .lload 5, .lmul, .lload 7, .lmul, .ladd, .lstore 9, .jsr 199] := rfl
theorem b_50_199 : am_B 50 (Int.toNat 199) = [.iinc 11 1, .goto 54] := rfl
theorem b_50_205 : am_B 50 (Int.toNat 205) = [.aload 0, .getfield 3, .iload 1, .lload 9, .lastore, .aload 0, .getfield 4, .iload 1, .lload 5, .lload 7, .lmul, .lastore, .return_] := rfl
theorem b_51_e : am_B 51 0 = [.bipush 0, .istore 1, .bipush 0, .istore 2, .jsr 4] := rfl
theorem b_51_4 : am_B 51 (Int.toNat 4) = [.iload 2, .aload 0, .getfield 5, .if_icmp .ge 47, .aload 0, .getfield 2, .iload 2, .baload, .ifCond .eq 41, .aload 0, .getfield 3, .iload 2, .laload, .sipush 0, .lcmp, .ifCond .ge 41, .aload 0, .getfield 2, .iload 2, .bipush 0, .bastore, .bipush 1, .istore 1, .jsr 41] := rfl
theorem b_51_41 : am_B 51 (Int.toNat 41) = [.iinc 2 1, .goto 4] := rfl
theorem b_51_47 : am_B 51 (Int.toNat 47) = [.iload 1, .areturn] := rfl
theorem b_52_e : am_B 52 0 = [.bipush (-1), .istore 1, .bipush 0, .istore 2, .bipush 0, .istore 3, .jsr 6] := rfl
theorem b_52_6 : am_B 52 (Int.toNat 6) = [.iload 3, .aload 0, .getfield 5, .if_icmp .ge 71, .aload 0, .getfield 2, .iload 3, .baload, .ifCond .eq 65, .iload 2, .ifCond .ne 38, .aload 0, .getfield 3, .iload 3, .laload, .sipush 0, .lcmp, .ifCond .le 42, .jsr 38] := rfl
theorem b_52_38 : am_B 52 (Int.toNat 38) = [.bipush 1, .goto 43] := rfl
theorem b_52_42 : am_B 52 (Int.toNat 42) = [.bipush 0, .jsr 43] := rfl
theorem b_52_43 : am_B 52 (Int.toNat 43) = [.istore 2, .iload 1, .ifCond .lt 63, .aload 0, .getfield 0, .iload 3, .iaload, .aload 0, .getfield 0, .iload 1, .iaload, .if_icmp .ge 65, .jsr 63] := rfl
theorem b_52_63 : am_B 52 (Int.toNat 63) = [.iload 3, .istore 1, .jsr 65] := rfl
theorem b_52_65 : am_B 52 (Int.toNat 65) = [.iinc 3 1, .goto 6] := rfl
theorem b_52_71 : am_B 52 (Int.toNat 71) = [.bipush 0, .istore 3, .jsr 73] := rfl
theorem b_52_73 : am_B 52 (Int.toNat 73) = [.iload 3, .aload 0, .getfield 5, .if_icmp .ge 114, .aload 0, .getfield 3, .iload 3, .laload, .sipush 0, .lcmp, .ifCond .ne 108, .iload 2, .ifCond .ne 101, .iload 3, .iload 1, .if_icmp .eq 108, .jsr 101] := rfl
theorem b_52_101 : am_B 52 (Int.toNat 101) = [.aload 0, .getfield 2, .iload 3, .bipush 0, .bastore, .jsr 108] := rfl
theorem b_52_108 : am_B 52 (Int.toNat 108) = [.iinc 3 1, .goto 73] := rfl
theorem b_52_114 : am_B 52 (Int.toNat 114) = [.return_] := rfl
theorem b_53_e : am_B 53 0 = [.aload 0, .invokevirtual 54, .ifCond .ge 9, .bipush (-1), .ireturn] := rfl
theorem b_53_9 : am_B 53 (Int.toNat 9) = [.bipush (-1), .istore 1, .bipush 0, .istore 2, .bipush 0, .istore 3, .jsr 15] := rfl
theorem b_53_15 : am_B 53 (Int.toNat 15) = [.iload 3, .bipush 5, .if_icmp .ge 138, .aload 0, .getfield 6, .iload 3, .baload, .ifCond .ne 32, .goto 132] := rfl
theorem b_53_32 : am_B 53 (Int.toNat 32) = [.aload 0, .aload 0, .getfield 7, .iload 3, .iaload, .aload 0, .getfield 10, .invokevirtual 55, .iload 2, .ifCond .ne 76, .aload 0, .getfield 10, .getfield 256, .aload 0, .getfield 9, .bipush 3, .iaload, .i2l, .aload 0, .getfield 10, .getfield 257, .lmul, .lcmp, .ifCond .le 80, .jsr 76] := rfl
theorem b_53_76 : am_B 53 (Int.toNat 76) = [.bipush 1, .goto 81] := rfl
theorem b_53_80 : am_B 53 (Int.toNat 80) = [.bipush 0, .jsr 81] := rfl
theorem b_53_81 : am_B 53 (Int.toNat 81) = [.istore 2, .aload 0, .getfield 8, .iload 3, .iaload, .ifCond .ge 132, .iload 1, .ifCond .lt 109, .aload 0, .getfield 11, .aload 0, .getfield 10, .invokevirtual 59, .ifCond .eq 132, .jsr 109] := rfl
theorem b_53_109 : am_B 53 (Int.toNat 109) = [.iload 3, .istore 1, .aload 0, .getfield 11, .aload 0, .getfield 10, .getfield 256, .aload 0, .getfield 10, .getfield 257, .invokevirtual 58, .jsr 132] := rfl
theorem b_53_132 : am_B 53 (Int.toNat 132) = [.iinc 3 1, .goto 15] := rfl
theorem b_53_138 : am_B 53 (Int.toNat 138) = [.iload 2, .ifCond .eq 146, .iload 1, .goto 147] := rfl
theorem b_53_146 : am_B 53 (Int.toNat 146) = [.bipush (-1), .jsr 147] := rfl
theorem b_53_147 : am_B 53 (Int.toNat 147) = [.ireturn] := rfl
theorem b_54_e : am_B 54 0 = [.bipush (-1), .istore 1, .bipush 0, .istore 2, .jsr 4] := rfl
theorem b_54_4 : am_B 54 (Int.toNat 4) = [.iload 2, .bipush 5, .if_icmp .ge 45, .aload 0, .getfield 8, .iload 2, .iaload, .ifCond .ge 39, .iload 1, .ifCond .lt 37, .aload 0, .getfield 8, .iload 2, .iaload, .aload 0, .getfield 8, .iload 1, .iaload, .if_icmp .ge 39, .jsr 37] := rfl
theorem b_54_37 : am_B 54 (Int.toNat 37) = [.iload 2, .istore 1, .jsr 39] := rfl
theorem b_54_39 : am_B 54 (Int.toNat 39) = [.iinc 2 1, .goto 4] := rfl
theorem b_54_45 : am_B 54 (Int.toNat 45) = [.iload 1, .ireturn] := rfl
theorem b_55_e : am_B 55 0 = [.bipush (-1), .istore 3, .bipush (-1), .istore 4, .bipush 0, .istore 5, .jsr 8] := rfl
theorem b_55_8 : am_B 55 (Int.toNat 8) = [.iload 5, .aload 0, .getfield 5, .if_icmp .ge 77, .aload 0, .getfield 2, .iload 5, .baload, .ifCond .eq 41, .aload 0, .getfield 1, .iload 5, .iaload, .iload 1, .if_icmp .gt 41, .iload 5, .istore 3, .jsr 41] := rfl
theorem b_55_41 : am_B 55 (Int.toNat 41) = [.aload 0, .getfield 2, .iload 5, .baload, .ifCond .eq 71, .aload 0, .getfield 1, .iload 5, .iaload, .iload 1, .if_icmp .lt 71, .iload 4, .ifCond .ge 71, .iload 5, .istore 4, .jsr 71] := rfl
theorem b_55_71 : am_B 55 (Int.toNat 71) = [.iinc 5 1, .goto 8] := rfl
theorem b_55_77 : am_B 55 (Int.toNat 77) = [.sipush 1, .lstore 5, .sipush 0, .lstore 7, .iload 3, .ifCond .lt 133, .iload 4, .iload 3, .if_icmp .le 133, .aload 0, .getfield 1, .iload 4, .iaload, .aload 0, .getfield 1, .iload 3, .iaload, .isub, .i2l, .lstore 5, .aload 0, .aload 0, .getfield 1, .iload 3, .iaload, .aload 0, .getfield 1, .iload 4, .iaload, .iload 1, .invokevirtual 56, .lstore 7, .goto 157] := rfl
theorem b_55_133 : am_B 55 (Int.toNat 133) = [.iload 3, .iload 4, .if_icmp .eq 157, .aload 0, .aload 0, .getfield 1, .iload 3, .iload 4, .fadd, .iaload, .iload 1, .invokevirtual 57, .lstore 7, .jsr 157] := rfl
theorem b_55_157 : am_B 55 (Int.toNat 157) = [.aload 2, .sipush 1000, .aload 0, .getfield 9, .bipush 2, .iaload, .i2l, .lmul, .lload 5, .lmul, .aload 0, .getfield 9, .bipush 1, .iaload, .i2l, .lload 7, .lmul, .lsub, .sipush 1000, .lload 5, .lmul, .invokevirtual 58, .return_] := rfl
theorem b_56_e : am_B 56 0 = [.sipush 0, .lstore 4, .bipush 0, .istore 6, .jsr 6] := rfl
theorem b_56_6 : am_B 56 (Int.toNat 6) = [.iload 6, .bipush 5, .if_icmp .ge 82, .aload 0, .getfield 7, .iload 6, .iaload, .istore 7, .aload 0, .getfield 6, .iload 6, .baload, .ifCond .eq 76, .iload 7, .iload 1, .if_icmp .le 76, .iload 7, .iload 2, .if_icmp .ge 76, .lload 4, .aload 0, .getfield 8, .iload 6, .iaload, .i2l, .iload 3, .iload 7, .fsub, .iload 1, .isub, .i2l, .lmul, .iload 2, .iload 3, .iload 7, .fadd, .isub, .i2l, .lmul, .ladd, .lstore 4, .jsr 76] := rfl
theorem b_56_76 : am_B 56 (Int.toNat 76) = [.iinc 6 1, .goto 6] := rfl
theorem b_56_82 : am_B 56 (Int.toNat 82) = [.lload 4, .lreturn] := rfl
theorem b_57_e : am_B 57 0 = [.sipush 0, .lstore 3, .bipush 0, .istore 5, .jsr 5] := rfl
theorem b_57_5 : am_B 57 (Int.toNat 5) = [.iload 5, .bipush 5, .if_icmp .ge 89, .aload 0, .getfield 7, .iload 5, .iaload, .istore 6, .aload 0, .getfield 6, .iload 5, .baload, .ifCond .eq 83, .iload 6, .iload 1, .if_icmp .le 40, .bipush 1, .goto 41] := rfl
theorem b_57_40 : am_B 57 (Int.toNat 40) = [.bipush 0, .jsr 41] := rfl
theorem b_57_41 : am_B 57 (Int.toNat 41) = [.iload 2, .iload 1, .if_icmp .le 50, .bipush 1, .goto 51] := rfl
theorem b_57_50 : am_B 57 (Int.toNat 50) = [.bipush 0, .jsr 51] := rfl
theorem b_57_51 : am_B 57 (Int.toNat 51) = [.if_icmp .ne 83, .lload 3, .aload 0, .getfield 8, .iload 5, .iaload, .i2l, .iload 2, .iload 1, .isub, .fmul, .iload 6, .iload 1, .isub, .fmul, .fsub, .i2l, .lmul, .ladd, .lstore 3, .jsr 83] := rfl
theorem b_57_83 : am_B 57 (Int.toNat 83) = [.iinc 5 1, .goto 5] := rfl
theorem b_57_89 : am_B 57 (Int.toNat 89) = [.lload 3, .lreturn] := rfl
theorem b_58_e : am_B 58 0 = [.aload 0, .lload 1, .putfield 256, .aload 0, .lload 3, .putfield 257, .return_] := rfl
theorem b_59_e : am_B 59 0 = [.aload 0, .getfield 256, .aload 1, .getfield 257, .lmul, .aload 1, .getfield 256, .aload 0, .getfield 257, .lmul, .lcmp, .ifCond .ge 26, .bipush 1, .goto 27] := rfl
theorem b_59_26 : am_B 59 (Int.toNat 26) = [.bipush 0, .jsr 27] := rfl
theorem b_59_27 : am_B 59 (Int.toNat 27) = [.areturn] := rfl
theorem b_60_e : am_B 60 0 = [.iload 1, .invokevirtual 23, .ifCond .ne 9, .bipush (-1), .ireturn] := rfl
theorem b_60_9 : am_B 60 (Int.toNat 9) = [.aload 0, .getfield 512, .invokevirtual 36, .ifCond .eq 22, .bipush (-3), .ireturn] := rfl
theorem b_60_22 : am_B 60 (Int.toNat 22) = [.aload 0, .getfield 513, .iload 1, .invokevirtual 38, .aload 0, .getfield 513, .getfield 64, .invokevirtual 61, .ireturn] := rfl
theorem b_61_e : am_B 61 0 = [.bipush 0, .istore 1, .bipush 0, .istore 2, .jsr 4] := rfl
theorem b_61_4 : am_B 61 (Int.toNat 4) = [.iload 2, .aload 0, .getfield 5, .if_icmp .ge 38, .aload 0, .getfield 2, .iload 2, .baload, .ifCond .eq 32, .iload 1, .bipush 1, .aload 0, .getfield 0, .iload 2, .iaload, .ishl, .ior, .istore 1, .jsr 32] := rfl
theorem b_61_32 : am_B 61 (Int.toNat 32) = [.iinc 2 1, .goto 4] := rfl
theorem b_61_38 : am_B 61 (Int.toNat 38) = [.iload 1, .ireturn] := rfl
theorem b_62_e : am_B 62 0 = [.iload 1, .invokevirtual 23, .ifCond .eq 35, .aload 0, .getfield 512, .iload 2, .invokevirtual 14, .ifCond .eq 35, .iload 3, .invokevirtual 63, .ifCond .eq 35, .aload 0, .getfield 512, .invokevirtual 36, .ifCond .eq 39, .jsr 35] := rfl
theorem b_62_35 : am_B 62 (Int.toNat 35) = [.sipush (-9223372036854775808), .lreturn] := rfl
theorem b_62_39 : am_B 62 (Int.toNat 39) = [.aload 0, .getfield 513, .iload 1, .invokevirtual 38, .aload 0, .getfield 513, .getfield 64, .iload 2, .aload 0, .getfield 515, .invokevirtual 55, .aload 0, .getfield 515, .iload 3, .invokevirtual 64, .lreturn] := rfl
theorem b_63_e : am_B 63 0 = [.iload 0, .ifCond .eq 9, .iload 0, .bipush 1, .if_icmp .ne 13, .jsr 9] := rfl
theorem b_63_9 : am_B 63 (Int.toNat 9) = [.bipush 1, .goto 14] := rfl
theorem b_63_13 : am_B 63 (Int.toNat 13) = [.bipush 0, .jsr 14] := rfl
theorem b_63_14 : am_B 63 (Int.toNat 14) = [.areturn] := rfl
theorem b_64_e : am_B 64 0 = [.aload 0, .getfield 256, .fdiv, .aload 0, .getfield 257, .invokevirtual 65, .lstore 2, .lload 2, .sipush 0, .lcmp, .ifCond .gt 25, .sipush (-9223372036854775808), .lreturn] := rfl
theorem b_64_25 : am_B 64 (Int.toNat 25) = [.iload 1, .ifCond .ne 38, .aload 0, .getfield 256, .lload 2, .ldiv, .goto 44] := rfl
theorem b_64_38 : am_B 64 (Int.toNat 38) = [.aload 0, .getfield 257, .lload 2, .ldiv, .jsr 44] := rfl
theorem b_64_44 : am_B 64 (Int.toNat 44) = [.lreturn] := rfl
theorem b_65_e : am_B 65 0 = [.lload 0, .lstore 4, .lload 2, .lstore 6, .bipush 0, .istore 8, .jsr 9] := rfl
theorem b_65_9 : am_B 65 (Int.toNat 9) = [.iload 8, .bipush 100, .if_icmp .ge 44, .lload 6, .sipush 0, .lcmp, .ifCond .eq 44, .lload 4, .lload 6, .lrem, .lstore 9, .lload 6, .lstore 4, .lload 9, .lstore 6, .iinc 8 1, .goto 9] := rfl
theorem b_65_44 : am_B 65 (Int.toNat 44) = [.lload 4, .lreturn] := rfl
theorem b_66_e : am_B 66 0 = [.iload 1, .invokevirtual 23, .ifCond .eq 35, .aload 0, .getfield 512, .iload 2, .invokevirtual 17, .ifCond .eq 35, .iload 3, .invokevirtual 63, .ifCond .eq 35, .aload 0, .getfield 512, .invokevirtual 36, .ifCond .eq 39, .jsr 35] := rfl
theorem b_66_35 : am_B 66 (Int.toNat 35) = [.sipush (-9223372036854775808), .lreturn] := rfl
theorem b_66_39 : am_B 66 (Int.toNat 39) = [.aload 0, .getfield 513, .iload 1, .invokevirtual 38, .aload 0, .getfield 513, .getfield 64, .iload 2, .aload 0, .getfield 515, .invokevirtual 67, .aload 0, .getfield 515, .iload 3, .invokevirtual 64, .lreturn] := rfl
theorem b_67_e : am_B 67 0 = [.aload 2, .sipush 0, .sipush 1, .invokevirtual 58, .bipush 0, .istore 3, .jsr 8] := rfl
theorem b_67_8 : am_B 67 (Int.toNat 8) = [.iload 3, .aload 0, .getfield 5, .if_icmp .ge 57, .aload 0, .getfield 2, .iload 3, .baload, .ifCond .eq 51, .aload 0, .getfield 0, .iload 3, .iaload, .iload 1, .if_icmp .ne 51, .aload 2, .aload 0, .getfield 3, .iload 3, .laload, .aload 0, .getfield 4, .iload 3, .laload, .invokevirtual 58, .jsr 51] := rfl
theorem b_67_51 : am_B 67 (Int.toNat 51) = [.iinc 3 1, .goto 8] := rfl
theorem b_67_57 : am_B 67 (Int.toNat 57) = [.return_] := rfl
theorem b_68_e : am_B 68 0 = [.iload 1, .ifCond .lt 19, .iload 1, .bipush 3, .if_icmp .gt 19, .aload 0, .getfield 512, .invokevirtual 36, .ifCond .eq 23, .jsr 19] := rfl
theorem b_68_19 : am_B 68 (Int.toNat 19) = [.sipush (-9223372036854775808), .lreturn] := rfl
theorem b_68_23 : am_B 68 (Int.toNat 23) = [.aload 0, .getfield 513, .bipush (-9), .invokevirtual 39, .aload 0, .getfield 513, .sipush (-1000000000), .sipush 1, .invokevirtual 69, .ifCond .ne 50, .sipush (-9223372036854775808), .lreturn] := rfl
theorem b_68_50 : am_B 68 (Int.toNat 50) = [.iload 1, .bipush 2, .if_icmp .ne 64, .aload 0, .getfield 513, .getfield 66, .i2l, .lreturn] := rfl
theorem b_68_64 : am_B 68 (Int.toNat 64) = [.iload 1, .bipush 3, .if_icmp .ne 80, .aload 0, .getfield 513, .getfield 67, .i2l, .goto 91] := rfl
theorem b_68_80 : am_B 68 (Int.toNat 80) = [.aload 0, .getfield 513, .getfield 65, .iload 1, .invokevirtual 64, .jsr 91] := rfl
theorem b_68_91 : am_B 68 (Int.toNat 91) = [.lreturn] := rfl
theorem b_69_e : am_B 69 0 = [.bipush 0, .istore 5, .aload 0, .getfield 75, .lload 1, .lload 3, .invokevirtual 58, .bipush 0, .istore 6, .jsr 15] := rfl
theorem b_69_15 : am_B 69 (Int.toNat 15) = [.iload 6, .bipush 24, .if_icmp .ge 79, .aload 0, .iload 6, .aload 0, .getfield 73, .getfield 131, .invokevirtual 42, .ifCond .eq 73, .aload 0, .getfield 64, .invokevirtual 45, .aload 0, .iload 6, .iload 5, .invokevirtual 70, .bipush 1, .istore 5, .aload 0, .getfield 75, .aload 0, .getfield 65, .invokevirtual 59, .ifCond .ne 73, .goto 79] := rfl
theorem b_69_73 : am_B 69 (Int.toNat 73) = [.iinc 6 1, .goto 15] := rfl
theorem b_69_79 : am_B 69 (Int.toNat 79) = [.iload 5, .areturn] := rfl
theorem b_70_e : am_B 70 0 = [.iload 2, .istore 3, .bipush 0, .istore 4, .jsr 5] := rfl
theorem b_70_5 : am_B 70 (Int.toNat 5) = [.iload 4, .aload 0, .getfield 73, .getfield 133, .if_icmp .ge 109, .aload 0, .getfield 64, .getfield 6, .iload 4, .baload, .ifCond .eq 103, .aload 0, .getfield 64, .aload 0, .getfield 64, .getfield 7, .iload 4, .iaload, .aload 0, .getfield 74, .invokevirtual 55, .iload 3, .ifCond .eq 69, .aload 0, .getfield 74, .aload 0, .getfield 65, .invokevirtual 59, .ifCond .eq 103, .jsr 69] := rfl
theorem b_70_69 : am_B 70 (Int.toNat 69) = [.aload 0, .getfield 65, .aload 0, .getfield 74, .getfield 256, .aload 0, .getfield 74, .getfield 257, .invokevirtual 58, .aload 0, .iload 1, .putfield 66, .aload 0, .iload 4, .putfield 67, .bipush 1, .istore 3, .jsr 103] := rfl
theorem b_70_103 : am_B 70 (Int.toNat 103) = [.iinc 4 1, .goto 5] := rfl
theorem b_70_109 : am_B 70 (Int.toNat 109) = [.return_] := rfl
theorem b_71_e : am_B 71 0 = [.aload 0, .getfield 512, .invokevirtual 36, .ifCond .eq 13, .bipush (-3), .ireturn] := rfl
theorem b_71_13 : am_B 71 (Int.toNat 13) = [.aload 0, .getfield 513, .bipush (-9), .invokevirtual 72, .ifCond .eq 29, .bipush 1, .goto 30] := rfl
theorem b_71_29 : am_B 71 (Int.toNat 29) = [.bipush 0, .jsr 30] := rfl
theorem b_71_30 : am_B 71 (Int.toNat 30) = [.ireturn] := rfl
theorem b_72_e : am_B 72 0 = [.aload 0, .iload 1, .invokevirtual 39, .aload 0, .getfield 64, .getfield 5, .ifCond .ne 17, .bipush 0, .areturn] := rfl
theorem b_72_17 : am_B 72 (Int.toNat 17) = [.aload 0, .sipush (-1000000000), .sipush 1, .invokevirtual 69, .ifCond .eq 57, .aload 0, .getfield 65, .getfield 256, .aload 0, .getfield 73, .getfield 128, .bipush 4, .iaload, .i2l, .aload 0, .getfield 65, .getfield 257, .lmul, .lcmp, .ifCond .lt 61, .jsr 57] := rfl
theorem b_72_57 : am_B 72 (Int.toNat 57) = [.bipush 1, .goto 62] := rfl
theorem b_72_61 : am_B 72 (Int.toNat 61) = [.bipush 0, .jsr 62] := rfl
theorem b_72_62 : am_B 72 (Int.toNat 62) = [.areturn] := rfl
theorem b_73_e : am_B 73 0 = [.aload 0, .getfield 512, .invokevirtual 36, .ifCond .eq 13, .bipush (-3), .ireturn] := rfl
theorem b_73_13 : am_B 73 (Int.toNat 13) = [.bipush 0, .istore 1, .jsr 15] := rfl
theorem b_73_15 : am_B 73 (Int.toNat 15) = [.iload 1, .aload 0, .getfield 512, .getfield 132, .if_icmp .ge 60, .aload 0, .getfield 512, .getfield 129, .iload 1, .aaload, .getfield 386, .ifCond .eq 54, .aload 0, .getfield 513, .iload 1, .invokevirtual 72, .ifCond .ne 54, .iload 1, .ireturn] := rfl
theorem b_73_54 : am_B 73 (Int.toNat 54) = [.iinc 1 1, .goto 15] := rfl
theorem b_73_60 : am_B 73 (Int.toNat 60) = [.bipush (-9), .ireturn] := rfl
theorem b_74_e : am_B 74 0 = [.iload 1, .invokevirtual 63, .ifCond .eq 17, .aload 0, .getfield 512, .invokevirtual 36, .ifCond .eq 21, .jsr 17] := rfl
theorem b_74_17 : am_B 74 (Int.toNat 17) = [.sipush (-9223372036854775808), .lreturn] := rfl
theorem b_74_21 : am_B 74 (Int.toNat 21) = [.aload 0, .getfield 513, .bipush (-9), .invokevirtual 39, .aload 0, .getfield 513, .aload 0, .getfield 512, .getfield 131, .sipush 1000000000, .sipush 1, .invokevirtual 75, .aload 0, .getfield 513, .getfield 68, .iload 1, .invokevirtual 64, .lreturn] := rfl
theorem b_75_e : am_B 75 0 = [.aload 0, .getfield 75, .lload 2, .lload 4, .invokevirtual 58, .aload 0, .getfield 68, .sipush 0, .sipush 1, .invokevirtual 58, .bipush 0, .istore 6, .jsr 22] := rfl
theorem b_75_22 : am_B 75 (Int.toNat 22) = [.iload 6, .bipush 24, .if_icmp .ge 78, .aload 0, .iload 6, .aload 1, .invokevirtual 42, .ifCond .eq 72, .aload 0, .getfield 64, .invokevirtual 45, .aload 0, .getfield 64, .aload 0, .getfield 68, .invokevirtual 76, .aload 0, .getfield 68, .aload 0, .getfield 75, .invokevirtual 59, .ifCond .ne 72, .return_] := rfl
theorem b_75_72 : am_B 75 (Int.toNat 72) = [.iinc 6 1, .goto 22] := rfl
theorem b_75_78 : am_B 75 (Int.toNat 78) = [.return_] := rfl
theorem b_76_e : am_B 76 0 = [.bipush 0, .istore 2, .jsr 2] := rfl
theorem b_76_2 : am_B 76 (Int.toNat 2) = [.iload 2, .aload 0, .getfield 5, .if_icmp .ge 71, .aload 0, .getfield 2, .iload 2, .baload, .ifCond .eq 65, .aload 0, .getfield 10, .aload 0, .getfield 3, .iload 2, .laload, .aload 0, .getfield 4, .iload 2, .laload, .invokevirtual 58, .aload 1, .aload 0, .getfield 10, .invokevirtual 59, .ifCond .eq 65, .aload 1, .aload 0, .getfield 3, .iload 2, .laload, .aload 0, .getfield 4, .iload 2, .laload, .invokevirtual 58, .jsr 65] := rfl
theorem b_76_65 : am_B 76 (Int.toNat 65) = [.iinc 2 1, .goto 2] := rfl
theorem b_76_71 : am_B 76 (Int.toNat 71) = [.return_] := rfl
theorem b_77_e : am_B 77 0 = [.aload 0, .getfield 512, .iload 1, .invokevirtual 14, .ifCond .ne 13, .bipush (-1), .ireturn] := rfl
theorem b_77_13 : am_B 77 (Int.toNat 13) = [.iload 2, .invokevirtual 78, .ifCond .ne 23, .bipush (-2), .ireturn] := rfl
theorem b_77_23 : am_B 77 (Int.toNat 23) = [.aload 0, .getfield 512, .invokevirtual 36, .ifCond .eq 36, .bipush (-3), .ireturn] := rfl
theorem b_77_36 : am_B 77 (Int.toNat 36) = [.aload 0, .getfield 513, .bipush (-9), .invokevirtual 39, .aload 0, .getfield 513, .iload 1, .iload 2, .invokevirtual 79, .aload 0, .getfield 513, .getfield 64, .invokevirtual 61, .ireturn] := rfl
theorem b_78_e : am_B 78 0 = [.iload 0, .bipush 1, .if_icmp .lt 15, .iload 0, .bipush 100000, .if_icmp .gt 15, .bipush 1, .goto 16] := rfl
theorem b_78_15 : am_B 78 (Int.toNat 15) = [.bipush 0, .jsr 16] := rfl
theorem b_78_16 : am_B 78 (Int.toNat 16) = [.areturn] := rfl
theorem b_79_e : am_B 79 0 = [.aload 0, .getfield 64, .invokevirtual 43, .aload 0, .getfield 64, .bipush 0, .iload 1, .iload 2, .invokevirtual 44, .aload 0, .getfield 64, .invokevirtual 46, .pop, .return_] := rfl
theorem b_80_e : am_B 80 0 = [.iload 1, .invokevirtual 78, .ifCond .ne 10, .bipush (-2), .ireturn] := rfl
theorem b_80_10 : am_B 80 (Int.toNat 10) = [.aload 0, .getfield 512, .invokevirtual 36, .ifCond .eq 23, .bipush (-3), .ireturn] := rfl
theorem b_80_23 : am_B 80 (Int.toNat 23) = [.aload 0, .getfield 513, .bipush (-9), .invokevirtual 39, .aload 0, .getfield 513, .invokevirtual 81, .ifCond .eq 44, .bipush 1, .ireturn] := rfl
theorem b_80_44 : am_B 80 (Int.toNat 44) = [.aload 0, .getfield 513, .iload 1, .invokevirtual 83, .ifCond .eq 59, .bipush 0, .goto 60] := rfl
theorem b_80_59 : am_B 80 (Int.toNat 59) = [.bipush 2, .jsr 60] := rfl
theorem b_80_60 : am_B 80 (Int.toNat 60) = [.ireturn] := rfl
theorem b_81_e : am_B 81 0 = [.bipush 0, .istore 1, .jsr 2] := rfl
theorem b_81_2 : am_B 81 (Int.toNat 2) = [.iload 1, .bipush 24, .if_icmp .ge 43, .aload 0, .iload 1, .aload 0, .getfield 73, .getfield 131, .invokevirtual 42, .pop, .aload 0, .getfield 64, .invokevirtual 45, .aload 0, .invokevirtual 82, .ifCond .eq 37, .bipush 1, .areturn] := rfl
theorem b_81_37 : am_B 81 (Int.toNat 37) = [.iinc 1 1, .goto 2] := rfl
theorem b_81_43 : am_B 81 (Int.toNat 43) = [.bipush 0, .areturn] := rfl
theorem b_82_e : am_B 82 0 = [.bipush 0, .istore 1, .jsr 2] := rfl
theorem b_82_2 : am_B 82 (Int.toNat 2) = [.iload 1, .aload 0, .getfield 64, .getfield 5, .if_icmp .ge 79, .aload 0, .getfield 73, .getfield 129, .aload 0, .getfield 64, .getfield 0, .iload 1, .iaload, .aaload, .getfield 387, .i2l, .lstore 2, .aload 0, .getfield 64, .getfield 2, .iload 1, .baload, .ifCond .eq 73, .aload 0, .getfield 64, .getfield 3, .iload 1, .laload, .lload 2, .aload 0, .getfield 64, .getfield 4, .iload 1, .laload, .lmul, .lcmp, .ifCond .lt 73, .bipush 1, .areturn] := rfl
theorem b_82_73 : am_B 82 (Int.toNat 73) = [.iinc 1 1, .goto 2] := rfl
theorem b_82_79 : am_B 82 (Int.toNat 79) = [.bipush 0, .areturn] := rfl
theorem b_83_e : am_B 83 0 = [.bipush 0, .istore 2, .jsr 2] := rfl
theorem b_83_2 : am_B 83 (Int.toNat 2) = [.iload 2, .aload 0, .getfield 73, .getfield 128, .bipush 0, .iaload, .if_icmp .gt 36, .aload 0, .iload 2, .iload 1, .invokevirtual 79, .aload 0, .invokevirtual 82, .ifCond .ne 30, .bipush 0, .areturn] := rfl
theorem b_83_30 : am_B 83 (Int.toNat 30) = [.iinc 2 1, .goto 2] := rfl
theorem b_83_36 : am_B 83 (Int.toNat 36) = [.bipush 1, .areturn] := rfl
theorem b_84_e : am_B 84 0 = [.iload 2, .bipush 10, .if_icmp .lt 10, .bipush 1, .goto 11] := rfl
theorem b_84_10 : am_B 84 (Int.toNat 10) = [.bipush 0, .jsr 11] := rfl
theorem b_84_11 : am_B 84 (Int.toNat 11) = [.istore 3, .iload 1, .bipush 1, .if_icmp .lt 33, .iload 1, .bipush 2, .if_icmp .gt 33, .iload 3, .ifCond .ne 37, .iload 2, .invokevirtual 63, .ifCond .ne 37, .jsr 33] := rfl
theorem b_84_33 : am_B 84 (Int.toNat 33) = [.sipush (-9223372036854775808), .lreturn] := rfl
theorem b_84_37 : am_B 84 (Int.toNat 37) = [.iload 3, .ifCond .eq 55, .aload 0, .getfield 512, .iload 2, .bipush 10, .isub, .invokevirtual 22, .ifCond .eq 65, .jsr 55] := rfl
theorem b_84_55 : am_B 84 (Int.toNat 55) = [.aload 0, .getfield 512, .invokevirtual 36, .ifCond .eq 69, .jsr 65] := rfl
theorem b_84_65 : am_B 84 (Int.toNat 65) = [.sipush (-9223372036854775808), .lreturn] := rfl
theorem b_84_69 : am_B 84 (Int.toNat 69) = [.aload 0, .getfield 513, .getfield 69, .iload 1, .bipush 1, .isub, .aaload, .astore 4, .aload 4, .getfield 194, .ifCond .ne 100, .aload 0, .getfield 513, .iload 1, .aload 4, .invokevirtual 85, .jsr 100] := rfl
theorem b_84_100 : am_B 84 (Int.toNat 100) = [.iload 3, .ifCond .eq 118, .aload 4, .getfield 193, .iload 2, .bipush 10, .isub, .iaload, .i2l, .goto 127] := rfl
theorem b_84_118 : am_B 84 (Int.toNat 118) = [.aload 4, .getfield 192, .iload 2, .invokevirtual 64, .jsr 127] := rfl
theorem b_84_127 : am_B 84 (Int.toNat 127) = [.lreturn] := rfl
theorem b_85_e : am_B 85 0 = [.bipush 1, .istore 3, .bipush 0, .istore 4, .jsr 5] := rfl
theorem b_85_5 : am_B 85 (Int.toNat 5) = [.iload 4, .aload 0, .getfield 73, .getfield 133, .if_icmp .ge 29, .iload 3, .iload 1, .bipush 1, .iadd, .imul, .istore 3, .iinc 4 1, .goto 5] := rfl
theorem b_85_29 : am_B 85 (Int.toNat 29) = [.aload 0, .bipush (-9), .invokevirtual 39, .aload 2, .getfield 192, .sipush 1000000000, .sipush 1, .invokevirtual 58, .bipush 0, .istore 4, .jsr 49] := rfl
theorem b_85_49 : am_B 85 (Int.toNat 49) = [.iload 4, .iload 3, .if_icmp .ge 156, .aload 0, .iload 4, .iload 1, .bipush 1, .iadd, .invokevirtual 86, .aload 0, .aload 0, .getfield 76, .aload 2, .getfield 192, .getfield 256, .aload 2, .getfield 192, .getfield 257, .invokevirtual 75, .aload 0, .getfield 68, .aload 2, .getfield 192, .invokevirtual 59, .ifCond .eq 150, .aload 2, .getfield 192, .aload 0, .getfield 68, .getfield 256, .aload 0, .getfield 68, .getfield 257, .invokevirtual 58, .bipush 0, .istore 5, .jsr 124] := rfl
theorem b_85_124 : am_B 85 (Int.toNat 124) = [.iload 5, .bipush 5, .if_icmp .ge 150, .aload 2, .getfield 193, .iload 5, .aload 0, .getfield 76, .iload 5, .iaload, .iastore, .iinc 5 1, .goto 124] := rfl
theorem b_85_150 : am_B 85 (Int.toNat 150) = [.iinc 4 1, .goto 49] := rfl
theorem b_85_156 : am_B 85 (Int.toNat 156) = [.aload 2, .bipush 1, .putfield 194, .return_] := rfl
theorem b_86_e : am_B 86 0 = [.iload 1, .istore 3, .aload 0, .getfield 73, .getfield 133, .bipush 1, .isub, .istore 4, .jsr 13] := rfl
theorem b_86_13 : am_B 86 (Int.toNat 13) = [.iload 4, .ifCond .lt 54, .aload 0, .getfield 76, .iload 4, .iload 2, .ifCond .le 34, .iload 3, .iload 2, .irem, .goto 35] := rfl
theorem b_86_34 : am_B 86 (Int.toNat 34) = [.bipush 0, .jsr 35] := rfl
theorem b_86_35 : am_B 86 (Int.toNat 35) = [.iastore, .iload 2, .ifCond .le 46, .iload 3, .iload 2, .idiv, .goto 47] := rfl
theorem b_86_46 : am_B 86 (Int.toNat 46) = [.bipush 0, .jsr 47] := rfl
theorem b_86_47 : am_B 86 (Int.toNat 47) = [.istore 3, .iinc 4 (-1), .goto 13] := rfl
theorem b_86_54 : am_B 86 (Int.toNat 54) = [.return_] := rfl
theorem b_87_e : am_B 87 0 = [.aload 0, .getfield 512, .iload 1, .invokevirtual 22, .ifCond .eq 21, .aload 0, .getfield 512, .invokevirtual 36, .ifCond .eq 25, .jsr 21] := rfl
theorem b_87_21 : am_B 87 (Int.toNat 21) = [.sipush (-9223372036854775808), .lreturn] := rfl
theorem b_87_25 : am_B 87 (Int.toNat 25) = [.aload 0, .getfield 513, .bipush (-9), .invokevirtual 39, .aload 0, .getfield 513, .iload 1, .invokevirtual 88, .lreturn] := rfl
theorem b_88_e : am_B 88 0 = [.sipush 0, .lstore 2, .bipush 0, .istore 4, .jsr 5] := rfl
theorem b_88_5 : am_B 88 (Int.toNat 5) = [.iload 4, .bipush 24, .if_icmp .ge 91, .aload 0, .iload 4, .aload 0, .getfield 73, .getfield 131, .invokevirtual 42, .pop, .aload 0, .getfield 64, .getfield 6, .iload 1, .baload, .ifCond .eq 85, .aload 0, .getfield 64, .invokevirtual 45, .aload 0, .getfield 64, .aload 0, .getfield 64, .getfield 7, .iload 1, .iaload, .aload 0, .getfield 74, .invokevirtual 55, .lload 2, .aload 0, .getfield 74, .aload 0, .getfield 64, .getfield 8, .iload 1, .iaload, .i2l, .invokevirtual 89, .ladd, .lstore 2, .jsr 85] := rfl
theorem b_88_85 : am_B 88 (Int.toNat 85) = [.iinc 4 1, .goto 5] := rfl
theorem b_88_91 : am_B 88 (Int.toNat 91) = [.lload 2, .lreturn] := rfl
theorem b_89_e : am_B 89 0 = [.aload 0, .getfield 257, .sipush 0, .lcmp, .ifCond .le 23, .aload 0, .getfield 256, .lload 1, .lmul, .aload 0, .getfield 257, .ldiv, .goto 24] := rfl
theorem b_89_23 : am_B 89 (Int.toNat 23) = [.sipush 0, .jsr 24] := rfl
theorem b_89_24 : am_B 89 (Int.toNat 24) = [.lreturn] := rfl
theorem b_90_e : am_B 90 0 = [.aload 0, .getfield 512, .iload 1, .invokevirtual 17, .ifCond .eq 21, .aload 0, .getfield 512, .invokevirtual 36, .ifCond .eq 25, .jsr 21] := rfl
theorem b_90_21 : am_B 90 (Int.toNat 21) = [.sipush (-9223372036854775808), .lreturn] := rfl
theorem b_90_25 : am_B 90 (Int.toNat 25) = [.aload 0, .getfield 513, .bipush (-9), .invokevirtual 39, .aload 0, .getfield 513, .iload 1, .invokevirtual 91, .lreturn] := rfl
theorem b_91_e : am_B 91 0 = [.sipush 0, .lstore 2, .bipush 0, .istore 4, .jsr 5] := rfl
theorem b_91_5 : am_B 91 (Int.toNat 5) = [.iload 4, .bipush 24, .if_icmp .ge 73, .aload 0, .iload 4, .aload 0, .getfield 73, .getfield 131, .invokevirtual 42, .ifCond .eq 67, .aload 0, .getfield 64, .invokevirtual 45, .aload 0, .getfield 64, .iload 1, .aload 0, .getfield 74, .invokevirtual 67, .lload 2, .aload 0, .getfield 74, .aload 0, .getfield 73, .getfield 128, .bipush 2, .iaload, .i2l, .invokevirtual 89, .ladd, .lstore 2, .jsr 67] := rfl
theorem b_91_67 : am_B 91 (Int.toNat 67) = [.iinc 4 1, .goto 5] := rfl
theorem b_91_73 : am_B 91 (Int.toNat 73) = [.lload 2, .lreturn] := rfl
theorem b_92_e : am_B 92 0 = [.iload 1, .ifCond .lt 20, .iload 1, .bipush 2, .if_icmp .gt 20, .aload 0, .getfield 512, .getfield 132, .bipush 5, .if_icmp .lt 24, .jsr 20] := rfl
theorem b_92_20 : am_B 92 (Int.toNat 20) = [.sipush (-9223372036854775808), .lreturn] := rfl
theorem b_92_24 : am_B 92 (Int.toNat 24) = [.aload 0, .getfield 513, .getfield 72, .ifCond .ne 41, .aload 0, .getfield 513, .invokevirtual 93, .jsr 41] := rfl
theorem b_92_41 : am_B 92 (Int.toNat 41) = [.aload 0, .getfield 513, .getfield 71, .bipush (-9), .if_icmp .ne 57, .sipush (-9223372036854775808), .lreturn] := rfl
theorem b_92_57 : am_B 92 (Int.toNat 57) = [.iload 1, .ifCond .ne 72, .aload 0, .getfield 513, .getfield 71, .i2l, .goto 85] := rfl
theorem b_92_72 : am_B 92 (Int.toNat 72) = [.aload 0, .getfield 513, .getfield 70, .iload 1, .bipush 1, .isub, .invokevirtual 64, .jsr 85] := rfl
theorem b_92_85 : am_B 92 (Int.toNat 85) = [.lreturn] := rfl
theorem b_93_e : am_B 93 0 = [.aload 0, .bipush (-9), .putfield 71, .aload 0, .getfield 70, .sipush (-1000000000), .sipush 1, .invokevirtual 58, .bipush 0, .istore 1, .jsr 19] := rfl
theorem b_93_19 : am_B 93 (Int.toNat 19) = [.iload 1, .aload 0, .getfield 73, .getfield 128, .bipush 0, .iaload, .if_icmp .gt 131, .aload 0, .getfield 73, .iload 1, .invokevirtual 15, .ifCond .ne 125, .aload 0, .bipush (-9), .invokevirtual 39, .aload 0, .getfield 64, .aload 0, .getfield 73, .getfield 132, .iload 1, .invokevirtual 41, .aload 0, .aload 0, .getfield 70, .getfield 256, .aload 0, .getfield 70, .getfield 257, .invokevirtual 69, .ifCond .eq 125, .aload 0, .getfield 70, .aload 0, .getfield 65, .invokevirtual 59, .ifCond .eq 125, .aload 0, .getfield 70, .aload 0, .getfield 65, .getfield 256, .aload 0, .getfield 65, .getfield 257, .invokevirtual 58, .aload 0, .iload 1, .putfield 71, .jsr 125] := rfl
theorem b_93_125 : am_B 93 (Int.toNat 125) = [.iinc 1 1, .goto 19] := rfl
theorem b_93_131 : am_B 93 (Int.toNat 131) = [.aload 0, .bipush 1, .putfield 72, .return_] := rfl
theorem b_94_e : am_B 94 0 = [.aload 0, .bipush 0, .putfield 517, .iload 1, .invokevirtual 27, .ifCond .ne 14, .bipush (-1), .ireturn] := rfl
theorem b_94_14 : am_B 94 (Int.toNat 14) = [.iload 2, .invokevirtual 28, .ifCond .eq 27, .iload 3, .bipush 60, .if_icmp .le 30, .jsr 27] := rfl
theorem b_94_27 : am_B 94 (Int.toNat 27) = [.bipush (-2), .ireturn] := rfl
theorem b_94_30 : am_B 94 (Int.toNat 30) = [.iload 3, .ifCond .ge 40, .aload 0, .bipush 4, .invokevirtual 31, .ireturn] := rfl
theorem b_94_40 : am_B 94 (Int.toNat 40) = [.aload 0, .getfield 514, .iload 1, .aaload, .iload 2, .iload 3, .invokevirtual 95, .bipush 1, .ireturn] := rfl
theorem b_95_e : am_B 95 0 = [.bipush 0, .istore 3, .jsr 2] := rfl
theorem b_95_2 : am_B 95 (Int.toNat 2) = [.iload 3, .bipush 60, .if_icmp .ge 21, .aload 0, .getfield 320, .iload 3, .bipush 0, .iastore, .iinc 3 1, .goto 2] := rfl
theorem b_95_21 : am_B 95 (Int.toNat 21) = [.aload 0, .iload 1, .putfield 321, .aload 0, .iload 2, .putfield 322, .return_] := rfl
theorem b_96_e : am_B 96 0 = [.iload 1, .invokevirtual 27, .ifCond .ne 9, .bipush (-1), .ireturn] := rfl
theorem b_96_9 : am_B 96 (Int.toNat 9) = [.aload 0, .getfield 514, .iload 1, .aaload, .getfield 321, .bipush (-1), .if_icmp .ne 24, .bipush 0, .ireturn] := rfl
theorem b_96_24 : am_B 96 (Int.toNat 24) = [.aload 0, .getfield 514, .iload 1, .aaload, .bipush (-1), .putfield 321, .bipush 1, .ireturn] := rfl
theorem b_97_e : am_B 97 0 = [.aload 0, .bipush 0, .putfield 517, .iload 1, .invokevirtual 27, .ifCond .ne 14, .bipush (-1), .ireturn] := rfl
theorem b_97_14 : am_B 97 (Int.toNat 14) = [.aload 0, .getfield 514, .iload 1, .aaload, .getfield 321, .bipush (-1), .if_icmp .ne 33, .aload 0, .bipush 1, .invokevirtual 31, .ireturn] := rfl
theorem b_97_33 : am_B 97 (Int.toNat 33) = [.aload 0, .getfield 514, .iload 1, .aaload, .iload 2, .invokevirtual 98, .ifCond .ne 52, .aload 0, .bipush 3, .invokevirtual 31, .ireturn] := rfl
theorem b_97_52 : am_B 97 (Int.toNat 52) = [.aload 0, .getfield 514, .iload 1, .aaload, .iload 2, .iload 3, .invokevirtual 99, .bipush 1, .ireturn] := rfl
theorem b_98_e : am_B 98 0 = [.iload 1, .ifCond .lt 16, .iload 1, .aload 0, .getfield 322, .if_icmp .ge 16, .bipush 1, .goto 17] := rfl
theorem b_98_16 : am_B 98 (Int.toNat 16) = [.bipush 0, .jsr 17] := rfl
theorem b_98_17 : am_B 98 (Int.toNat 17) = [.areturn] := rfl
theorem b_99_e : am_B 99 0 = [.aload 0, .getfield 321, .ifCond .ne 18, .aload 0, .getfield 320, .iload 1, .iload 2, .i2b, .iastore, .goto 38] := rfl
theorem b_99_18 : am_B 99 (Int.toNat 18) = [.aload 0, .getfield 320, .iload 1, .aload 0, .getfield 321, .bipush 1, .if_icmp .ne 36, .iload 2, .i2s, .goto 37] := rfl
theorem b_99_36 : am_B 99 (Int.toNat 36) = [.iload 2, .jsr 37] := rfl
theorem b_99_37 : am_B 99 (Int.toNat 37) = [.iastore, .jsr 38] := rfl
theorem b_99_38 : am_B 99 (Int.toNat 38) = [.return_] := rfl
theorem b_100_e : am_B 100 0 = [.aload 0, .bipush 0, .putfield 517, .iload 1, .invokevirtual 27, .ifCond .eq 19, .iload 3, .invokevirtual 28, .ifCond .ne 23, .jsr 19] := rfl
theorem b_100_19 : am_B 100 (Int.toNat 19) = [.sipush (-9223372036854775808), .lreturn] := rfl
theorem b_100_23 : am_B 100 (Int.toNat 23) = [.aload 0, .getfield 514, .iload 1, .aaload, .iload 3, .invokevirtual 29, .istore 4, .iload 4, .ifCond .ne 56, .aload 0, .getfield 514, .iload 1, .aaload, .iload 2, .invokevirtual 98, .ifCond .ne 56, .bipush 3, .istore 4, .jsr 56] := rfl
theorem b_100_56 : am_B 100 (Int.toNat 56) = [.iload 4, .ifCond .eq 72, .aload 0, .iload 4, .invokevirtual 31, .pop, .sipush (-9223372036854775808), .lreturn] := rfl
theorem b_100_72 : am_B 100 (Int.toNat 72) = [.aload 0, .getfield 514, .iload 1, .aaload, .getfield 320, .iload 2, .iaload, .i2l, .lreturn] := rfl
theorem b_101_e : am_B 101 0 = [.aload 0, .getfield 512, .iload 1, .invokevirtual 17, .ifCond .ne 13, .bipush (-1), .ireturn] := rfl
theorem b_101_13 : am_B 101 (Int.toNat 13) = [.aload 0, .getfield 512, .getfield 129, .iload 1, .aaload, .astore 2, .aload 2, .getfield 384, .bipush 2, .if_icmp .ne 37, .aload 0, .aload 2, .invokevirtual 102, .ireturn] := rfl
theorem b_101_37 : am_B 101 (Int.toNat 37) = [.aload 2, .getfield 384, .bipush 1, .if_icmp .ne 53, .aload 0, .aload 2, .invokevirtual 104, .goto 58] := rfl
theorem b_101_53 : am_B 101 (Int.toNat 53) = [.aload 0, .aload 2, .invokevirtual 105, .jsr 58] := rfl
theorem b_101_58 : am_B 101 (Int.toNat 58) = [.ireturn] := rfl
theorem b_102_e : am_B 102 0 = [.aload 0, .bipush 3, .invokevirtual 103, .aload 0, .aload 1, .invokevirtual 104, .istore 2, .iload 2, .aload 0, .aload 1, .invokevirtual 105, .iadd, .ireturn] := rfl
theorem b_103_e : am_B 103 0 = [.aload 0, .bipush 31, .aload 0, .getfield 516, .imul, .iload 1, .iadd, .putfield 516, .return_] := rfl
theorem b_104_e : am_B 104 0 = [.aload 0, .bipush 2, .invokevirtual 103, .aload 0, .aload 1, .invokevirtual 105, .aload 1, .getfield 386, .ifCond .eq 23, .bipush 1000, .goto 24] := rfl
theorem b_104_23 : am_B 104 (Int.toNat 23) = [.bipush 0, .jsr 24] := rfl
theorem b_104_24 : am_B 104 (Int.toNat 24) = [.iadd, .ireturn] := rfl
theorem b_105_e : am_B 105 0 = [.aload 0, .bipush 1, .invokevirtual 103, .aload 1, .getfield 385, .ireturn] := rfl
theorem b_106_e : am_B 106 0 = [.aload 0, .getfield 512, .iload 1, .invokevirtual 17, .ifCond .ne 13, .bipush (-1), .ireturn] := rfl
theorem b_106_13 : am_B 106 (Int.toNat 13) = [.aload 0, .getfield 512, .getfield 129, .iload 1, .aaload, .getfield 384, .bipush 2, .if_icmp .ne 37, .aload 0, .bipush 5, .invokevirtual 103, .bipush 50, .ireturn] := rfl
theorem b_106_37 : am_B 106 (Int.toNat 37) = [.aload 0, .bipush 4, .invokevirtual 103, .iload 1, .ireturn] := rfl
theorem b_107_e : am_B 107 0 = [.aload 0, .bipush 0, .putfield 517, .aload 0, .getfield 512, .iload 1, .invokevirtual 17, .ifCond .ne 18, .bipush (-1), .ireturn] := rfl
theorem b_107_18 : am_B 107 (Int.toNat 18) = [.iload 2, .ifCond .lt 27, .iload 2, .bipush 2, .if_icmp .le 30, .jsr 27] := rfl
theorem b_107_27 : am_B 107 (Int.toNat 27) = [.bipush (-2), .ireturn] := rfl
theorem b_107_30 : am_B 107 (Int.toNat 30) = [.iload 2, .aload 0, .getfield 512, .getfield 129, .iload 1, .aaload, .getfield 384, .if_icmp .gt 50, .bipush 1, .goto 55] := rfl
theorem b_107_50 : am_B 107 (Int.toNat 50) = [.aload 0, .bipush 2, .invokevirtual 31, .jsr 55] := rfl
theorem b_107_55 : am_B 107 (Int.toNat 55) = [.ireturn] := rfl
theorem b_108_e : am_B 108 0 = [.aload 0, .getfield 516, .ireturn] := rfl
theorem b_109_e : am_B 109 0 = [.aload 0, .getfield 517, .ireturn] := rfl
theorem b_110_e : am_B 110 0 = [.iload 1, .tableswitch 64 0 3 #[32, 40, 48, 56]] := rfl
theorem b_110_32 : am_B 110 (Int.toNat 32) = [.aload 0, .getfield 512, .getfield 132, .ireturn] := rfl
theorem b_110_40 : am_B 110 (Int.toNat 40) = [.aload 0, .getfield 512, .invokevirtual 37, .ireturn] := rfl
theorem b_110_48 : am_B 110 (Int.toNat 48) = [.aload 0, .getfield 512, .getfield 133, .ireturn] := rfl
theorem b_110_56 : am_B 110 (Int.toNat 56) = [.aload 0, .getfield 513, .invokevirtual 111, .ireturn] := rfl
theorem b_110_64 : am_B 110 (Int.toNat 64) = [.bipush (-2), .ireturn] := rfl
theorem b_111_e : am_B 111 0 = [.bipush 0, .istore 1, .bipush 0, .istore 2, .jsr 4] := rfl
theorem b_111_4 : am_B 111 (Int.toNat 4) = [.iload 2, .bipush 24, .if_icmp .ge 34, .aload 0, .iload 2, .aload 0, .getfield 73, .getfield 131, .invokevirtual 42, .ifCond .eq 28, .iinc 1 1, .jsr 28] := rfl
theorem b_111_28 : am_B 111 (Int.toNat 28) = [.iinc 2 1, .goto 4] := rfl
theorem b_111_34 : am_B 111 (Int.toNat 34) = [.iload 1, .ireturn] := rfl
theorem b_112_e : am_B 112 0 = [.aload 0, .pop2, .aload 0, .bipush 5, .newarray .int, .dup, .bipush 0, .bipush 100, .iastore, .dup, .bipush 1, .bipush 1, .iastore, .dup, .bipush 2, .bipush 750, .iastore, .dup, .bipush 3, .bipush 900, .iastore, .dup, .bipush 4, .bipush 500, .iastore, .putfield 578, .aload 0, .bipush 5, .newarray .int, .putfield 580, .aload 0, .bipush 6, .newarray .int, .putfield 581, .aload 0, .bipush 5, .newarray .boolean, .putfield 582, .aload 0, .bipush 5, .newarray .int, .putfield 583, .aload 0, .bipush 120, .newarray .int, .putfield 585, .aload 0, .bipush 120, .newarray .int, .putfield 586, .aload 0, .bipush 5, .newarray .int, .putfield 587, .aload 0, .bipush 4, .newarray .int, .dup, .bipush 0, .bipush (-9), .iastore, .dup, .bipush 1, .bipush (-9), .iastore, .dup, .bipush 2, .bipush (-9), .iastore, .dup, .bipush 3, .bipush (-9), .iastore, .putfield 588, .aload 0, .bipush 4, .newarray .int, .putfield 589, .aload 0, .bipush 240, .newarray .int, .putfield 590, .aload 0, .bipush 5, .newarray .int, .putfield 592, .aload 0, .bipush 5, .newarray .int, .putfield 593, .aload 0, .bipush 5, .newarray .int, .putfield 597, .aload 0, .bipush 5, .newarray .int, .putfield 605, .aload 0, .bipush 5, .newarray .int, .putfield 606, .return_] := rfl
theorem b_113_e : am_B 113 0 = [.iload 1, .bipush 0, .bipush 4, .invokevirtual 114, .ifCond .ne 11, .bipush (-1), .ireturn] := rfl
theorem b_113_11 : am_B 113 (Int.toNat 11) = [.iload 2, .iload 1, .invokevirtual 115, .iload 1, .invokevirtual 116, .invokevirtual 114, .ifCond .ne 29, .bipush (-2), .ireturn] := rfl
theorem b_113_29 : am_B 113 (Int.toNat 29) = [.aload 0, .iload 1, .iload 2, .invokevirtual 117, .ifCond .eq 41, .bipush (-3), .ireturn] := rfl
theorem b_113_41 : am_B 113 (Int.toNat 41) = [.aload 0, .getfield 578, .iload 1, .iaload, .istore 3, .aload 0, .getfield 578, .iload 1, .iload 2, .iastore, .iload 3, .ireturn] := rfl
theorem b_114_e : am_B 114 0 = [.iload 0, .iload 1, .if_icmp .lt 14, .iload 0, .iload 2, .if_icmp .gt 14, .bipush 1, .goto 15] := rfl
theorem b_114_14 : am_B 114 (Int.toNat 14) = [.bipush 0, .jsr 15] := rfl
theorem b_114_15 : am_B 114 (Int.toNat 15) = [.areturn] := rfl
theorem b_115_e : am_B 115 0 = [.iload 0, .bipush 2, .if_icmp .eq 10, .iload 0, .bipush 3, .if_icmp .ne 15, .jsr 10] := rfl
theorem b_115_10 : am_B 115 (Int.toNat 10) = [.bipush 100, .goto 16] := rfl
theorem b_115_15 : am_B 115 (Int.toNat 15) = [.bipush 1, .jsr 16] := rfl
theorem b_115_16 : am_B 115 (Int.toNat 16) = [.ireturn] := rfl
theorem b_116_e : am_B 116 0 = [.iload 0, .tableswitch 43 0 3 #[32, 36, 43, 39]] := rfl
theorem b_116_32 : am_B 116 (Int.toNat 32) = [.bipush 200, .ireturn] := rfl
theorem b_116_36 : am_B 116 (Int.toNat 36) = [.bipush 20, .ireturn] := rfl
theorem b_116_39 : am_B 116 (Int.toNat 39) = [.bipush 3000, .ireturn] := rfl
theorem b_116_43 : am_B 116 (Int.toNat 43) = [.bipush 2000, .ireturn] := rfl
theorem b_117_e : am_B 117 0 = [.iload 1, .tableswitch 100 0 4 #[36, 100, 42, 68, 84]] := rfl
theorem b_117_36 : am_B 117 (Int.toNat 36) = [.aload 0, .iload 2, .invokevirtual 118, .areturn] := rfl
theorem b_117_42 : am_B 117 (Int.toNat 42) = [.iload 2, .aload 0, .getfield 578, .bipush 3, .iaload, .if_icmp .gt 62, .iload 2, .aload 0, .getfield 578, .bipush 4, .iaload, .if_icmp .ge 66, .jsr 62] := rfl
theorem b_117_62 : am_B 117 (Int.toNat 62) = [.bipush 1, .goto 67] := rfl
theorem b_117_66 : am_B 117 (Int.toNat 66) = [.bipush 0, .jsr 67] := rfl
theorem b_117_67 : am_B 117 (Int.toNat 67) = [.areturn] := rfl
theorem b_117_68 : am_B 117 (Int.toNat 68) = [.iload 2, .aload 0, .getfield 578, .bipush 2, .iaload, .if_icmp .ge 82, .bipush 1, .goto 83] := rfl
theorem b_117_82 : am_B 117 (Int.toNat 82) = [.bipush 0, .jsr 83] := rfl
theorem b_117_83 : am_B 117 (Int.toNat 83) = [.areturn] := rfl
theorem b_117_84 : am_B 117 (Int.toNat 84) = [.iload 2, .aload 0, .getfield 578, .bipush 2, .iaload, .if_icmp .le 98, .bipush 1, .goto 99] := rfl
theorem b_117_98 : am_B 117 (Int.toNat 98) = [.bipush 0, .jsr 99] := rfl
theorem b_117_99 : am_B 117 (Int.toNat 99) = [.areturn] := rfl
theorem b_117_100 : am_B 117 (Int.toNat 100) = [.bipush 0, .areturn] := rfl
theorem b_118_e : am_B 118 0 = [.bipush 0, .istore 2, .jsr 2] := rfl
theorem b_118_2 : am_B 118 (Int.toNat 2) = [.iload 2, .aload 0, .getfield 579, .if_icmp .ge 28, .aload 0, .getfield 581, .iload 2, .iaload, .iload 1, .if_icmp .le 22, .bipush 1, .areturn] := rfl
theorem b_118_22 : am_B 118 (Int.toNat 22) = [.iinc 2 1, .goto 2] := rfl
theorem b_118_28 : am_B 118 (Int.toNat 28) = [.bipush 0, .istore 2, .jsr 30] := rfl
theorem b_118_30 : am_B 118 (Int.toNat 30) = [.iload 2, .bipush 24, .aload 0, .getfield 584, .imul, .if_icmp .ge 61, .aload 0, .getfield 585, .iload 2, .iaload, .iload 1, .bipush 1, .iadd, .if_icmp .le 55, .bipush 1, .areturn] := rfl
theorem b_118_55 : am_B 118 (Int.toNat 55) = [.iinc 2 1, .goto 30] := rfl
theorem b_118_61 : am_B 118 (Int.toNat 61) = [.bipush 0, .areturn] := rfl
theorem b_119_e : am_B 119 0 = [.iload 1, .bipush 0, .bipush 2, .invokevirtual 114, .ifCond .eq 17, .aload 0, .iload 2, .invokevirtual 120, .ifCond .ne 20, .jsr 17] := rfl
theorem b_119_17 : am_B 119 (Int.toNat 17) = [.bipush (-2), .ireturn] := rfl
theorem b_119_20 : am_B 119 (Int.toNat 20) = [.aload 0, .iload 2, .invokevirtual 121, .ifCond .eq 31, .bipush (-3), .ireturn] := rfl
theorem b_119_31 : am_B 119 (Int.toNat 31) = [.aload 0, .getfield 579, .bipush 5, .if_icmp .ne 42, .bipush (-4), .ireturn] := rfl
theorem b_119_42 : am_B 119 (Int.toNat 42) = [.aload 0, .getfield 580, .aload 0, .getfield 579, .iload 1, .iastore, .aload 0, .getfield 581, .aload 0, .getfield 579, .iload 2, .iastore, .aload 0, .getfield 582, .aload 0, .getfield 579, .bipush 0, .bastore, .aload 0, .getfield 583, .aload 0, .getfield 579, .bipush 3000, .iastore, .aload 0, .dup, .getfield 579, .bipush 1, .iadd, .putfield 579, .aload 0, .getfield 579, .bipush 1, .isub, .ireturn] := rfl
theorem b_120_e : am_B 120 0 = [.iload 1, .bipush 0, .aload 0, .getfield 578, .bipush 0, .iaload, .invokevirtual 114, .areturn] := rfl
theorem b_121_e : am_B 121 0 = [.bipush 0, .istore 2, .jsr 2] := rfl
theorem b_121_2 : am_B 121 (Int.toNat 2) = [.iload 2, .aload 0, .getfield 579, .if_icmp .ge 28, .aload 0, .getfield 581, .iload 2, .iaload, .iload 1, .if_icmp .ne 22, .bipush 1, .areturn] := rfl
theorem b_121_22 : am_B 121 (Int.toNat 22) = [.iinc 2 1, .goto 2] := rfl
theorem b_121_28 : am_B 121 (Int.toNat 28) = [.bipush 0, .areturn] := rfl
theorem b_122_e : am_B 122 0 = [.aload 0, .iload 1, .invokevirtual 123, .ifCond .ne 10, .bipush (-1), .ireturn] := rfl
theorem b_122_10 : am_B 122 (Int.toNat 10) = [.aload 0, .getfield 582, .iload 1, .baload, .iload 2, .if_icmp .ne 24, .bipush 1, .goto 25] := rfl
theorem b_122_24 : am_B 122 (Int.toNat 24) = [.bipush 0, .jsr 25] := rfl
theorem b_122_25 : am_B 122 (Int.toNat 25) = [.istore 3, .aload 0, .getfield 582, .iload 1, .iload 2, .ifCond .ne 39, .bipush 1, .goto 40] := rfl
theorem b_122_39 : am_B 122 (Int.toNat 39) = [.bipush 0, .jsr 40] := rfl
theorem b_122_40 : am_B 122 (Int.toNat 40) = [.bastore, .iload 3, .ireturn] := rfl
theorem b_123_e : am_B 123 0 = [.iload 1, .ifCond .lt 16, .iload 1, .aload 0, .getfield 579, .if_icmp .ge 16, .bipush 1, .goto 17] := rfl
theorem b_123_16 : am_B 123 (Int.toNat 16) = [.bipush 0, .jsr 17] := rfl
theorem b_123_17 : am_B 123 (Int.toNat 17) = [.areturn] := rfl
theorem b_124_e : am_B 124 0 = [.aload 0, .iload 1, .invokevirtual 123, .ifCond .ne 10, .bipush (-1), .ireturn] := rfl
theorem b_124_10 : am_B 124 (Int.toNat 10) = [.iload 2, .bipush 0, .bipush 100000, .invokevirtual 114, .ifCond .ne 23, .bipush (-2), .ireturn] := rfl
theorem b_124_23 : am_B 124 (Int.toNat 23) = [.aload 0, .getfield 583, .iload 1, .iaload, .istore 3, .aload 0, .getfield 583, .iload 1, .iload 2, .iastore, .iload 3, .ireturn] := rfl
theorem b_125_e : am_B 125 0 = [.aload 0, .iload 1, .invokevirtual 123, .ifCond .ne 10, .bipush (-1), .ireturn] := rfl
theorem b_125_10 : am_B 125 (Int.toNat 10) = [.iload 2, .tableswitch 76 0 3 #[40, 47, 54, 69]] := rfl
theorem b_125_40 : am_B 125 (Int.toNat 40) = [.aload 0, .getfield 580, .iload 1, .iaload, .ireturn] := rfl
theorem b_125_47 : am_B 125 (Int.toNat 47) = [.aload 0, .getfield 581, .iload 1, .iaload, .ireturn] := rfl
theorem b_125_54 : am_B 125 (Int.toNat 54) = [.aload 0, .getfield 582, .iload 1, .baload, .ifCond .eq 67, .bipush 0, .goto 68] := rfl
theorem b_125_67 : am_B 125 (Int.toNat 67) = [.bipush 1, .jsr 68] := rfl
theorem b_125_68 : am_B 125 (Int.toNat 68) = [.ireturn] := rfl
theorem b_125_69 : am_B 125 (Int.toNat 69) = [.aload 0, .getfield 583, .iload 1, .iaload, .ireturn] := rfl
theorem b_125_76 : am_B 125 (Int.toNat 76) = [.bipush (-2), .ireturn] := rfl
theorem b_126_e : am_B 126 0 = [.aload 0, .getfield 584, .bipush 5, .if_icmp .ne 11, .bipush (-4), .ireturn] := rfl
theorem b_126_11 : am_B 126 (Int.toNat 11) = [.bipush 0, .istore 1, .jsr 13] := rfl
theorem b_126_13 : am_B 126 (Int.toNat 13) = [.iload 1, .bipush 24, .if_icmp .ge 55, .aload 0, .getfield 585, .bipush 24, .aload 0, .getfield 584, .imul, .iload 1, .iadd, .bipush 0, .iastore, .aload 0, .getfield 586, .bipush 24, .aload 0, .getfield 584, .imul, .iload 1, .iadd, .bipush 0, .iastore, .iinc 1 1, .goto 13] := rfl
theorem b_126_55 : am_B 126 (Int.toNat 55) = [.aload 0, .getfield 587, .aload 0, .getfield 584, .bipush 0, .iastore, .aload 0, .dup, .getfield 584, .bipush 1, .iadd, .putfield 584, .aload 0, .getfield 584, .bipush 1, .isub, .ireturn] := rfl
theorem b_127_e : am_B 127 0 = [.aload 0, .iload 1, .invokevirtual 128, .ifCond .eq 15, .iload 2, .invokevirtual 129, .ifCond .ne 17, .jsr 15] := rfl
theorem b_127_15 : am_B 127 (Int.toNat 15) = [.bipush (-1), .ireturn] := rfl
theorem b_127_17 : am_B 127 (Int.toNat 17) = [.aload 0, .iload 3, .iload 4, .invokevirtual 130, .ifCond .ne 30, .bipush (-2), .ireturn] := rfl
theorem b_127_30 : am_B 127 (Int.toNat 30) = [.aload 0, .iload 1, .iload 2, .iload 3, .iload 4, .invokevirtual 131, .bipush 1, .ireturn] := rfl
theorem b_128_e : am_B 128 0 = [.iload 1, .ifCond .lt 16, .iload 1, .aload 0, .getfield 584, .if_icmp .ge 16, .bipush 1, .goto 17] := rfl
theorem b_128_16 : am_B 128 (Int.toNat 16) = [.bipush 0, .jsr 17] := rfl
theorem b_128_17 : am_B 128 (Int.toNat 17) = [.areturn] := rfl
theorem b_129_e : am_B 129 0 = [.iload 0, .bipush 0, .bipush 23, .invokevirtual 114, .areturn] := rfl
theorem b_130_e : am_B 130 0 = [.iload 1, .bipush (-1), .if_icmp .eq 26, .aload 0, .iload 1, .invokevirtual 120, .ifCond .eq 30, .iload 2, .bipush (-400), .bipush 400, .invokevirtual 114, .ifCond .eq 30, .jsr 26] := rfl
theorem b_130_26 : am_B 130 (Int.toNat 26) = [.bipush 1, .goto 31] := rfl
theorem b_130_30 : am_B 130 (Int.toNat 30) = [.bipush 0, .jsr 31] := rfl
theorem b_130_31 : am_B 130 (Int.toNat 31) = [.areturn] := rfl
theorem b_131_e : am_B 131 0 = [.aload 0, .getfield 585, .bipush 24, .iload 1, .imul, .iload 2, .iadd, .iload 3, .bipush 1, .iadd, .iastore, .aload 0, .getfield 586, .bipush 24, .iload 1, .imul, .iload 2, .iadd, .iload 3, .ifCond .ge 32, .bipush 0, .goto 34] := rfl
theorem b_131_32 : am_B 131 (Int.toNat 32) = [.iload 4, .jsr 34] := rfl
theorem b_131_34 : am_B 131 (Int.toNat 34) = [.iastore, .return_] := rfl
theorem b_132_e : am_B 132 0 = [.aload 0, .bipush 0, .putfield 576, .aload 0, .iload 1, .invokevirtual 128, .ifCond .eq 20, .iload 2, .invokevirtual 133, .ifCond .ne 22, .jsr 20] := rfl
theorem b_132_20 : am_B 132 (Int.toNat 20) = [.bipush (-1), .ireturn] := rfl
theorem b_132_22 : am_B 132 (Int.toNat 22) = [.iload 3, .invokevirtual 134, .ifCond .ne 32, .bipush (-2), .ireturn] := rfl
theorem b_132_32 : am_B 132 (Int.toNat 32) = [.aload 0, .getfield 588, .iload 2, .iaload, .bipush (-9), .if_icmp .eq 59, .aload 0, .getfield 588, .iload 2, .iaload, .iload 3, .if_icmp .eq 59, .aload 0, .bipush 2, .invokevirtual 135, .ireturn] := rfl
theorem b_132_59 : am_B 132 (Int.toNat 59) = [.aload 0, .getfield 588, .iload 2, .iaload, .bipush (-9), .if_icmp .ne 76, .aload 0, .bipush 1, .invokevirtual 135, .ireturn] := rfl
theorem b_132_76 : am_B 132 (Int.toNat 76) = [.iload 5, .ifCond .ge 87, .aload 0, .bipush 4, .invokevirtual 135, .ireturn] := rfl
theorem b_132_87 : am_B 132 (Int.toNat 87) = [.iload 4, .ifCond .lt 124, .iload 4, .aload 0, .getfield 589, .iload 2, .iaload, .if_icmp .gt 124, .sipush 2, .iload 5, .i2l, .lmul, .aload 0, .getfield 589, .iload 2, .iaload, .iload 4, .isub, .i2l, .lcmp, .ifCond .le 130, .jsr 124] := rfl
theorem b_132_124 : am_B 132 (Int.toNat 124) = [.aload 0, .bipush 3, .invokevirtual 135, .ireturn] := rfl
theorem b_132_130 : am_B 132 (Int.toNat 130) = [.iload 5, .bipush 24, .if_icmp .le 140, .bipush (-2), .ireturn] := rfl
theorem b_132_140 : am_B 132 (Int.toNat 140) = [.bipush 60, .iload 2, .imul, .iload 4, .iadd, .istore 6, .bipush 0, .istore 7, .jsr 152] := rfl
theorem b_132_152 : am_B 132 (Int.toNat 152) = [.iload 7, .iload 5, .if_icmp .ge 201, .aload 0, .aload 0, .getfield 590, .iload 6, .bipush 2, .iload 7, .imul, .iadd, .iaload, .aload 0, .getfield 590, .iload 6, .bipush 2, .iload 7, .imul, .iadd, .bipush 1, .iadd, .iaload, .invokevirtual 130, .ifCond .ne 195, .bipush (-2), .ireturn] := rfl
theorem b_132_195 : am_B 132 (Int.toNat 195) = [.iinc 7 1, .goto 152] := rfl
theorem b_132_201 : am_B 132 (Int.toNat 201) = [.bipush 0, .istore 7, .bipush 0, .istore 8, .jsr 207] := rfl
theorem b_132_207 : am_B 132 (Int.toNat 207) = [.iload 8, .bipush 24, .if_icmp .ge 294, .iload 8, .iload 5, .if_icmp .ge 236, .aload 0, .getfield 590, .iload 6, .bipush 2, .iload 8, .imul, .iadd, .iaload, .goto 237] := rfl
theorem b_132_236 : am_B 132 (Int.toNat 236) = [.bipush (-1), .jsr 237] := rfl
theorem b_132_237 : am_B 132 (Int.toNat 237) = [.istore 9, .aload 0, .iload 1, .iload 8, .iload 9, .iload 8, .iload 5, .if_icmp .ge 269, .aload 0, .getfield 590, .iload 6, .bipush 2, .iload 8, .imul, .iadd, .bipush 1, .iadd, .iaload, .goto 270] := rfl
theorem b_132_269 : am_B 132 (Int.toNat 269) = [.bipush 0, .jsr 270] := rfl
theorem b_132_270 : am_B 132 (Int.toNat 270) = [.invokevirtual 131, .iload 7, .iload 9, .ifCond .lt 284, .bipush 1, .goto 285] := rfl
theorem b_132_284 : am_B 132 (Int.toNat 284) = [.bipush 0, .jsr 285] := rfl
theorem b_132_285 : am_B 132 (Int.toNat 285) = [.iadd, .istore 7, .iinc 8 1, .goto 207] := rfl
theorem b_132_294 : am_B 132 (Int.toNat 294) = [.iload 7, .ireturn] := rfl
theorem b_133_e : am_B 133 0 = [.iload 0, .bipush 0, .bipush 3, .invokevirtual 114, .areturn] := rfl
theorem b_134_e : am_B 134 0 = [.iload 0, .bipush 0, .bipush 2, .invokevirtual 114, .areturn] := rfl
theorem b_135_e : am_B 135 0 = [.aload 0, .iload 1, .putfield 576, .bipush (-10), .iload 1, .isub, .ireturn] := rfl
theorem b_136_e : am_B 136 0 = [.aload 0, .iload 1, .invokevirtual 128, .ifCond .ne 10, .bipush (-1), .ireturn] := rfl
theorem b_136_10 : am_B 136 (Int.toNat 10) = [.iload 2, .bipush 0, .bipush 5, .invokevirtual 114, .ifCond .ne 22, .bipush (-2), .ireturn] := rfl
theorem b_136_22 : am_B 136 (Int.toNat 22) = [.aload 0, .getfield 587, .iload 1, .iaload, .istore 3, .aload 0, .getfield 587, .iload 1, .iload 2, .iastore, .iload 3, .ireturn] := rfl
theorem b_137_e : am_B 137 0 = [.aload 0, .iload 1, .invokevirtual 128, .ifCond .eq 15, .iload 2, .invokevirtual 129, .ifCond .ne 17, .jsr 15] := rfl
theorem b_137_15 : am_B 137 (Int.toNat 15) = [.bipush (-1), .ireturn] := rfl
theorem b_137_17 : am_B 137 (Int.toNat 17) = [.iload 3, .tableswitch 100 0 2 #[44, 51, 58]] := rfl
theorem b_137_44 : am_B 137 (Int.toNat 44) = [.aload 0, .iload 1, .iload 2, .invokevirtual 138, .ireturn] := rfl
theorem b_137_51 : am_B 137 (Int.toNat 51) = [.aload 0, .iload 1, .iload 2, .invokevirtual 139, .ireturn] := rfl
theorem b_137_58 : am_B 137 (Int.toNat 58) = [.aload 0, .invokevirtual 140, .ifCond .eq 68, .bipush (-3), .ireturn] := rfl
theorem b_137_68 : am_B 137 (Int.toNat 68) = [.aload 0, .iload 2, .invokevirtual 142, .aload 0, .getfield 597, .iload 1, .iaload, .bipush (-9), .if_icmp .ne 88, .bipush 0, .goto 99] := rfl
theorem b_137_88 : am_B 137 (Int.toNat 88) = [.aload 0, .getfield 593, .aload 0, .getfield 597, .iload 1, .iaload, .iaload, .jsr 99] := rfl
theorem b_137_99 : am_B 137 (Int.toNat 99) = [.ireturn] := rfl
theorem b_137_100 : am_B 137 (Int.toNat 100) = [.bipush (-2), .ireturn] := rfl
theorem b_138_e : am_B 138 0 = [.iload 2, .aload 0, .getfield 587, .iload 1, .iaload, .isub, .istore 3, .iload 3, .ifCond .ge 18, .bipush (-9), .goto 50] := rfl
theorem b_138_18 : am_B 138 (Int.toNat 18) = [.aload 0, .getfield 585, .bipush 24, .iload 1, .imul, .iload 3, .iadd, .iaload, .ifCond .ne 37, .bipush (-9), .goto 50] := rfl
theorem b_138_37 : am_B 138 (Int.toNat 37) = [.aload 0, .getfield 585, .bipush 24, .iload 1, .imul, .iload 3, .iadd, .iaload, .bipush 1, .isub, .jsr 50] := rfl
theorem b_138_50 : am_B 138 (Int.toNat 50) = [.ireturn] := rfl
theorem b_139_e : am_B 139 0 = [.aload 0, .iload 1, .iload 2, .invokevirtual 138, .bipush (-9), .if_icmp .ne 15, .bipush 0, .goto 33] := rfl
theorem b_139_15 : am_B 139 (Int.toNat 15) = [.aload 0, .getfield 586, .bipush 24, .iload 1, .imul, .iload 2, .iadd, .aload 0, .getfield 587, .iload 1, .iaload, .isub, .iaload, .jsr 33] := rfl
theorem b_139_33 : am_B 139 (Int.toNat 33) = [.ireturn] := rfl
theorem b_140_e : am_B 140 0 = [.aload 0, .invokevirtual 141, .ifCond .ne 11, .bipush 1, .goto 12] := rfl
theorem b_140_11 : am_B 140 (Int.toNat 11) = [.bipush 0, .jsr 12] := rfl
theorem b_140_12 : am_B 140 (Int.toNat 12) = [.areturn] := rfl
theorem b_141_e : am_B 141 0 = [.bipush 0, .istore 1, .bipush 0, .istore 2, .jsr 4] := rfl
theorem b_141_4 : am_B 141 (Int.toNat 4) = [.iload 2, .aload 0, .getfield 579, .if_icmp .ge 37, .iload 1, .aload 0, .getfield 582, .iload 2, .baload, .ifCond .eq 26, .bipush 0, .goto 29] := rfl
theorem b_141_26 : am_B 141 (Int.toNat 26) = [.bipush 1, .iload 2, .ishl, .jsr 29] := rfl
theorem b_141_29 : am_B 141 (Int.toNat 29) = [.ior, .istore 1, .iinc 2 1, .goto 4] := rfl
theorem b_141_37 : am_B 141 (Int.toNat 37) = [.iload 1, .ireturn] := rfl
theorem b_142_e : am_B 142 0 = [.aload 0, .iload 1, .invokevirtual 143, .aload 0, .aload 0, .invokevirtual 144, .putfield 594, .jsr 13] := rfl
theorem b_142_13 : am_B 142 (Int.toNat 13) = [.aload 0, .getfield 594, .bipush (-9), .if_icmp .eq 29, .aload 0, .invokevirtual 150, .ifCond .eq 55, .jsr 29] := rfl
theorem b_142_29 : am_B 142 (Int.toNat 29) = [.aload 0, .invokevirtual 151, .istore 2, .aload 0, .getfield 593, .iload 2, .dup2, .iaload, .bipush 2, .idiv, .iastore, .aload 0, .aload 0, .invokevirtual 144, .putfield 594, .goto 13] := rfl
theorem b_142_55 : am_B 142 (Int.toNat 55) = [.return_] := rfl
theorem b_143_e : am_B 143 0 = [.aload 0, .bipush 0, .putfield 591, .bipush 0, .istore 2, .jsr 7] := rfl
theorem b_143_7 : am_B 143 (Int.toNat 7) = [.iload 2, .aload 0, .getfield 584, .if_icmp .ge 87, .aload 0, .getfield 597, .iload 2, .bipush (-9), .iastore, .aload 0, .iload 2, .iload 1, .invokevirtual 138, .istore 3, .iload 3, .bipush (-9), .if_icmp .eq 81, .aload 0, .getfield 597, .iload 2, .aload 0, .getfield 591, .iastore, .aload 0, .getfield 592, .aload 0, .getfield 591, .iload 3, .iastore, .aload 0, .getfield 593, .aload 0, .getfield 591, .aload 0, .iload 2, .iload 1, .invokevirtual 139, .iastore, .aload 0, .dup, .getfield 591, .bipush 1, .iadd, .putfield 591, .jsr 81] := rfl
theorem b_143_81 : am_B 143 (Int.toNat 81) = [.iinc 2 1, .goto 7] := rfl
theorem b_143_87 : am_B 143 (Int.toNat 87) = [.return_] := rfl
theorem b_144_e : am_B 144 0 = [.aload 0, .invokevirtual 141, .istore 1, .bipush 1, .istore 2, .jsr 7] := rfl
theorem b_144_7 : am_B 144 (Int.toNat 7) = [.iload 2, .iload 1, .if_icmp .gt 37, .iload 2, .iload 1, .bipush (-1), .ixor, .iand, .ifCond .ne 31, .aload 0, .iload 2, .iload 1, .invokevirtual 145, .ifCond .eq 31, .iload 2, .ireturn] := rfl
theorem b_144_31 : am_B 144 (Int.toNat 31) = [.iinc 2 1, .goto 7] := rfl
theorem b_144_37 : am_B 144 (Int.toNat 37) = [.bipush (-9), .ireturn] := rfl
theorem b_145_e : am_B 145 0 = [.bipush 0, .istore 3, .jsr 2] := rfl
theorem b_145_2 : am_B 145 (Int.toNat 2) = [.iload 3, .aload 0, .getfield 579, .if_icmp .ge 84, .iload 1, .iload 3, .ishr, .bipush 1, .iand, .bipush 1, .if_icmp .ne 36, .aload 0, .iload 1, .iload 3, .invokevirtual 146, .aload 0, .getfield 595, .sipush 0, .lcmp, .ifCond .ge 78, .bipush 0, .areturn] := rfl
theorem b_145_36 : am_B 145 (Int.toNat 36) = [.iload 2, .iload 3, .ishr, .bipush 1, .iand, .bipush 1, .if_icmp .ne 78, .aload 0, .iload 1, .aload 0, .getfield 581, .iload 3, .iaload, .invokevirtual 149, .aload 0, .getfield 595, .aload 0, .getfield 578, .bipush 2, .iaload, .i2l, .aload 0, .getfield 596, .lmul, .lcmp, .ifCond .ge 78, .bipush 0, .areturn] := rfl
theorem b_145_78 : am_B 145 (Int.toNat 78) = [.iinc 3 1, .goto 2] := rfl
theorem b_145_84 : am_B 145 (Int.toNat 84) = [.bipush 1, .areturn] := rfl
theorem b_146_e : am_B 146 0 = [.aload 0, .getfield 581, .iload 2, .iaload, .istore 3, .iload 3, .ifCond .ne 16, .bipush (-9), .goto 25] := rfl
theorem b_146_16 : am_B 146 (Int.toNat 16) = [.aload 0, .iload 1, .iload 3, .bipush 1, .isub, .bipush 1, .invokevirtual 147, .jsr 25] := rfl
theorem b_146_25 : am_B 146 (Int.toNat 25) = [.istore 4, .aload 0, .iload 1, .iload 3, .bipush 1, .iadd, .bipush 0, .invokevirtual 147, .istore 5, .sipush 0, .lstore 6, .sipush 0, .lstore 8, .sipush 0, .lstore 10, .bipush 0, .istore 12, .jsr 50] := rfl
theorem b_146_50 : am_B 146 (Int.toNat 50) = [.iload 12, .aload 0, .getfield 591, .if_icmp .ge 227, .aload 0, .getfield 592, .iload 12, .iaload, .istore 13, .iload 13, .iload 3, .if_icmp .ge 79, .iload 4, .goto 81] := rfl
theorem b_146_79 : am_B 146 (Int.toNat 79) = [.iload 5, .jsr 81] := rfl
theorem b_146_81 : am_B 146 (Int.toNat 81) = [.istore 14, .iload 13, .iload 3, .if_icmp .eq 96, .iload 14, .bipush (-9), .if_icmp .ne 112, .jsr 96] := rfl
theorem b_146_96 : am_B 146 (Int.toNat 96) = [.lload 6, .aload 0, .getfield 593, .iload 12, .iaload, .i2l, .ladd, .lstore 6, .goto 221] := rfl
theorem b_146_112 : am_B 146 (Int.toNat 112) = [.aload 0, .getfield 581, .iload 14, .iaload, .istore 15, .iload 13, .iload 3, .if_icmp .ge 142, .iload 13, .iload 15, .if_icmp .le 138, .bipush 1, .goto 154] := rfl
theorem b_146_138 : am_B 146 (Int.toNat 138) = [.bipush 0, .goto 154] := rfl
theorem b_146_142 : am_B 146 (Int.toNat 142) = [.iload 13, .iload 15, .if_icmp .ge 153, .bipush 1, .goto 154] := rfl
theorem b_146_153 : am_B 146 (Int.toNat 153) = [.bipush 0, .jsr 154] := rfl
theorem b_146_154 : am_B 146 (Int.toNat 154) = [.istore 16, .iload 16, .ifCond .eq 193, .iload 13, .iload 3, .if_icmp .ge 193, .lload 8, .aload 0, .getfield 593, .iload 12, .iaload, .i2l, .iload 13, .iload 15, .isub, .invokevirtual 148, .i2l, .lmul, .ladd, .lstore 8, .goto 221] := rfl
theorem b_146_193 : am_B 146 (Int.toNat 193) = [.iload 16, .ifCond .eq 221, .lload 10, .aload 0, .getfield 593, .iload 12, .iaload, .i2l, .iload 13, .iload 15, .isub, .invokevirtual 148, .i2l, .lmul, .ladd, .lstore 10, .jsr 221] := rfl
theorem b_146_221 : am_B 146 (Int.toNat 221) = [.iinc 12 1, .goto 50] := rfl
theorem b_146_227 : am_B 146 (Int.toNat 227) = [.iload 4, .bipush (-9), .if_icmp .ne 238, .sipush 1, .goto 248] := rfl
theorem b_146_238 : am_B 146 (Int.toNat 238) = [.iload 3, .aload 0, .getfield 581, .iload 4, .iaload, .isub, .i2l, .jsr 248] := rfl
theorem b_146_248 : am_B 146 (Int.toNat 248) = [.lstore 12, .iload 5, .bipush (-9), .if_icmp .ne 261, .sipush 1, .goto 271] := rfl
theorem b_146_261 : am_B 146 (Int.toNat 261) = [.aload 0, .getfield 581, .iload 5, .iaload, .iload 3, .isub, .i2l, .jsr 271] := rfl
theorem b_146_271 : am_B 146 (Int.toNat 271) = [.lstore 14, .aload 0, .lload 6, .lload 12, .lmul, .lload 14, .lmul, .lload 8, .lload 14, .lmul, .ladd, .lload 10, .lload 12, .lmul, .ladd, .putfield 595, .aload 0, .lload 12, .lload 14, .lmul, .putfield 596, .return_] := rfl
theorem b_147_e : am_B 147 0 = [.bipush (-9), .istore 4, .bipush 0, .istore 5, .jsr 7] := rfl
theorem b_147_7 : am_B 147 (Int.toNat 7) = [.iload 5, .aload 0, .getfield 579, .if_icmp .ge 125, .iload 1, .iload 5, .ishr, .bipush 1, .iand, .bipush 1, .if_icmp .ne 59, .iload 3, .ifCond .eq 44, .aload 0, .getfield 581, .iload 5, .iaload, .iload 2, .if_icmp .gt 59, .goto 55] := rfl
theorem b_147_44 : am_B 147 (Int.toNat 44) = [.aload 0, .getfield 581, .iload 5, .iaload, .iload 2, .if_icmp .lt 59, .jsr 55] := rfl
theorem b_147_55 : am_B 147 (Int.toNat 55) = [.bipush 1, .goto 60] := rfl
theorem b_147_59 : am_B 147 (Int.toNat 59) = [.bipush 0, .jsr 60] := rfl
theorem b_147_60 : am_B 147 (Int.toNat 60) = [.istore 6, .iload 6, .ifCond .eq 119, .iload 4, .bipush (-9), .if_icmp .eq 115, .iload 3, .ifCond .eq 98, .aload 0, .getfield 581, .iload 5, .iaload, .aload 0, .getfield 581, .iload 4, .iaload, .if_icmp .le 119, .goto 115] := rfl
theorem b_147_98 : am_B 147 (Int.toNat 98) = [.aload 0, .getfield 581, .iload 5, .iaload, .aload 0, .getfield 581, .iload 4, .iaload, .if_icmp .ge 119, .jsr 115] := rfl
theorem b_147_115 : am_B 147 (Int.toNat 115) = [.iload 5, .istore 4, .jsr 119] := rfl
theorem b_147_119 : am_B 147 (Int.toNat 119) = [.iinc 5 1, .goto 7] := rfl
theorem b_147_125 : am_B 147 (Int.toNat 125) = [.iload 4, .ireturn] := rfl
theorem b_148_e : am_B 148 0 = [.iload 0, .ifCond .ge 9, .iload 0, .ineg, .goto 10] := rfl
theorem b_148_9 : am_B 148 (Int.toNat 9) = [.iload 0, .jsr 10] := rfl
theorem b_148_10 : am_B 148 (Int.toNat 10) = [.ireturn] := rfl
theorem b_149_e : am_B 149 0 = [.aload 0, .iload 1, .iload 2, .bipush 1, .invokevirtual 147, .istore 3, .aload 0, .iload 1, .iload 2, .bipush 0, .invokevirtual 147, .istore 4, .sipush 0, .lstore 5, .iload 3, .bipush (-9), .if_icmp .eq 183, .iload 4, .bipush (-9), .if_icmp .eq 183, .aload 0, .getfield 581, .iload 3, .iaload, .i2l, .lstore 7, .aload 0, .getfield 581, .iload 4, .iaload, .i2l, .lstore 9, .bipush 0, .istore 11, .jsr 55] := rfl
theorem b_149_55 : am_B 149 (Int.toNat 55) = [.iload 11, .aload 0, .getfield 591, .if_icmp .ge 155, .aload 0, .getfield 592, .iload 11, .iaload, .i2l, .lstore 12, .lload 12, .lload 7, .lcmp, .ifCond .le 149, .lload 12, .lload 9, .lcmp, .ifCond .ge 149, .iload 2, .i2l, .lload 12, .lcmp, .ifCond .ge 103, .iload 2, .i2l, .goto 105] := rfl
theorem b_149_103 : am_B 149 (Int.toNat 103) = [.lload 12, .jsr 105] := rfl
theorem b_149_105 : am_B 149 (Int.toNat 105) = [.lstore 14, .iload 2, .i2l, .lload 12, .lcmp, .ifCond .ge 120, .lload 12, .goto 122] := rfl
theorem b_149_120 : am_B 149 (Int.toNat 120) = [.iload 2, .i2l, .jsr 122] := rfl
theorem b_149_122 : am_B 149 (Int.toNat 122) = [.lstore 16, .lload 5, .aload 0, .getfield 593, .iload 11, .iaload, .i2l, .lload 14, .lload 7, .lsub, .lmul, .lload 9, .lload 16, .lsub, .lmul, .ladd, .lstore 5, .jsr 149] := rfl
theorem b_149_149 : am_B 149 (Int.toNat 149) = [.iinc 11 1, .goto 55] := rfl
theorem b_149_155 : am_B 149 (Int.toNat 155) = [.aload 0, .lload 7, .lload 9, .lcmp, .ifCond .ne 168, .sipush 1, .goto 177] := rfl
theorem b_149_168 : am_B 149 (Int.toNat 168) = [.sipush 1000, .lload 9, .lload 7, .lsub, .lmul, .jsr 177] := rfl
theorem b_149_177 : am_B 149 (Int.toNat 177) = [.putfield 596, .goto 346] := rfl
theorem b_149_183 : am_B 149 (Int.toNat 183) = [.aload 0, .getfield 581, .iload 3, .bipush (-9), .if_icmp .ne 198, .iload 4, .goto 199] := rfl
theorem b_149_198 : am_B 149 (Int.toNat 198) = [.iload 3, .jsr 199] := rfl
theorem b_149_199 : am_B 149 (Int.toNat 199) = [.iaload, .istore 7, .bipush 0, .istore 8, .jsr 205] := rfl
theorem b_149_205 : am_B 149 (Int.toNat 205) = [.iload 8, .aload 0, .getfield 591, .if_icmp .ge 339, .aload 0, .getfield 592, .iload 8, .iaload, .istore 9, .iload 3, .bipush (-9), .if_icmp .ne 244, .iload 9, .iload 7, .if_icmp .ge 240, .bipush 1, .goto 256] := rfl
theorem b_149_240 : am_B 149 (Int.toNat 240) = [.bipush 0, .goto 256] := rfl
theorem b_149_244 : am_B 149 (Int.toNat 244) = [.iload 9, .iload 7, .if_icmp .le 255, .bipush 1, .goto 256] := rfl
theorem b_149_255 : am_B 149 (Int.toNat 255) = [.bipush 0, .jsr 256] := rfl
theorem b_149_256 : am_B 149 (Int.toNat 256) = [.istore 10, .iload 10, .ifCond .eq 333, .iload 2, .iload 7, .if_icmp .ge 276, .iload 7, .iload 2, .isub, .goto 280] := rfl
theorem b_149_276 : am_B 149 (Int.toNat 276) = [.iload 2, .iload 7, .isub, .jsr 280] := rfl
theorem b_149_280 : am_B 149 (Int.toNat 280) = [.istore 11, .iload 9, .iload 7, .if_icmp .ge 297, .iload 7, .iload 9, .isub, .goto 302] := rfl
theorem b_149_297 : am_B 149 (Int.toNat 297) = [.iload 9, .iload 7, .isub, .jsr 302] := rfl
theorem b_149_302 : am_B 149 (Int.toNat 302) = [.istore 12, .lload 5, .aload 0, .getfield 593, .iload 8, .iaload, .i2l, .iload 11, .iload 12, .if_icmp .ge 326, .iload 11, .goto 328] := rfl
theorem b_149_326 : am_B 149 (Int.toNat 326) = [.iload 12, .jsr 328] := rfl
theorem b_149_328 : am_B 149 (Int.toNat 328) = [.i2l, .lmul, .ladd, .lstore 5, .jsr 333] := rfl
theorem b_149_333 : am_B 149 (Int.toNat 333) = [.iinc 8 1, .goto 205] := rfl
theorem b_149_339 : am_B 149 (Int.toNat 339) = [.aload 0, .sipush 1000, .putfield 596, .jsr 346] := rfl
theorem b_149_346 : am_B 149 (Int.toNat 346) = [.aload 0, .aload 0, .getfield 578, .bipush 2, .iaload, .i2l, .aload 0, .getfield 596, .lmul, .aload 0, .getfield 578, .bipush 1, .iaload, .i2l, .lload 5, .lmul, .lsub, .putfield 595, .return_] := rfl
theorem b_150_e : am_B 150 0 = [.bipush 0, .istore 1, .jsr 2] := rfl
theorem b_150_2 : am_B 150 (Int.toNat 2) = [.iload 1, .aload 0, .getfield 591, .if_icmp .ge 52, .aload 0, .aload 0, .getfield 594, .aload 0, .getfield 592, .iload 1, .iaload, .invokevirtual 149, .aload 0, .getfield 595, .aload 0, .getfield 578, .bipush 3, .iaload, .i2l, .aload 0, .getfield 596, .lmul, .lcmp, .ifCond .le 46, .bipush 1, .areturn] := rfl
theorem b_150_46 : am_B 150 (Int.toNat 46) = [.iinc 1 1, .goto 2] := rfl
theorem b_150_52 : am_B 150 (Int.toNat 52) = [.bipush 0, .areturn] := rfl
theorem b_151_e : am_B 151 0 = [.bipush (-9), .istore 1, .sipush 0, .lstore 2, .sipush 1, .lstore 4, .bipush 0, .istore 6, .jsr 11] := rfl
theorem b_151_11 : am_B 151 (Int.toNat 11) = [.iload 6, .aload 0, .getfield 591, .if_icmp .ge 121, .aload 0, .getfield 593, .iload 6, .iaload, .ifCond .lt 33, .goto 115] := rfl
theorem b_151_33 : am_B 151 (Int.toNat 33) = [.aload 0, .getfield 594, .bipush (-9), .if_icmp .ne 63, .aload 0, .aload 0, .getfield 593, .iload 6, .iaload, .ineg, .i2l, .putfield 595, .aload 0, .sipush 1, .putfield 596, .goto 78] := rfl
theorem b_151_63 : am_B 151 (Int.toNat 63) = [.aload 0, .aload 0, .getfield 594, .aload 0, .getfield 592, .iload 6, .iaload, .invokevirtual 149, .jsr 78] := rfl
theorem b_151_78 : am_B 151 (Int.toNat 78) = [.iload 1, .bipush (-9), .if_icmp .eq 101, .aload 0, .getfield 595, .lload 4, .lmul, .lload 2, .aload 0, .getfield 596, .lmul, .lcmp, .ifCond .le 115, .jsr 101] := rfl
theorem b_151_101 : am_B 151 (Int.toNat 101) = [.iload 6, .istore 1, .aload 0, .getfield 595, .lstore 2, .aload 0, .getfield 596, .lstore 4, .jsr 115] := rfl
theorem b_151_115 : am_B 151 (Int.toNat 115) = [.iinc 6 1, .goto 11] := rfl
theorem b_151_121 : am_B 151 (Int.toNat 121) = [.iload 1, .ireturn] := rfl
theorem b_152_e : am_B 152 0 = [.iload 1, .invokevirtual 129, .ifCond .ne 9, .bipush (-1), .ireturn] := rfl
theorem b_152_9 : am_B 152 (Int.toNat 9) = [.aload 0, .invokevirtual 140, .ifCond .eq 19, .bipush (-3), .ireturn] := rfl
theorem b_152_19 : am_B 152 (Int.toNat 19) = [.aload 0, .iload 1, .invokevirtual 142, .aload 0, .getfield 594, .ireturn] := rfl
theorem b_153_e : am_B 153 0 = [.iload 1, .invokevirtual 129, .ifCond .eq 31, .aload 0, .iload 2, .invokevirtual 120, .ifCond .eq 31, .iload 3, .bipush 0, .bipush 1, .invokevirtual 114, .ifCond .eq 31, .aload 0, .invokevirtual 140, .ifCond .eq 35, .jsr 31] := rfl
theorem b_153_31 : am_B 153 (Int.toNat 31) = [.sipush (-9223372036854775808), .lreturn] := rfl
theorem b_153_35 : am_B 153 (Int.toNat 35) = [.aload 0, .iload 1, .invokevirtual 142, .aload 0, .aload 0, .getfield 594, .iload 2, .invokevirtual 149, .aload 0, .iload 3, .invokevirtual 154, .lreturn] := rfl
theorem b_154_e : am_B 154 0 = [.aload 0, .getfield 595, .sipush 0, .lcmp, .ifCond .ge 17, .aload 0, .getfield 595, .lneg, .goto 21] := rfl
theorem b_154_17 : am_B 154 (Int.toNat 17) = [.aload 0, .getfield 595, .jsr 21] := rfl
theorem b_154_21 : am_B 154 (Int.toNat 21) = [.lstore 2, .aload 0, .getfield 596, .lstore 4, .jsr 28] := rfl
theorem b_154_28 : am_B 154 (Int.toNat 28) = [.lload 4, .sipush 0, .lcmp, .ifCond .eq 51, .lload 2, .lload 4, .lrem, .lstore 6, .lload 4, .lstore 2, .lload 6, .lstore 4, .goto 28] := rfl
theorem b_154_51 : am_B 154 (Int.toNat 51) = [.iload 1, .ifCond .ne 64, .aload 0, .getfield 595, .lload 2, .ldiv, .goto 70] := rfl
theorem b_154_64 : am_B 154 (Int.toNat 64) = [.aload 0, .getfield 596, .lload 2, .ldiv, .jsr 70] := rfl
theorem b_154_70 : am_B 154 (Int.toNat 70) = [.lreturn] := rfl
theorem b_155_e : am_B 155 0 = [.iload 1, .invokevirtual 129, .ifCond .eq 31, .aload 0, .iload 2, .invokevirtual 123, .ifCond .eq 31, .iload 3, .bipush 0, .bipush 1, .invokevirtual 114, .ifCond .eq 31, .aload 0, .invokevirtual 140, .ifCond .eq 35, .jsr 31] := rfl
theorem b_155_31 : am_B 155 (Int.toNat 31) = [.sipush (-9223372036854775808), .lreturn] := rfl
theorem b_155_35 : am_B 155 (Int.toNat 35) = [.aload 0, .iload 1, .invokevirtual 142, .aload 0, .getfield 594, .iload 2, .ishr, .bipush 1, .iand, .ifCond .ne 54, .iload 3, .i2l, .lreturn] := rfl
theorem b_155_54 : am_B 155 (Int.toNat 54) = [.aload 0, .aload 0, .getfield 594, .iload 2, .invokevirtual 146, .aload 0, .iload 3, .invokevirtual 154, .lreturn] := rfl
theorem b_156_e : am_B 156 0 = [.iload 1, .bipush 0, .bipush 3, .invokevirtual 114, .ifCond .eq 16, .aload 0, .invokevirtual 140, .ifCond .eq 20, .jsr 16] := rfl
theorem b_156_16 : am_B 156 (Int.toNat 16) = [.sipush (-9223372036854775808), .lreturn] := rfl
theorem b_156_20 : am_B 156 (Int.toNat 20) = [.aload 0, .invokevirtual 157, .aload 0, .getfield 598, .ifCond .ne 35, .sipush (-9223372036854775808), .lreturn] := rfl
theorem b_156_35 : am_B 156 (Int.toNat 35) = [.aload 0, .aload 0, .getfield 599, .putfield 595, .aload 0, .aload 0, .getfield 600, .putfield 596, .iload 1, .bipush 2, .if_icmp .ge 64, .aload 0, .iload 1, .invokevirtual 154, .goto 82] := rfl
theorem b_156_64 : am_B 156 (Int.toNat 64) = [.iload 1, .bipush 2, .if_icmp .ne 77, .aload 0, .getfield 601, .i2l, .goto 82] := rfl
theorem b_156_77 : am_B 156 (Int.toNat 77) = [.aload 0, .getfield 602, .i2l, .jsr 82] := rfl
theorem b_156_82 : am_B 156 (Int.toNat 82) = [.lreturn] := rfl
theorem b_157_e : am_B 157 0 = [.aload 0, .bipush 0, .putfield 598, .bipush 0, .istore 1, .jsr 7] := rfl
theorem b_157_7 : am_B 157 (Int.toNat 7) = [.iload 1, .bipush 24, .if_icmp .ge 133, .aload 0, .iload 1, .invokevirtual 142, .bipush 0, .istore 2, .jsr 20] := rfl
theorem b_157_20 : am_B 157 (Int.toNat 20) = [.iload 2, .aload 0, .getfield 584, .if_icmp .ge 127, .aload 0, .getfield 597, .iload 2, .iaload, .bipush (-9), .if_icmp .ne 42, .goto 121] := rfl
theorem b_157_42 : am_B 157 (Int.toNat 42) = [.aload 0, .aload 0, .getfield 594, .aload 0, .getfield 592, .aload 0, .getfield 597, .iload 2, .iaload, .iaload, .invokevirtual 149, .aload 0, .getfield 598, .ifCond .eq 90, .aload 0, .getfield 595, .aload 0, .getfield 600, .lmul, .aload 0, .getfield 599, .aload 0, .getfield 596, .lmul, .lcmp, .ifCond .ge 121, .jsr 90] := rfl
theorem b_157_90 : am_B 157 (Int.toNat 90) = [.aload 0, .bipush 1, .putfield 598, .aload 0, .aload 0, .getfield 595, .putfield 599, .aload 0, .aload 0, .getfield 596, .putfield 600, .aload 0, .iload 1, .putfield 601, .aload 0, .iload 2, .putfield 602, .jsr 121] := rfl
theorem b_157_121 : am_B 157 (Int.toNat 121) = [.iinc 2 1, .goto 20] := rfl
theorem b_157_127 : am_B 157 (Int.toNat 127) = [.iinc 1 1, .goto 7] := rfl
theorem b_157_133 : am_B 157 (Int.toNat 133) = [.return_] := rfl
theorem b_158_e : am_B 158 0 = [.aload 0, .invokevirtual 140, .ifCond .eq 10, .bipush (-3), .ireturn] := rfl
theorem b_158_10 : am_B 158 (Int.toNat 10) = [.aload 0, .invokevirtual 159, .ifCond .eq 21, .bipush 1, .goto 22] := rfl
theorem b_158_21 : am_B 158 (Int.toNat 21) = [.bipush 0, .jsr 22] := rfl
theorem b_158_22 : am_B 158 (Int.toNat 22) = [.ireturn] := rfl
theorem b_159_e : am_B 159 0 = [.aload 0, .invokevirtual 157, .aload 0, .getfield 598, .ifCond .eq 31, .aload 0, .getfield 599, .aload 0, .getfield 578, .bipush 4, .iaload, .i2l, .aload 0, .getfield 600, .lmul, .lcmp, .ifCond .lt 35, .jsr 31] := rfl
theorem b_159_31 : am_B 159 (Int.toNat 31) = [.bipush 1, .goto 36] := rfl
theorem b_159_35 : am_B 159 (Int.toNat 35) = [.bipush 0, .jsr 36] := rfl
theorem b_159_36 : am_B 159 (Int.toNat 36) = [.areturn] := rfl
theorem b_160_e : am_B 160 0 = [.aload 0, .invokevirtual 140, .ifCond .eq 10, .bipush (-3), .ireturn] := rfl
theorem b_160_10 : am_B 160 (Int.toNat 10) = [.bipush 0, .istore 1, .jsr 12] := rfl
theorem b_160_12 : am_B 160 (Int.toNat 12) = [.iload 1, .aload 0, .getfield 579, .if_icmp .ge 78, .aload 0, .getfield 582, .iload 1, .baload, .ifCond .eq 32, .goto 72] := rfl
theorem b_160_32 : am_B 160 (Int.toNat 32) = [.aload 0, .getfield 582, .iload 1, .bipush 1, .bastore, .aload 0, .invokevirtual 140, .ifCond .ne 53, .aload 0, .invokevirtual 159, .ifCond .ne 57, .jsr 53] := rfl
theorem b_160_53 : am_B 160 (Int.toNat 53) = [.bipush 1, .goto 58] := rfl
theorem b_160_57 : am_B 160 (Int.toNat 57) = [.bipush 0, .jsr 58] := rfl
theorem b_160_58 : am_B 160 (Int.toNat 58) = [.istore 2, .aload 0, .getfield 582, .iload 1, .bipush 0, .bastore, .iload 2, .ifCond .eq 72, .iload 1, .ireturn] := rfl
theorem b_160_72 : am_B 160 (Int.toNat 72) = [.iinc 1 1, .goto 12] := rfl
theorem b_160_78 : am_B 160 (Int.toNat 78) = [.bipush (-9), .ireturn] := rfl
theorem b_161_e : am_B 161 0 = [.iload 1, .bipush 0, .bipush 1, .invokevirtual 114, .ifCond .eq 16, .aload 0, .invokevirtual 140, .ifCond .eq 20, .jsr 16] := rfl
theorem b_161_16 : am_B 161 (Int.toNat 16) = [.sipush (-9223372036854775808), .lreturn] := rfl
theorem b_161_20 : am_B 161 (Int.toNat 20) = [.aload 0, .invokevirtual 162, .aload 0, .aload 0, .getfield 603, .putfield 595, .aload 0, .aload 0, .getfield 604, .putfield 596, .aload 0, .iload 1, .invokevirtual 154, .lreturn] := rfl
theorem b_162_e : am_B 162 0 = [.aload 0, .sipush 0, .putfield 603, .aload 0, .sipush 1, .putfield 604, .bipush 0, .istore 1, .jsr 12] := rfl
theorem b_162_12 : am_B 162 (Int.toNat 12) = [.iload 1, .bipush 24, .if_icmp .ge 104, .aload 0, .iload 1, .invokevirtual 142, .bipush 0, .istore 2, .jsr 25] := rfl
theorem b_162_25 : am_B 162 (Int.toNat 25) = [.iload 2, .aload 0, .getfield 579, .if_icmp .ge 98, .aload 0, .getfield 594, .iload 2, .ishr, .bipush 1, .iand, .bipush 1, .if_icmp .ne 92, .aload 0, .aload 0, .getfield 594, .iload 2, .invokevirtual 146, .aload 0, .getfield 595, .aload 0, .getfield 604, .lmul, .aload 0, .getfield 603, .aload 0, .getfield 596, .lmul, .lcmp, .ifCond .le 92, .aload 0, .aload 0, .getfield 595, .putfield 603, .aload 0, .aload 0, .getfield 596, .putfield 604, .jsr 92] := rfl
theorem b_162_92 : am_B 162 (Int.toNat 92) = [.iinc 2 1, .goto 25] := rfl
theorem b_162_98 : am_B 162 (Int.toNat 98) = [.iinc 1 1, .goto 12] := rfl
theorem b_162_104 : am_B 162 (Int.toNat 104) = [.return_] := rfl
theorem b_163_e : am_B 163 0 = [.aload 0, .iload 1, .invokevirtual 120, .ifCond .ne 10, .bipush (-1), .ireturn] := rfl
theorem b_163_10 : am_B 163 (Int.toNat 10) = [.iload 2, .bipush 1, .bipush 100000, .invokevirtual 114, .ifCond .ne 23, .bipush (-2), .ireturn] := rfl
theorem b_163_23 : am_B 163 (Int.toNat 23) = [.aload 0, .invokevirtual 140, .ifCond .eq 33, .bipush (-3), .ireturn] := rfl
theorem b_163_33 : am_B 163 (Int.toNat 33) = [.aload 0, .iload 1, .iload 2, .invokevirtual 164, .aload 0, .getfield 594, .ireturn] := rfl
theorem b_164_e : am_B 164 0 = [.aload 0, .bipush 1, .putfield 591, .aload 0, .getfield 592, .bipush 0, .iload 1, .iastore, .aload 0, .getfield 593, .bipush 0, .iload 2, .iastore, .aload 0, .aload 0, .invokevirtual 144, .putfield 594, .return_] := rfl
theorem b_165_e : am_B 165 0 = [.iload 1, .bipush 1, .bipush 100000, .invokevirtual 114, .ifCond .ne 13, .bipush (-2), .ireturn] := rfl
theorem b_165_13 : am_B 165 (Int.toNat 13) = [.aload 0, .invokevirtual 140, .ifCond .eq 23, .bipush (-3), .ireturn] := rfl
theorem b_165_23 : am_B 165 (Int.toNat 23) = [.bipush 0, .istore 2, .jsr 25] := rfl
theorem b_165_25 : am_B 165 (Int.toNat 25) = [.iload 2, .bipush 24, .if_icmp .ge 51, .aload 0, .iload 2, .invokevirtual 142, .aload 0, .invokevirtual 166, .ifCond .eq 45, .bipush 1, .ireturn] := rfl
theorem b_165_45 : am_B 165 (Int.toNat 45) = [.iinc 2 1, .goto 25] := rfl
theorem b_165_51 : am_B 165 (Int.toNat 51) = [.bipush 0, .istore 2, .jsr 53] := rfl
theorem b_165_53 : am_B 165 (Int.toNat 53) = [.iload 2, .aload 0, .getfield 578, .bipush 0, .iaload, .if_icmp .gt 84, .aload 0, .iload 2, .iload 1, .invokevirtual 164, .aload 0, .invokevirtual 166, .ifCond .ne 78, .bipush 2, .ireturn] := rfl
theorem b_165_78 : am_B 165 (Int.toNat 78) = [.iinc 2 1, .goto 53] := rfl
theorem b_165_84 : am_B 165 (Int.toNat 84) = [.bipush 0, .ireturn] := rfl
theorem b_166_e : am_B 166 0 = [.bipush 0, .istore 1, .jsr 2] := rfl
theorem b_166_2 : am_B 166 (Int.toNat 2) = [.iload 1, .aload 0, .getfield 579, .if_icmp .ge 59, .aload 0, .getfield 594, .iload 1, .ishr, .bipush 1, .iand, .bipush 1, .if_icmp .ne 53, .aload 0, .aload 0, .getfield 594, .iload 1, .invokevirtual 146, .aload 0, .getfield 595, .aload 0, .getfield 583, .iload 1, .iaload, .i2l, .aload 0, .getfield 596, .lmul, .lcmp, .ifCond .lt 53, .bipush 1, .areturn] := rfl
theorem b_166_53 : am_B 166 (Int.toNat 53) = [.iinc 1 1, .goto 2] := rfl
theorem b_166_59 : am_B 166 (Int.toNat 59) = [.bipush 0, .areturn] := rfl
theorem b_167_e : am_B 167 0 = [.iload 1, .bipush 1, .bipush 2, .invokevirtual 114, .ifCond .eq 36, .iload 2, .bipush 0, .bipush 1, .invokevirtual 114, .ifCond .ne 29, .aload 0, .iload 2, .bipush 10, .isub, .invokevirtual 128, .ifCond .eq 36, .jsr 29] := rfl
theorem b_167_29 : am_B 167 (Int.toNat 29) = [.aload 0, .invokevirtual 140, .ifCond .eq 40, .jsr 36] := rfl
theorem b_167_36 : am_B 167 (Int.toNat 36) = [.sipush (-9223372036854775808), .lreturn] := rfl
theorem b_167_40 : am_B 167 (Int.toNat 40) = [.aload 0, .iload 1, .invokevirtual 168, .iload 2, .bipush 10, .if_icmp .lt 62, .aload 0, .getfield 606, .iload 2, .bipush 10, .isub, .iaload, .i2l, .lreturn] := rfl
theorem b_167_62 : am_B 167 (Int.toNat 62) = [.aload 0, .aload 0, .getfield 607, .putfield 595, .aload 0, .aload 0, .getfield 608, .putfield 596, .aload 0, .iload 2, .invokevirtual 154, .lreturn] := rfl
theorem b_168_e : am_B 168 0 = [.bipush 1, .istore 2, .bipush 0, .istore 3, .jsr 4] := rfl
theorem b_168_4 : am_B 168 (Int.toNat 4) = [.iload 3, .aload 0, .getfield 584, .if_icmp .ge 36, .aload 0, .getfield 605, .iload 3, .aload 0, .getfield 587, .iload 3, .iaload, .iastore, .iload 2, .iload 1, .bipush 1, .iadd, .imul, .istore 2, .iinc 3 1, .goto 4] := rfl
theorem b_168_36 : am_B 168 (Int.toNat 36) = [.aload 0, .sipush (-1), .putfield 607, .bipush 0, .istore 3, .jsr 45] := rfl
theorem b_168_45 : am_B 168 (Int.toNat 45) = [.iload 3, .iload 2, .if_icmp .ge 182, .iload 3, .istore 4, .aload 0, .getfield 584, .bipush 1, .isub, .istore 5, .jsr 61] := rfl
theorem b_168_61 : am_B 168 (Int.toNat 61) = [.iload 5, .ifCond .lt 93, .aload 0, .getfield 587, .iload 5, .iload 4, .iload 1, .bipush 1, .iadd, .irem, .iastore, .iload 4, .iload 1, .bipush 1, .iadd, .idiv, .istore 4, .iinc 5 (-1), .goto 61] := rfl
theorem b_168_93 : am_B 168 (Int.toNat 93) = [.aload 0, .invokevirtual 162, .aload 0, .getfield 607, .sipush 0, .lcmp, .ifCond .lt 128, .aload 0, .getfield 603, .aload 0, .getfield 608, .lmul, .aload 0, .getfield 607, .aload 0, .getfield 604, .lmul, .lcmp, .ifCond .ge 176, .jsr 128] := rfl
theorem b_168_128 : am_B 168 (Int.toNat 128) = [.aload 0, .aload 0, .getfield 603, .putfield 607, .aload 0, .aload 0, .getfield 604, .putfield 608, .bipush 0, .istore 5, .jsr 147] := rfl
theorem b_168_147 : am_B 168 (Int.toNat 147) = [.iload 5, .aload 0, .getfield 584, .if_icmp .ge 176, .aload 0, .getfield 606, .iload 5, .aload 0, .getfield 587, .iload 5, .iaload, .iastore, .iinc 5 1, .goto 147] := rfl
theorem b_168_176 : am_B 168 (Int.toNat 176) = [.iinc 3 1, .goto 45] := rfl
theorem b_168_182 : am_B 168 (Int.toNat 182) = [.bipush 0, .istore 3, .jsr 184] := rfl
theorem b_168_184 : am_B 168 (Int.toNat 184) = [.iload 3, .aload 0, .getfield 584, .if_icmp .ge 210, .aload 0, .getfield 587, .iload 3, .aload 0, .getfield 605, .iload 3, .iaload, .iastore, .iinc 3 1, .goto 184] := rfl
theorem b_168_210 : am_B 168 (Int.toNat 210) = [.return_] := rfl
theorem b_169_e : am_B 169 0 = [.aload 0, .iload 1, .invokevirtual 128, .ifCond .eq 15, .aload 0, .invokevirtual 140, .ifCond .eq 19, .jsr 15] := rfl
theorem b_169_15 : am_B 169 (Int.toNat 15) = [.sipush (-9223372036854775808), .lreturn] := rfl
theorem b_169_19 : am_B 169 (Int.toNat 19) = [.sipush 0, .lstore 2, .bipush 0, .istore 4, .jsr 24] := rfl
theorem b_169_24 : am_B 169 (Int.toNat 24) = [.iload 4, .bipush 24, .if_icmp .ge 98, .aload 0, .iload 4, .invokevirtual 142, .aload 0, .getfield 597, .iload 1, .iaload, .bipush (-9), .if_icmp .eq 92, .aload 0, .aload 0, .getfield 594, .aload 0, .getfield 592, .aload 0, .getfield 597, .iload 1, .iaload, .iaload, .invokevirtual 149, .lload 2, .aload 0, .getfield 595, .aload 0, .getfield 593, .aload 0, .getfield 597, .iload 1, .iaload, .iaload, .i2l, .lmul, .aload 0, .getfield 596, .ldiv, .ladd, .lstore 2, .jsr 92] := rfl
theorem b_169_92 : am_B 169 (Int.toNat 92) = [.iinc 4 1, .goto 24] := rfl
theorem b_169_98 : am_B 169 (Int.toNat 98) = [.lload 2, .lreturn] := rfl
theorem b_170_e : am_B 170 0 = [.aload 0, .iload 1, .invokevirtual 123, .ifCond .eq 15, .aload 0, .invokevirtual 140, .ifCond .eq 19, .jsr 15] := rfl
theorem b_170_15 : am_B 170 (Int.toNat 15) = [.sipush (-9223372036854775808), .lreturn] := rfl
theorem b_170_19 : am_B 170 (Int.toNat 19) = [.sipush 0, .lstore 2, .bipush 0, .istore 4, .jsr 24] := rfl
theorem b_170_24 : am_B 170 (Int.toNat 24) = [.iload 4, .bipush 24, .if_icmp .ge 84, .aload 0, .iload 4, .invokevirtual 142, .aload 0, .getfield 594, .iload 1, .ishr, .bipush 1, .iand, .bipush 1, .if_icmp .ne 78, .aload 0, .aload 0, .getfield 594, .iload 1, .invokevirtual 146, .lload 2, .aload 0, .getfield 578, .bipush 2, .iaload, .i2l, .aload 0, .getfield 595, .lmul, .aload 0, .getfield 596, .ldiv, .ladd, .lstore 2, .jsr 78] := rfl
theorem b_170_78 : am_B 170 (Int.toNat 78) = [.iinc 4 1, .goto 24] := rfl
theorem b_170_84 : am_B 170 (Int.toNat 84) = [.lload 2, .lreturn] := rfl
theorem b_171_e : am_B 171 0 = [.iload 1, .bipush 0, .bipush 2, .invokevirtual 114, .ifCond .eq 24, .aload 0, .getfield 579, .bipush 5, .if_icmp .eq 24, .aload 0, .invokevirtual 172, .ifCond .ne 28, .jsr 24] := rfl
theorem b_171_24 : am_B 171 (Int.toNat 24) = [.sipush (-9223372036854775808), .lreturn] := rfl
theorem b_171_28 : am_B 171 (Int.toNat 28) = [.aload 0, .bipush (-9), .putfield 609, .aload 0, .getfield 579, .istore 2, .bipush 0, .istore 3, .jsr 41] := rfl
theorem b_171_41 : am_B 171 (Int.toNat 41) = [.iload 3, .aload 0, .getfield 578, .bipush 0, .iaload, .if_icmp .gt 158, .aload 0, .iload 3, .invokevirtual 121, .ifCond .eq 62, .goto 152] := rfl
theorem b_171_62 : am_B 171 (Int.toNat 62) = [.aload 0, .getfield 581, .iload 2, .iload 3, .iastore, .aload 0, .getfield 582, .iload 2, .bipush 0, .bastore, .aload 0, .dup, .getfield 579, .bipush 1, .iadd, .putfield 579, .aload 0, .invokevirtual 157, .aload 0, .dup, .getfield 579, .bipush 1, .isub, .putfield 579, .aload 0, .getfield 609, .bipush (-9), .if_icmp .eq 131, .aload 0, .getfield 599, .aload 0, .getfield 611, .lmul, .aload 0, .getfield 610, .aload 0, .getfield 600, .lmul, .lcmp, .ifCond .le 152, .jsr 131] := rfl
theorem b_171_131 : am_B 171 (Int.toNat 131) = [.aload 0, .iload 3, .putfield 609, .aload 0, .aload 0, .getfield 599, .putfield 610, .aload 0, .aload 0, .getfield 600, .putfield 611, .jsr 152] := rfl
theorem b_171_152 : am_B 171 (Int.toNat 152) = [.iinc 3 1, .goto 41] := rfl
theorem b_171_158 : am_B 171 (Int.toNat 158) = [.aload 0, .getfield 609, .bipush (-9), .if_icmp .ne 171, .sipush (-9223372036854775808), .lreturn] := rfl
theorem b_171_171 : am_B 171 (Int.toNat 171) = [.aload 0, .aload 0, .getfield 610, .putfield 595, .aload 0, .aload 0, .getfield 611, .putfield 596, .iload 1, .ifCond .ne 199, .aload 0, .getfield 609, .i2l, .goto 206] := rfl
theorem b_171_199 : am_B 171 (Int.toNat 199) = [.aload 0, .iload 1, .bipush 1, .isub, .invokevirtual 154, .jsr 206] := rfl
theorem b_171_206 : am_B 171 (Int.toNat 206) = [.lreturn] := rfl
theorem b_172_e : am_B 172 0 = [.aload 0, .invokevirtual 173, .ifCond .le 11, .bipush 1, .goto 12] := rfl
theorem b_172_11 : am_B 172 (Int.toNat 11) = [.bipush 0, .jsr 12] := rfl
theorem b_172_12 : am_B 172 (Int.toNat 12) = [.areturn] := rfl
theorem b_173_e : am_B 173 0 = [.bipush 0, .istore 1, .bipush 0, .istore 2, .jsr 4] := rfl
theorem b_173_4 : am_B 173 (Int.toNat 4) = [.iload 2, .bipush 24, .if_icmp .ge 36, .aload 0, .iload 2, .invokevirtual 143, .iload 1, .aload 0, .getfield 591, .ifCond .le 27, .bipush 1, .goto 28] := rfl
theorem b_173_27 : am_B 173 (Int.toNat 27) = [.bipush 0, .jsr 28] := rfl
theorem b_173_28 : am_B 173 (Int.toNat 28) = [.iadd, .istore 1, .iinc 2 1, .goto 4] := rfl
theorem b_173_36 : am_B 173 (Int.toNat 36) = [.iload 1, .ireturn] := rfl
theorem b_174_e : am_B 174 0 = [.aload 0, .bipush 0, .putfield 576, .iload 1, .invokevirtual 133, .ifCond .ne 14, .bipush (-1), .ireturn] := rfl
theorem b_174_14 : am_B 174 (Int.toNat 14) = [.iload 2, .invokevirtual 134, .ifCond .eq 27, .iload 3, .bipush 60, .if_icmp .le 30, .jsr 27] := rfl
theorem b_174_27 : am_B 174 (Int.toNat 27) = [.bipush (-2), .ireturn] := rfl
theorem b_174_30 : am_B 174 (Int.toNat 30) = [.iload 3, .ifCond .ge 40, .aload 0, .bipush 4, .invokevirtual 135, .ireturn] := rfl
theorem b_174_40 : am_B 174 (Int.toNat 40) = [.aload 0, .getfield 588, .iload 1, .iload 2, .iastore, .aload 0, .getfield 589, .iload 1, .iload 3, .iastore, .bipush 0, .istore 4, .jsr 57] := rfl
theorem b_174_57 : am_B 174 (Int.toNat 57) = [.iload 4, .bipush 60, .if_icmp .ge 83, .aload 0, .getfield 590, .bipush 60, .iload 1, .imul, .iload 4, .iadd, .bipush 0, .iastore, .iinc 4 1, .goto 57] := rfl
theorem b_174_83 : am_B 174 (Int.toNat 83) = [.bipush 1, .ireturn] := rfl
theorem b_175_e : am_B 175 0 = [.iload 1, .invokevirtual 133, .ifCond .ne 9, .bipush (-1), .ireturn] := rfl
theorem b_175_9 : am_B 175 (Int.toNat 9) = [.aload 0, .getfield 588, .iload 1, .iaload, .bipush (-9), .if_icmp .ne 24, .bipush 0, .goto 25] := rfl
theorem b_175_24 : am_B 175 (Int.toNat 24) = [.bipush 1, .jsr 25] := rfl
theorem b_175_25 : am_B 175 (Int.toNat 25) = [.istore 2, .aload 0, .getfield 588, .iload 1, .bipush (-9), .iastore, .iload 2, .ireturn] := rfl
theorem b_176_e : am_B 176 0 = [.aload 0, .bipush 0, .putfield 576, .iload 1, .invokevirtual 133, .ifCond .ne 14, .bipush (-1), .ireturn] := rfl
theorem b_176_14 : am_B 176 (Int.toNat 14) = [.aload 0, .getfield 588, .iload 1, .iaload, .bipush (-9), .if_icmp .ne 31, .aload 0, .bipush 1, .invokevirtual 135, .ireturn] := rfl
theorem b_176_31 : am_B 176 (Int.toNat 31) = [.iload 2, .bipush 0, .aload 0, .getfield 589, .iload 1, .iaload, .bipush 1, .isub, .invokevirtual 114, .ifCond .ne 53, .aload 0, .bipush 3, .invokevirtual 135, .ireturn] := rfl
theorem b_176_53 : am_B 176 (Int.toNat 53) = [.aload 0, .getfield 590, .bipush 60, .iload 1, .imul, .iload 2, .iadd, .aload 0, .getfield 588, .iload 1, .iaload, .ifCond .ne 77, .iload 3, .i2b, .goto 93] := rfl
theorem b_176_77 : am_B 176 (Int.toNat 77) = [.aload 0, .getfield 588, .iload 1, .iaload, .bipush 1, .if_icmp .ne 92, .iload 3, .i2s, .goto 93] := rfl
theorem b_176_92 : am_B 176 (Int.toNat 92) = [.iload 3, .jsr 93] := rfl
theorem b_176_93 : am_B 176 (Int.toNat 93) = [.iastore, .bipush 1, .ireturn] := rfl
theorem b_177_e : am_B 177 0 = [.aload 0, .bipush 0, .putfield 576, .iload 1, .invokevirtual 133, .ifCond .eq 19, .iload 3, .invokevirtual 134, .ifCond .ne 23, .jsr 19] := rfl
theorem b_177_19 : am_B 177 (Int.toNat 19) = [.sipush (-9223372036854775808), .lreturn] := rfl
theorem b_177_23 : am_B 177 (Int.toNat 23) = [.aload 0, .getfield 588, .iload 1, .iaload, .bipush (-9), .if_icmp .eq 50, .aload 0, .getfield 588, .iload 1, .iaload, .iload 3, .if_icmp .eq 50, .aload 0, .bipush 2, .invokevirtual 178, .lreturn] := rfl
theorem b_177_50 : am_B 177 (Int.toNat 50) = [.aload 0, .getfield 588, .iload 1, .iaload, .bipush (-9), .if_icmp .ne 67, .aload 0, .bipush 1, .invokevirtual 178, .lreturn] := rfl
theorem b_177_67 : am_B 177 (Int.toNat 67) = [.iload 2, .bipush 0, .aload 0, .getfield 589, .iload 1, .iaload, .bipush 1, .isub, .invokevirtual 114, .ifCond .ne 89, .aload 0, .bipush 3, .invokevirtual 178, .lreturn] := rfl
theorem b_177_89 : am_B 177 (Int.toNat 89) = [.aload 0, .getfield 590, .bipush 60, .iload 1, .imul, .iload 2, .iadd, .iaload, .i2l, .lreturn] := rfl
theorem b_178_e : am_B 178 0 = [.aload 0, .iload 1, .putfield 576, .sipush (-9223372036854775808), .lreturn] := rfl
theorem b_179_e : am_B 179 0 = [.aload 0, .iload 1, .invokevirtual 123, .ifCond .ne 10, .bipush (-1), .ireturn] := rfl
theorem b_179_10 : am_B 179 (Int.toNat 10) = [.aload 0, .getfield 582, .iload 1, .baload, .ifCond .eq 23, .bipush 0, .goto 26] := rfl
theorem b_179_23 : am_B 179 (Int.toNat 23) = [.bipush 1000, .jsr 26] := rfl
theorem b_179_26 : am_B 179 (Int.toNat 26) = [.istore 2, .aload 0, .getfield 580, .iload 1, .iaload, .lookupswitch 110 #[(1, 60), (2, 79)]] := rfl
theorem b_179_60 : am_B 179 (Int.toNat 60) = [.aload 0, .bipush 2, .invokevirtual 180, .aload 0, .bipush 1, .invokevirtual 180, .aload 0, .getfield 581, .iload 1, .iaload, .iload 2, .iadd, .ireturn] := rfl
theorem b_179_79 : am_B 179 (Int.toNat 79) = [.aload 0, .bipush 3, .invokevirtual 180, .aload 0, .bipush 2, .invokevirtual 180, .aload 0, .bipush 1, .invokevirtual 180, .aload 0, .bipush 1, .invokevirtual 180, .bipush 2, .aload 0, .getfield 581, .iload 1, .iaload, .imul, .iload 2, .iadd, .ireturn] := rfl
theorem b_179_110 : am_B 179 (Int.toNat 110) = [.aload 0, .bipush 1, .invokevirtual 180, .aload 0, .getfield 581, .iload 1, .iaload, .ireturn] := rfl
theorem b_180_e : am_B 180 0 = [.aload 0, .bipush 31, .aload 0, .getfield 577, .imul, .iload 1, .iadd, .putfield 577, .return_] := rfl
theorem b_181_e : am_B 181 0 = [.aload 0, .iload 1, .invokevirtual 123, .ifCond .ne 10, .bipush (-1), .ireturn] := rfl
theorem b_181_10 : am_B 181 (Int.toNat 10) = [.aload 0, .aload 0, .getfield 580, .iload 1, .iaload, .bipush 2, .if_icmp .ne 25, .bipush 5, .goto 26] := rfl
theorem b_181_25 : am_B 181 (Int.toNat 25) = [.bipush 4, .jsr 26] := rfl
theorem b_181_26 : am_B 181 (Int.toNat 26) = [.invokevirtual 180, .aload 0, .getfield 580, .iload 1, .iaload, .bipush 2, .if_icmp .ne 44, .bipush 50, .goto 45] := rfl
theorem b_181_44 : am_B 181 (Int.toNat 44) = [.iload 1, .jsr 45] := rfl
theorem b_181_45 : am_B 181 (Int.toNat 45) = [.ireturn] := rfl
theorem b_182_e : am_B 182 0 = [.aload 0, .bipush 0, .putfield 576, .aload 0, .iload 1, .invokevirtual 123, .ifCond .ne 15, .bipush (-1), .ireturn] := rfl
theorem b_182_15 : am_B 182 (Int.toNat 15) = [.iload 2, .bipush 0, .bipush 2, .invokevirtual 114, .ifCond .ne 27, .bipush (-2), .ireturn] := rfl
theorem b_182_27 : am_B 182 (Int.toNat 27) = [.aload 0, .getfield 580, .iload 1, .iaload, .iload 2, .if_icmp .lt 41, .bipush 1, .goto 46] := rfl
theorem b_182_41 : am_B 182 (Int.toNat 41) = [.aload 0, .bipush 2, .invokevirtual 135, .jsr 46] := rfl
theorem b_182_46 : am_B 182 (Int.toNat 46) = [.ireturn] := rfl
theorem b_183_e : am_B 183 0 = [.aload 0, .getfield 577, .ireturn] := rfl
theorem b_184_e : am_B 184 0 = [.aload 0, .getfield 576, .ireturn] := rfl
theorem b_185_e : am_B 185 0 = [.bipush 0, .istore 2, .iload 1, .tableswitch 82 0 3 #[32, 37, 72, 77]] := rfl
theorem b_185_32 : am_B 185 (Int.toNat 32) = [.aload 0, .getfield 579, .ireturn] := rfl
theorem b_185_37 : am_B 185 (Int.toNat 37) = [.bipush 0, .istore 3, .jsr 39] := rfl
theorem b_185_39 : am_B 185 (Int.toNat 39) = [.iload 3, .aload 0, .getfield 579, .if_icmp .ge 70, .iload 2, .aload 0, .getfield 582, .iload 3, .baload, .ifCond .eq 61, .bipush 0, .goto 62] := rfl
theorem b_185_61 : am_B 185 (Int.toNat 61) = [.bipush 1, .jsr 62] := rfl
theorem b_185_62 : am_B 185 (Int.toNat 62) = [.iadd, .istore 2, .iinc 3 1, .goto 39] := rfl
theorem b_185_70 : am_B 185 (Int.toNat 70) = [.iload 2, .ireturn] := rfl
theorem b_185_72 : am_B 185 (Int.toNat 72) = [.aload 0, .getfield 584, .ireturn] := rfl
theorem b_185_77 : am_B 185 (Int.toNat 77) = [.aload 0, .invokevirtual 173, .ireturn] := rfl
theorem b_185_82 : am_B 185 (Int.toNat 82) = [.bipush (-2), .ireturn] := rfl
theorem b_186_e : am_B 186 0 = [.new 8, .dup, .invokevirtual 0, .astore 1, .new 9, .dup, .invokevirtual 112, .astore 2, .bipush 0, .istore 3, .jsr 18] := rfl
theorem b_186_18 : am_B 186 (Int.toNat 18) = [.iload 3, .aload 0, .arraylength, .bipush 6, .isub, .if_icmp .gt 1200, .aload 0, .iload 3, .iaload, .bipush 63, .iand, .tableswitch 1194 0 32 #[180, 213, 246, 295, 328, 361, 374, 427, 490, 523, 566, 589, 633, 677, 701, 714, 727, 751, 784, 807, 841, 865, 889, 913, 956, 979, 1022, 1066, 1089, 1112, 1145, 1158, 1171]] := rfl
theorem b_186_180 : am_B 186 (Int.toNat 180) = [.aload 1, .aload 0, .iload 3, .bipush 1, .iadd, .iaload, .aload 0, .iload 3, .bipush 2, .iadd, .iaload, .invokevirtual 9, .aload 2, .aload 0, .iload 3, .bipush 1, .iadd, .iaload, .aload 0, .iload 3, .bipush 2, .iadd, .iaload, .invokevirtual 113, .if_icmp .eq 1194, .bipush 0, .areturn] := rfl
theorem b_186_213 : am_B 186 (Int.toNat 213) = [.aload 1, .aload 0, .iload 3, .bipush 1, .iadd, .iaload, .aload 0, .iload 3, .bipush 2, .iadd, .iaload, .invokevirtual 13, .aload 2, .aload 0, .iload 3, .bipush 1, .iadd, .iaload, .aload 0, .iload 3, .bipush 2, .iadd, .iaload, .invokevirtual 119, .if_icmp .eq 1194, .bipush 0, .areturn] := rfl
theorem b_186_246 : am_B 186 (Int.toNat 246) = [.aload 1, .aload 0, .iload 3, .bipush 1, .iadd, .iaload, .aload 0, .iload 3, .bipush 2, .iadd, .iaload, .ifCond .eq 264, .bipush 1, .goto 265] := rfl
theorem b_186_264 : am_B 186 (Int.toNat 264) = [.bipush 0, .jsr 265] := rfl
theorem b_186_265 : am_B 186 (Int.toNat 265) = [.invokevirtual 16, .aload 2, .aload 0, .iload 3, .bipush 1, .iadd, .iaload, .aload 0, .iload 3, .bipush 2, .iadd, .iaload, .ifCond .eq 286, .bipush 1, .goto 287] := rfl
theorem b_186_286 : am_B 186 (Int.toNat 286) = [.bipush 0, .jsr 287] := rfl
theorem b_186_287 : am_B 186 (Int.toNat 287) = [.invokevirtual 122, .if_icmp .eq 1194, .bipush 0, .areturn] := rfl
theorem b_186_295 : am_B 186 (Int.toNat 295) = [.aload 1, .aload 0, .iload 3, .bipush 1, .iadd, .iaload, .aload 0, .iload 3, .bipush 2, .iadd, .iaload, .invokevirtual 18, .aload 2, .aload 0, .iload 3, .bipush 1, .iadd, .iaload, .aload 0, .iload 3, .bipush 2, .iadd, .iaload, .invokevirtual 124, .if_icmp .eq 1194, .bipush 0, .areturn] := rfl
theorem b_186_328 : am_B 186 (Int.toNat 328) = [.aload 1, .aload 0, .iload 3, .bipush 1, .iadd, .iaload, .aload 0, .iload 3, .bipush 2, .iadd, .iaload, .invokevirtual 19, .aload 2, .aload 0, .iload 3, .bipush 1, .iadd, .iaload, .aload 0, .iload 3, .bipush 2, .iadd, .iaload, .invokevirtual 125, .if_icmp .eq 1194, .bipush 0, .areturn] := rfl
theorem b_186_361 : am_B 186 (Int.toNat 361) = [.aload 1, .invokevirtual 20, .aload 2, .invokevirtual 126, .if_icmp .eq 1194, .bipush 0, .areturn] := rfl
theorem b_186_374 : am_B 186 (Int.toNat 374) = [.aload 1, .aload 0, .iload 3, .bipush 1, .iadd, .iaload, .aload 0, .iload 3, .bipush 2, .iadd, .iaload, .aload 0, .iload 3, .bipush 3, .iadd, .iaload, .aload 0, .iload 3, .bipush 4, .iadd, .iaload, .invokevirtual 21, .aload 2, .aload 0, .iload 3, .bipush 1, .iadd, .iaload, .aload 0, .iload 3, .bipush 2, .iadd, .iaload, .aload 0, .iload 3, .bipush 3, .iadd, .iaload, .aload 0, .iload 3, .bipush 4, .iadd, .iaload, .invokevirtual 127, .if_icmp .eq 1194, .bipush 0, .areturn] := rfl
theorem b_186_427 : am_B 186 (Int.toNat 427) = [.aload 1, .aload 0, .iload 3, .bipush 1, .iadd, .iaload, .aload 0, .iload 3, .bipush 2, .iadd, .iaload, .aload 0, .iload 3, .bipush 3, .iadd, .iaload, .aload 0, .iload 3, .bipush 4, .iadd, .iaload, .aload 0, .iload 3, .bipush 5, .iadd, .iaload, .invokevirtual 26, .aload 2, .aload 0, .iload 3, .bipush 1, .iadd, .iaload, .aload 0, .iload 3, .bipush 2, .iadd, .iaload, .aload 0, .iload 3, .bipush 3, .iadd, .iaload, .aload 0, .iload 3, .bipush 4, .iadd, .iaload, .aload 0, .iload 3, .bipush 5, .iadd, .iaload, .invokevirtual 132, .if_icmp .eq 1194, .bipush 0, .areturn] := rfl
theorem b_186_490 : am_B 186 (Int.toNat 490) = [.aload 1, .aload 0, .iload 3, .bipush 1, .iadd, .iaload, .aload 0, .iload 3, .bipush 2, .iadd, .iaload, .invokevirtual 34, .aload 2, .aload 0, .iload 3, .bipush 1, .iadd, .iaload, .aload 0, .iload 3, .bipush 2, .iadd, .iaload, .invokevirtual 136, .if_icmp .eq 1194, .bipush 0, .areturn] := rfl
theorem b_186_523 : am_B 186 (Int.toNat 523) = [.aload 1, .aload 0, .iload 3, .bipush 1, .iadd, .iaload, .aload 0, .iload 3, .bipush 2, .iadd, .iaload, .aload 0, .iload 3, .bipush 3, .iadd, .iaload, .invokevirtual 35, .aload 2, .aload 0, .iload 3, .bipush 1, .iadd, .iaload, .aload 0, .iload 3, .bipush 2, .iadd, .iaload, .aload 0, .iload 3, .bipush 3, .iadd, .iaload, .invokevirtual 137, .if_icmp .eq 1194, .bipush 0, .areturn] := rfl
theorem b_186_566 : am_B 186 (Int.toNat 566) = [.aload 1, .aload 0, .iload 3, .bipush 1, .iadd, .iaload, .invokevirtual 60, .aload 2, .aload 0, .iload 3, .bipush 1, .iadd, .iaload, .invokevirtual 152, .if_icmp .eq 1194, .bipush 0, .areturn] := rfl
theorem b_186_589 : am_B 186 (Int.toNat 589) = [.aload 1, .aload 0, .iload 3, .bipush 1, .iadd, .iaload, .aload 0, .iload 3, .bipush 2, .iadd, .iaload, .aload 0, .iload 3, .bipush 3, .iadd, .iaload, .invokevirtual 62, .aload 2, .aload 0, .iload 3, .bipush 1, .iadd, .iaload, .aload 0, .iload 3, .bipush 2, .iadd, .iaload, .aload 0, .iload 3, .bipush 3, .iadd, .iaload, .invokevirtual 153, .lcmp, .ifCond .eq 1194, .bipush 0, .areturn] := rfl
theorem b_186_633 : am_B 186 (Int.toNat 633) = [.aload 1, .aload 0, .iload 3, .bipush 1, .iadd, .iaload, .aload 0, .iload 3, .bipush 2, .iadd, .iaload, .aload 0, .iload 3, .bipush 3, .iadd, .iaload, .invokevirtual 66, .aload 2, .aload 0, .iload 3, .bipush 1, .iadd, .iaload, .aload 0, .iload 3, .bipush 2, .iadd, .iaload, .aload 0, .iload 3, .bipush 3, .iadd, .iaload, .invokevirtual 155, .lcmp, .ifCond .eq 1194, .bipush 0, .areturn] := rfl
theorem b_186_677 : am_B 186 (Int.toNat 677) = [.aload 1, .aload 0, .iload 3, .bipush 1, .iadd, .iaload, .invokevirtual 68, .aload 2, .aload 0, .iload 3, .bipush 1, .iadd, .iaload, .invokevirtual 156, .lcmp, .ifCond .eq 1194, .bipush 0, .areturn] := rfl
theorem b_186_701 : am_B 186 (Int.toNat 701) = [.aload 1, .invokevirtual 71, .aload 2, .invokevirtual 158, .if_icmp .eq 1194, .bipush 0, .areturn] := rfl
theorem b_186_714 : am_B 186 (Int.toNat 714) = [.aload 1, .invokevirtual 73, .aload 2, .invokevirtual 160, .if_icmp .eq 1194, .bipush 0, .areturn] := rfl
theorem b_186_727 : am_B 186 (Int.toNat 727) = [.aload 1, .aload 0, .iload 3, .bipush 1, .iadd, .iaload, .invokevirtual 74, .aload 2, .aload 0, .iload 3, .bipush 1, .iadd, .iaload, .invokevirtual 161, .lcmp, .ifCond .eq 1194, .bipush 0, .areturn] := rfl
theorem b_186_751 : am_B 186 (Int.toNat 751) = [.aload 1, .aload 0, .iload 3, .bipush 1, .iadd, .iaload, .aload 0, .iload 3, .bipush 2, .iadd, .iaload, .invokevirtual 77, .aload 2, .aload 0, .iload 3, .bipush 1, .iadd, .iaload, .aload 0, .iload 3, .bipush 2, .iadd, .iaload, .invokevirtual 163, .if_icmp .eq 1194, .bipush 0, .areturn] := rfl
theorem b_186_784 : am_B 186 (Int.toNat 784) = [.aload 1, .aload 0, .iload 3, .bipush 1, .iadd, .iaload, .invokevirtual 80, .aload 2, .aload 0, .iload 3, .bipush 1, .iadd, .iaload, .invokevirtual 165, .if_icmp .eq 1194, .bipush 0, .areturn] := rfl
theorem b_186_807 : am_B 186 (Int.toNat 807) = [.aload 1, .aload 0, .iload 3, .bipush 1, .iadd, .iaload, .aload 0, .iload 3, .bipush 2, .iadd, .iaload, .invokevirtual 84, .aload 2, .aload 0, .iload 3, .bipush 1, .iadd, .iaload, .aload 0, .iload 3, .bipush 2, .iadd, .iaload, .invokevirtual 167, .lcmp, .ifCond .eq 1194, .bipush 0, .areturn] := rfl
theorem b_186_841 : am_B 186 (Int.toNat 841) = [.aload 1, .aload 0, .iload 3, .bipush 1, .iadd, .iaload, .invokevirtual 87, .aload 2, .aload 0, .iload 3, .bipush 1, .iadd, .iaload, .invokevirtual 169, .lcmp, .ifCond .eq 1194, .bipush 0, .areturn] := rfl
theorem b_186_865 : am_B 186 (Int.toNat 865) = [.aload 1, .aload 0, .iload 3, .bipush 1, .iadd, .iaload, .invokevirtual 90, .aload 2, .aload 0, .iload 3, .bipush 1, .iadd, .iaload, .invokevirtual 170, .lcmp, .ifCond .eq 1194, .bipush 0, .areturn] := rfl
theorem b_186_889 : am_B 186 (Int.toNat 889) = [.aload 1, .aload 0, .iload 3, .bipush 1, .iadd, .iaload, .invokevirtual 92, .aload 2, .aload 0, .iload 3, .bipush 1, .iadd, .iaload, .invokevirtual 171, .lcmp, .ifCond .eq 1194, .bipush 0, .areturn] := rfl
theorem b_186_913 : am_B 186 (Int.toNat 913) = [.aload 1, .aload 0, .iload 3, .bipush 1, .iadd, .iaload, .aload 0, .iload 3, .bipush 2, .iadd, .iaload, .aload 0, .iload 3, .bipush 3, .iadd, .iaload, .invokevirtual 94, .aload 2, .aload 0, .iload 3, .bipush 1, .iadd, .iaload, .aload 0, .iload 3, .bipush 2, .iadd, .iaload, .aload 0, .iload 3, .bipush 3, .iadd, .iaload, .invokevirtual 174, .if_icmp .eq 1194, .bipush 0, .areturn] := rfl
theorem b_186_956 : am_B 186 (Int.toNat 956) = [.aload 1, .aload 0, .iload 3, .bipush 1, .iadd, .iaload, .invokevirtual 96, .aload 2, .aload 0, .iload 3, .bipush 1, .iadd, .iaload, .invokevirtual 175, .if_icmp .eq 1194, .bipush 0, .areturn] := rfl
theorem b_186_979 : am_B 186 (Int.toNat 979) = [.aload 1, .aload 0, .iload 3, .bipush 1, .iadd, .iaload, .aload 0, .iload 3, .bipush 2, .iadd, .iaload, .aload 0, .iload 3, .bipush 3, .iadd, .iaload, .invokevirtual 97, .aload 2, .aload 0, .iload 3, .bipush 1, .iadd, .iaload, .aload 0, .iload 3, .bipush 2, .iadd, .iaload, .aload 0, .iload 3, .bipush 3, .iadd, .iaload, .invokevirtual 176, .if_icmp .eq 1194, .bipush 0, .areturn] := rfl
theorem b_186_1022 : am_B 186 (Int.toNat 1022) = [.aload 1, .aload 0, .iload 3, .bipush 1, .iadd, .iaload, .aload 0, .iload 3, .bipush 2, .iadd, .iaload, .aload 0, .iload 3, .bipush 3, .iadd, .iaload, .invokevirtual 100, .aload 2, .aload 0, .iload 3, .bipush 1, .iadd, .iaload, .aload 0, .iload 3, .bipush 2, .iadd, .iaload, .aload 0, .iload 3, .bipush 3, .iadd, .iaload, .invokevirtual 177, .lcmp, .ifCond .eq 1194, .bipush 0, .areturn] := rfl
theorem b_186_1066 : am_B 186 (Int.toNat 1066) = [.aload 1, .aload 0, .iload 3, .bipush 1, .iadd, .iaload, .invokevirtual 101, .aload 2, .aload 0, .iload 3, .bipush 1, .iadd, .iaload, .invokevirtual 179, .if_icmp .eq 1194, .bipush 0, .areturn] := rfl
theorem b_186_1089 : am_B 186 (Int.toNat 1089) = [.aload 1, .aload 0, .iload 3, .bipush 1, .iadd, .iaload, .invokevirtual 106, .aload 2, .aload 0, .iload 3, .bipush 1, .iadd, .iaload, .invokevirtual 181, .if_icmp .eq 1194, .bipush 0, .areturn] := rfl
theorem b_186_1112 : am_B 186 (Int.toNat 1112) = [.aload 1, .aload 0, .iload 3, .bipush 1, .iadd, .iaload, .aload 0, .iload 3, .bipush 2, .iadd, .iaload, .invokevirtual 107, .aload 2, .aload 0, .iload 3, .bipush 1, .iadd, .iaload, .aload 0, .iload 3, .bipush 2, .iadd, .iaload, .invokevirtual 182, .if_icmp .eq 1194, .bipush 0, .areturn] := rfl
theorem b_186_1145 : am_B 186 (Int.toNat 1145) = [.aload 1, .invokevirtual 108, .aload 2, .invokevirtual 183, .if_icmp .eq 1194, .bipush 0, .areturn] := rfl
theorem b_186_1158 : am_B 186 (Int.toNat 1158) = [.aload 1, .invokevirtual 109, .aload 2, .invokevirtual 184, .if_icmp .eq 1194, .bipush 0, .areturn] := rfl
theorem b_186_1171 : am_B 186 (Int.toNat 1171) = [.aload 1, .aload 0, .iload 3, .bipush 1, .iadd, .iaload, .invokevirtual 110, .aload 2, .aload 0, .iload 3, .bipush 1, .iadd, .iaload, .invokevirtual 185, .if_icmp .eq 1194, .bipush 0, .areturn] := rfl
theorem b_186_1194 : am_B 186 (Int.toNat 1194) = [.iinc 3 6, .goto 18] := rfl
theorem b_186_1200 : am_B 186 (Int.toNat 1200) = [.bipush 1, .areturn] := rfl
end
section
/-! NUMBERS; SMALL METHODS OF THE CLASS -/
theorem e_inc1 {i : Nat} : nI i + Int32.ofInt 1 = nI (i + 1) := nI_1 i
theorem e_dec1 {i : Nat} : nI (i + 1) + Int32.ofInt (-1) = nI i := by
  rw [← nI_1 i]
  show nI i + 1 + -1 = nI i
  rw [Int32.add_assoc]
  show nI i + 0 = nI i
  rw [Int32.add_zero]
theorem i64_of (x : Int32) : x.toInt64 = Int64.ofInt x.toInt := by
  rw [← Int64.toInt_inj]
  simp
theorem i10 : ((1 : Int32) = 0) = False := by decide +kernel
theorem i01 : ((0 : Int32) = 1) = False := by decide +kernel
theorem rng_lt {α : Type} {x a b : Int32} {p q : α} : (if x < a then p else if b ≤ x then p else q) = if a ≤ x ∧ x < b then q else p := by
  simp only [Int32.lt_iff_toInt_lt, Int32.le_iff_toInt_le]
  repeat' split
  all_goals first | rfl | omega
theorem rng_le {α : Type} {x a b : Int32} {p q : α} : (if x < a then p else if b < x then p else q) = if a ≤ x ∧ x ≤ b then q else p := by
  simp only [Int32.lt_iff_toInt_lt, Int32.le_iff_toInt_le]
  repeat' split
  all_goals first | rfl | omega
theorem b10 {P : Prop} [Decidable P] {h : aH} : (if P then some (some (Value.int 1), h) else some (some (Value.int 0), h)) = some (some (.int (if P then 1 else 0)), h) := by split <;> rfl
theorem bz0 {P : Prop} [Decidable P] : ((if P then (1 : Int32) else 0) = 0) ↔ ¬ P := by split <;> simp [*]
theorem bz1 {P : Prop} [Decidable P] : (¬ (if P then (1 : Int32) else 0) = 0) ↔ P := by split <;> simp [*]
theorem bzo {P : Prop} [Decidable P] : (if P then (1 : Int32) else 0) = 0 ∨ (if P then (1 : Int32) else 0) = 1 := by split <;> simp
theorem am_recv_of {mi : Nat → Nat → Int32} {ml : Nat → Nat → Int64} {k r : Nat} {as : List Value} (h : am_LAY[r]? = some (.inl (am_own k))) : am_recv (HH mi ml) k (.ref r :: as) = true := by
  have : am_obj (HH mi ml) r (am_own k) = true := by
    unfold am_obj
    rw [show (HH mi ml).1 = am_LAY from rfl, h]
    simp
  simp [am_recv, this]
theorem lay_st {d : Nat} (hd : d < 5) : am_LAY[6 + d]? = some (.inl 6) := by rcases (show d = 0 ∨ d = 1 ∨ d = 2 ∨ d = 3 ∨ d = 4 by omega) with rfl | rfl | rfl | rfl | rfl <;> rfl
theorem lay_tr {d : Nat} (hd : d < 5) : am_LAY[11 + 3 * d]? = some (.inl 7) := by rcases (show d = 0 ∨ d = 1 ∨ d = 2 ∨ d = 3 ∨ d = 4 by omega) with rfl | rfl | rfl | rfl | rfl <;> rfl
theorem lay_sh {d : Nat} (hd : d < 4) : am_LAY[52 + 2 * d]? = some (.inl 5) := by rcases (show d = 0 ∨ d = 1 ∨ d = 2 ∨ d = 3 by omega) with rfl | rfl | rfl | rfl <;> rfl
theorem lay_27 : am_LAY[27]? = some (.inl 4) := rfl
theorem lay_28 : am_LAY[28]? = some (.inl 4) := rfl
theorem lay_30 : am_LAY[30]? = some (.inl 4) := rfl
theorem lay_31 : am_LAY[31]? = some (.inl 4) := rfl
theorem lay_32 : am_LAY[32]? = some (.inl 4) := rfl
theorem lay_43 : am_LAY[43]? = some (.inl 4) := rfl
theorem lay_44 : am_LAY[44]? = some (.inl 4) := rfl
theorem lay_46 : am_LAY[46]? = some (.inl 4) := rfl
theorem lay_49 : am_LAY[49]? = some (.inl 4) := rfl
theorem lay_60 : am_LAY[60]? = some (.inl 4) := rfl
theorem lay_pm {d : Nat} (hd : d < 2) : am_LAY[46 + 3 * d]? = some (.inl 4) := by rcases (show d = 0 ∨ d = 1 by omega) with rfl | rfl <;> rfl
section Cl
variable {E : aE} {mi : Nat → Nat → Int32} {ml : Nat → Nat → Int64}
theorem obj_of {k c : Nat} (hk : am_LAY[k]? = some (.inl c)) : am_obj (HH mi ml) k c = true := by
  unfold am_obj
  rw [show (HH mi ml).1 = am_LAY from rfl, hk]
  simp
theorem gS_0 {M k : Nat} {c : List Instr} {L S : List Value} (hk : am_LAY[k]? = some (.inl 4)) : ev E M (.getfield 256 :: c) L (.ref k :: S) (HH mi ml) = ev E M c L (.long (ml k 0) :: S) (HH mi ml) := e_getf (obj_of hk) rfl
theorem gS_1 {M k : Nat} {c : List Instr} {L S : List Value} (hk : am_LAY[k]? = some (.inl 4)) : ev E M (.getfield 257 :: c) L (.ref k :: S) (HH mi ml) = ev E M c L (.long (ml k 1) :: S) (HH mi ml) := e_getf (obj_of hk) rfl
theorem pS_0 {M k : Nat} {c : List Instr} {L S : List Value} {v : Int64} (hk : am_LAY[k]? = some (.inl 4)) : ev E M (.putfield 256 :: c) L (.long v :: .ref k :: S) (HH mi ml) = ev E M c L S (HH mi (am_up ml k 0 v)) := e_putf (obj_of hk) rfl
theorem pS_1 {M k : Nat} {c : List Instr} {L S : List Value} {v : Int64} (hk : am_LAY[k]? = some (.inl 4)) : ev E M (.putfield 257 :: c) L (.long v :: .ref k :: S) (HH mi ml) = ev E M c L S (HH mi (am_up ml k 1 v)) := e_putf (obj_of hk) rfl
theorem ct_Circuit_clearStations   : ev E 40 (am_B 40 0) [.ref 34] [] (HH mi ml) = some (none, HH (am_up mi 34 5 0) ml) := by
  simp only [b_40_e, e_aloadr_0, k_0, p_5_34, e_ret, eq_self]
theorem cc_Circuit_clearStations_0 {M : Nat} {c : List Instr} {L : List Value}   : ev E M (.invokevirtual 40 :: c) L (.ref 34 :: []) (HH mi ml) = ev E M c L [] (HH (am_up mi 34 5 0) ml) := e_inv (as := [.ref 34]) (S := []) rfl rfl (Nat.le_of_ble_eq_true rfl) (rfl) (ct_Circuit_clearStations )
theorem cc_Circuit_clearStations_1 {M : Nat} {c : List Instr} {L : List Value} {s0 : Value}   : ev E M (.invokevirtual 40 :: c) L (.ref 34 :: [s0]) (HH mi ml) = ev E M c L [s0] (HH (am_up mi 34 5 0) ml) := e_inv (as := [.ref 34]) (S := [s0]) rfl rfl (Nat.le_of_ble_eq_true rfl) (rfl) (ct_Circuit_clearStations )
theorem cc_Circuit_clearStations_2 {M : Nat} {c : List Instr} {L : List Value} {s0 s1 : Value}   : ev E M (.invokevirtual 40 :: c) L (.ref 34 :: [s0, s1]) (HH mi ml) = ev E M c L [s0, s1] (HH (am_up mi 34 5 0) ml) := e_inv (as := [.ref 34]) (S := [s0, s1]) rfl rfl (Nat.le_of_ble_eq_true rfl) (rfl) (ct_Circuit_clearStations )
theorem cc_Circuit_clearStations_3 {M : Nat} {c : List Instr} {L : List Value} {s0 s1 s2 : Value}   : ev E M (.invokevirtual 40 :: c) L (.ref 34 :: [s0, s1, s2]) (HH mi ml) = ev E M c L [s0, s1, s2] (HH (am_up mi 34 5 0) ml) := e_inv (as := [.ref 34]) (S := [s0, s1, s2]) rfl rfl (Nat.le_of_ble_eq_true rfl) (rfl) (ct_Circuit_clearStations )
theorem ct_Line_hasPlace {x : Int32}  : ev E 14 (am_B 14 0) [.ref 1, .int x] [] (HH mi ml) = some (some (.int (if 0 ≤ x ∧ x ≤ mi 2 0 then 1 else 0)), HH mi ml) := by
  simp only [b_14_e, b_14_18, b_14_19, e_iload_1, e_if_lt, e_aloadr_0, g_128_1, k_0, il_2, il_5, il_33, il_35, il_36, il_41, il_42, il_tp, il_ta, il_sc, il_po, ik_2_0, ik_2_1, ik_2_2, ik_2_3, ik_2_4, e_icmp_gt, k_1, e_goto, e_jsr, e_zret0, e_zret1, eq_self, rng_le, b10]
theorem cc_Line_hasPlace_0 {M : Nat} {c : List Instr} {L : List Value} {x : Int32}  : ev E M (.invokevirtual 14 :: c) L (.int x :: .ref 1 :: []) (HH mi ml) = ev E M c L (.int (if 0 ≤ x ∧ x ≤ mi 2 0 then 1 else 0) :: []) (HH mi ml) := e_inv (as := [.ref 1, .int x]) (S := []) rfl rfl (Nat.le_of_ble_eq_true rfl) (rfl) (ct_Line_hasPlace )
theorem cc_Line_hasPlace_1 {M : Nat} {c : List Instr} {L : List Value} {s0 : Value} {x : Int32}  : ev E M (.invokevirtual 14 :: c) L (.int x :: .ref 1 :: [s0]) (HH mi ml) = ev E M c L (.int (if 0 ≤ x ∧ x ≤ mi 2 0 then 1 else 0) :: [s0]) (HH mi ml) := e_inv (as := [.ref 1, .int x]) (S := [s0]) rfl rfl (Nat.le_of_ble_eq_true rfl) (rfl) (ct_Line_hasPlace )
theorem cc_Line_hasPlace_2 {M : Nat} {c : List Instr} {L : List Value} {s0 s1 : Value} {x : Int32}  : ev E M (.invokevirtual 14 :: c) L (.int x :: .ref 1 :: [s0, s1]) (HH mi ml) = ev E M c L (.int (if 0 ≤ x ∧ x ≤ mi 2 0 then 1 else 0) :: [s0, s1]) (HH mi ml) := e_inv (as := [.ref 1, .int x]) (S := [s0, s1]) rfl rfl (Nat.le_of_ble_eq_true rfl) (rfl) (ct_Line_hasPlace )
theorem cc_Line_hasPlace_3 {M : Nat} {c : List Instr} {L : List Value} {s0 s1 s2 : Value} {x : Int32}  : ev E M (.invokevirtual 14 :: c) L (.int x :: .ref 1 :: [s0, s1, s2]) (HH mi ml) = ev E M c L (.int (if 0 ≤ x ∧ x ≤ mi 2 0 then 1 else 0) :: [s0, s1, s2]) (HH mi ml) := e_inv (as := [.ref 1, .int x]) (S := [s0, s1, s2]) rfl rfl (Nat.le_of_ble_eq_true rfl) (rfl) (ct_Line_hasPlace )
theorem ct_Line_hasStation {s : Int32}  : ev E 17 (am_B 17 0) [.ref 1, .int s] [] (HH mi ml) = some (some (.int (if 0 ≤ s ∧ s < mi 1 4 then 1 else 0)), HH mi ml) := by
  simp only [b_17_e, b_17_16, b_17_17, e_iload_1, e_if_lt, e_aloadr_0, g_132_1, e_icmp_ge, k_1, e_goto, k_0, e_jsr, e_zret0, e_zret1, eq_self, rng_lt, b10]
theorem cc_Line_hasStation_0 {M : Nat} {c : List Instr} {L : List Value} {s : Int32}  : ev E M (.invokevirtual 17 :: c) L (.int s :: .ref 1 :: []) (HH mi ml) = ev E M c L (.int (if 0 ≤ s ∧ s < mi 1 4 then 1 else 0) :: []) (HH mi ml) := e_inv (as := [.ref 1, .int s]) (S := []) rfl rfl (Nat.le_of_ble_eq_true rfl) (rfl) (ct_Line_hasStation )
theorem cc_Line_hasStation_1 {M : Nat} {c : List Instr} {L : List Value} {s0 : Value} {s : Int32}  : ev E M (.invokevirtual 17 :: c) L (.int s :: .ref 1 :: [s0]) (HH mi ml) = ev E M c L (.int (if 0 ≤ s ∧ s < mi 1 4 then 1 else 0) :: [s0]) (HH mi ml) := e_inv (as := [.ref 1, .int s]) (S := [s0]) rfl rfl (Nat.le_of_ble_eq_true rfl) (rfl) (ct_Line_hasStation )
theorem cc_Line_hasStation_2 {M : Nat} {c : List Instr} {L : List Value} {s0 s1 : Value} {s : Int32}  : ev E M (.invokevirtual 17 :: c) L (.int s :: .ref 1 :: [s0, s1]) (HH mi ml) = ev E M c L (.int (if 0 ≤ s ∧ s < mi 1 4 then 1 else 0) :: [s0, s1]) (HH mi ml) := e_inv (as := [.ref 1, .int s]) (S := [s0, s1]) rfl rfl (Nat.le_of_ble_eq_true rfl) (rfl) (ct_Line_hasStation )
theorem cc_Line_hasStation_3 {M : Nat} {c : List Instr} {L : List Value} {s0 s1 s2 : Value} {s : Int32}  : ev E M (.invokevirtual 17 :: c) L (.int s :: .ref 1 :: [s0, s1, s2]) (HH mi ml) = ev E M c L (.int (if 0 ≤ s ∧ s < mi 1 4 then 1 else 0) :: [s0, s1, s2]) (HH mi ml) := e_inv (as := [.ref 1, .int s]) (S := [s0, s1, s2]) rfl rfl (Nat.le_of_ble_eq_true rfl) (rfl) (ct_Line_hasStation )
theorem ct_Line_hasTrain {s : Int32}  : ev E 22 (am_B 22 0) [.ref 1, .int s] [] (HH mi ml) = some (some (.int (if 0 ≤ s ∧ s < mi 1 5 then 1 else 0)), HH mi ml) := by
  simp only [b_22_e, b_22_16, b_22_17, e_iload_1, e_if_lt, e_aloadr_0, g_133_1, e_icmp_ge, k_1, e_goto, k_0, e_jsr, e_zret0, e_zret1, eq_self, rng_lt, b10]
theorem cc_Line_hasTrain_0 {M : Nat} {c : List Instr} {L : List Value} {s : Int32}  : ev E M (.invokevirtual 22 :: c) L (.int s :: .ref 1 :: []) (HH mi ml) = ev E M c L (.int (if 0 ≤ s ∧ s < mi 1 5 then 1 else 0) :: []) (HH mi ml) := e_inv (as := [.ref 1, .int s]) (S := []) rfl rfl (Nat.le_of_ble_eq_true rfl) (rfl) (ct_Line_hasTrain )
theorem cc_Line_hasTrain_1 {M : Nat} {c : List Instr} {L : List Value} {s0 : Value} {s : Int32}  : ev E M (.invokevirtual 22 :: c) L (.int s :: .ref 1 :: [s0]) (HH mi ml) = ev E M c L (.int (if 0 ≤ s ∧ s < mi 1 5 then 1 else 0) :: [s0]) (HH mi ml) := e_inv (as := [.ref 1, .int s]) (S := [s0]) rfl rfl (Nat.le_of_ble_eq_true rfl) (rfl) (ct_Line_hasTrain )
theorem cc_Line_hasTrain_2 {M : Nat} {c : List Instr} {L : List Value} {s0 s1 : Value} {s : Int32}  : ev E M (.invokevirtual 22 :: c) L (.int s :: .ref 1 :: [s0, s1]) (HH mi ml) = ev E M c L (.int (if 0 ≤ s ∧ s < mi 1 5 then 1 else 0) :: [s0, s1]) (HH mi ml) := e_inv (as := [.ref 1, .int s]) (S := [s0, s1]) rfl rfl (Nat.le_of_ble_eq_true rfl) (rfl) (ct_Line_hasTrain )
theorem cc_Line_hasTrain_3 {M : Nat} {c : List Instr} {L : List Value} {s0 s1 s2 : Value} {s : Int32}  : ev E M (.invokevirtual 22 :: c) L (.int s :: .ref 1 :: [s0, s1, s2]) (HH mi ml) = ev E M c L (.int (if 0 ≤ s ∧ s < mi 1 5 then 1 else 0) :: [s0, s1, s2]) (HH mi ml) := e_inv (as := [.ref 1, .int s]) (S := [s0, s1, s2]) rfl rfl (Nat.le_of_ble_eq_true rfl) (rfl) (ct_Line_hasTrain )
theorem ct_X_isTick {s : Int32}  : ev E 23 (am_B 23 0) [.int s] [] (HH mi ml) = some (some (.int (if 0 ≤ s ∧ s < 24 then 1 else 0)), HH mi ml) := by
  simp only [b_23_e, b_23_14, b_23_15, e_iload_0, e_if_lt, k_24, e_icmp_ge, k_1, e_goto, k_0, e_jsr, e_zret0, e_zret1, eq_self, rng_lt, b10]
theorem cc_X_isTick_0 {M : Nat} {c : List Instr} {L : List Value} {s : Int32}  : ev E M (.invokevirtual 23 :: c) L (.int s :: []) (HH mi ml) = ev E M c L (.int (if 0 ≤ s ∧ s < 24 then 1 else 0) :: []) (HH mi ml) := e_inv (as := [.int s]) (S := []) rfl rfl (Nat.le_of_ble_eq_true rfl) (rfl) (ct_X_isTick )
theorem cc_X_isTick_1 {M : Nat} {c : List Instr} {L : List Value} {s0 : Value} {s : Int32}  : ev E M (.invokevirtual 23 :: c) L (.int s :: [s0]) (HH mi ml) = ev E M c L (.int (if 0 ≤ s ∧ s < 24 then 1 else 0) :: [s0]) (HH mi ml) := e_inv (as := [.int s]) (S := [s0]) rfl rfl (Nat.le_of_ble_eq_true rfl) (rfl) (ct_X_isTick )
theorem cc_X_isTick_2 {M : Nat} {c : List Instr} {L : List Value} {s0 s1 : Value} {s : Int32}  : ev E M (.invokevirtual 23 :: c) L (.int s :: [s0, s1]) (HH mi ml) = ev E M c L (.int (if 0 ≤ s ∧ s < 24 then 1 else 0) :: [s0, s1]) (HH mi ml) := e_inv (as := [.int s]) (S := [s0, s1]) rfl rfl (Nat.le_of_ble_eq_true rfl) (rfl) (ct_X_isTick )
theorem cc_X_isTick_3 {M : Nat} {c : List Instr} {L : List Value} {s0 s1 s2 : Value} {s : Int32}  : ev E M (.invokevirtual 23 :: c) L (.int s :: [s0, s1, s2]) (HH mi ml) = ev E M c L (.int (if 0 ≤ s ∧ s < 24 then 1 else 0) :: [s0, s1, s2]) (HH mi ml) := e_inv (as := [.int s]) (S := [s0, s1, s2]) rfl rfl (Nat.le_of_ble_eq_true rfl) (rfl) (ct_X_isTick )
theorem ct_X_isSheet {s : Int32}  : ev E 27 (am_B 27 0) [.int s] [] (HH mi ml) = some (some (.int (if 0 ≤ s ∧ s < 4 then 1 else 0)), HH mi ml) := by
  simp only [b_27_e, b_27_13, b_27_14, e_iload_0, e_if_lt, k_4, e_icmp_ge, k_1, e_goto, k_0, e_jsr, e_zret0, e_zret1, eq_self, rng_lt, b10]
theorem cc_X_isSheet_0 {M : Nat} {c : List Instr} {L : List Value} {s : Int32}  : ev E M (.invokevirtual 27 :: c) L (.int s :: []) (HH mi ml) = ev E M c L (.int (if 0 ≤ s ∧ s < 4 then 1 else 0) :: []) (HH mi ml) := e_inv (as := [.int s]) (S := []) rfl rfl (Nat.le_of_ble_eq_true rfl) (rfl) (ct_X_isSheet )
theorem cc_X_isSheet_1 {M : Nat} {c : List Instr} {L : List Value} {s0 : Value} {s : Int32}  : ev E M (.invokevirtual 27 :: c) L (.int s :: [s0]) (HH mi ml) = ev E M c L (.int (if 0 ≤ s ∧ s < 4 then 1 else 0) :: [s0]) (HH mi ml) := e_inv (as := [.int s]) (S := [s0]) rfl rfl (Nat.le_of_ble_eq_true rfl) (rfl) (ct_X_isSheet )
theorem cc_X_isSheet_2 {M : Nat} {c : List Instr} {L : List Value} {s0 s1 : Value} {s : Int32}  : ev E M (.invokevirtual 27 :: c) L (.int s :: [s0, s1]) (HH mi ml) = ev E M c L (.int (if 0 ≤ s ∧ s < 4 then 1 else 0) :: [s0, s1]) (HH mi ml) := e_inv (as := [.int s]) (S := [s0, s1]) rfl rfl (Nat.le_of_ble_eq_true rfl) (rfl) (ct_X_isSheet )
theorem cc_X_isSheet_3 {M : Nat} {c : List Instr} {L : List Value} {s0 s1 s2 : Value} {s : Int32}  : ev E M (.invokevirtual 27 :: c) L (.int s :: [s0, s1, s2]) (HH mi ml) = ev E M c L (.int (if 0 ≤ s ∧ s < 4 then 1 else 0) :: [s0, s1, s2]) (HH mi ml) := e_inv (as := [.int s]) (S := [s0, s1, s2]) rfl rfl (Nat.le_of_ble_eq_true rfl) (rfl) (ct_X_isSheet )
theorem ct_X_isLane {s : Int32}  : ev E 28 (am_B 28 0) [.int s] [] (HH mi ml) = some (some (.int (if 0 ≤ s ∧ s ≤ 2 then 1 else 0)), HH mi ml) := by
  simp only [b_28_e, b_28_13, b_28_14, e_iload_0, e_if_lt, k_2, e_icmp_gt, k_1, e_goto, k_0, e_jsr, e_zret0, e_zret1, eq_self, rng_le, b10]
theorem cc_X_isLane_0 {M : Nat} {c : List Instr} {L : List Value} {s : Int32}  : ev E M (.invokevirtual 28 :: c) L (.int s :: []) (HH mi ml) = ev E M c L (.int (if 0 ≤ s ∧ s ≤ 2 then 1 else 0) :: []) (HH mi ml) := e_inv (as := [.int s]) (S := []) rfl rfl (Nat.le_of_ble_eq_true rfl) (rfl) (ct_X_isLane )
theorem cc_X_isLane_1 {M : Nat} {c : List Instr} {L : List Value} {s0 : Value} {s : Int32}  : ev E M (.invokevirtual 28 :: c) L (.int s :: [s0]) (HH mi ml) = ev E M c L (.int (if 0 ≤ s ∧ s ≤ 2 then 1 else 0) :: [s0]) (HH mi ml) := e_inv (as := [.int s]) (S := [s0]) rfl rfl (Nat.le_of_ble_eq_true rfl) (rfl) (ct_X_isLane )
theorem cc_X_isLane_2 {M : Nat} {c : List Instr} {L : List Value} {s0 s1 : Value} {s : Int32}  : ev E M (.invokevirtual 28 :: c) L (.int s :: [s0, s1]) (HH mi ml) = ev E M c L (.int (if 0 ≤ s ∧ s ≤ 2 then 1 else 0) :: [s0, s1]) (HH mi ml) := e_inv (as := [.int s]) (S := [s0, s1]) rfl rfl (Nat.le_of_ble_eq_true rfl) (rfl) (ct_X_isLane )
theorem cc_X_isLane_3 {M : Nat} {c : List Instr} {L : List Value} {s0 s1 s2 : Value} {s : Int32}  : ev E M (.invokevirtual 28 :: c) L (.int s :: [s0, s1, s2]) (HH mi ml) = ev E M c L (.int (if 0 ≤ s ∧ s ≤ 2 then 1 else 0) :: [s0, s1, s2]) (HH mi ml) := e_inv (as := [.int s]) (S := [s0, s1, s2]) rfl rfl (Nat.le_of_ble_eq_true rfl) (rfl) (ct_X_isLane )
theorem ct_X_isFaultCurrent {s : Int32}  : ev E 78 (am_B 78 0) [.int s] [] (HH mi ml) = some (some (.int (if 1 ≤ s ∧ s ≤ 100000 then 1 else 0)), HH mi ml) := by
  simp only [b_78_e, b_78_15, b_78_16, e_iload_0, k_1, e_icmp_lt, k_100000, e_icmp_gt, e_goto, k_0, e_jsr, e_zret0, e_zret1, eq_self, rng_le, b10]
theorem cc_X_isFaultCurrent_0 {M : Nat} {c : List Instr} {L : List Value} {s : Int32}  : ev E M (.invokevirtual 78 :: c) L (.int s :: []) (HH mi ml) = ev E M c L (.int (if 1 ≤ s ∧ s ≤ 100000 then 1 else 0) :: []) (HH mi ml) := e_inv (as := [.int s]) (S := []) rfl rfl (Nat.le_of_ble_eq_true rfl) (rfl) (ct_X_isFaultCurrent )
theorem cc_X_isFaultCurrent_1 {M : Nat} {c : List Instr} {L : List Value} {s0 : Value} {s : Int32}  : ev E M (.invokevirtual 78 :: c) L (.int s :: [s0]) (HH mi ml) = ev E M c L (.int (if 1 ≤ s ∧ s ≤ 100000 then 1 else 0) :: [s0]) (HH mi ml) := e_inv (as := [.int s]) (S := [s0]) rfl rfl (Nat.le_of_ble_eq_true rfl) (rfl) (ct_X_isFaultCurrent )
theorem cc_X_isFaultCurrent_2 {M : Nat} {c : List Instr} {L : List Value} {s0 s1 : Value} {s : Int32}  : ev E M (.invokevirtual 78 :: c) L (.int s :: [s0, s1]) (HH mi ml) = ev E M c L (.int (if 1 ≤ s ∧ s ≤ 100000 then 1 else 0) :: [s0, s1]) (HH mi ml) := e_inv (as := [.int s]) (S := [s0, s1]) rfl rfl (Nat.le_of_ble_eq_true rfl) (rfl) (ct_X_isFaultCurrent )
theorem cc_X_isFaultCurrent_3 {M : Nat} {c : List Instr} {L : List Value} {s0 s1 s2 : Value} {s : Int32}  : ev E M (.invokevirtual 78 :: c) L (.int s :: [s0, s1, s2]) (HH mi ml) = ev E M c L (.int (if 1 ≤ s ∧ s ≤ 100000 then 1 else 0) :: [s0, s1, s2]) (HH mi ml) := e_inv (as := [.int s]) (S := [s0, s1, s2]) rfl rfl (Nat.le_of_ble_eq_true rfl) (rfl) (ct_X_isFaultCurrent )
theorem ct_X_isHalf {s : Int32}  : ev E 63 (am_B 63 0) [.int s] [] (HH mi ml) = some (some (.int (if s = 0 ∨ s = 1 then 1 else 0)), HH mi ml) := by
  simp only [b_63_e, b_63_9, b_63_13, b_63_14, e_iload_0, e_if_eq, k_1, e_icmp_ne, e_jsr, e_goto, k_0, e_zret0, e_zret1, eq_self]
  by_cases h0 : s = 0 <;> by_cases h1 : s = 1 <;> simp [h0, h1]
theorem cc_X_isHalf_0 {M : Nat} {c : List Instr} {L : List Value} {s : Int32}  : ev E M (.invokevirtual 63 :: c) L (.int s :: []) (HH mi ml) = ev E M c L (.int (if s = 0 ∨ s = 1 then 1 else 0) :: []) (HH mi ml) := e_inv (as := [.int s]) (S := []) rfl rfl (Nat.le_of_ble_eq_true rfl) (rfl) (ct_X_isHalf )
theorem cc_X_isHalf_1 {M : Nat} {c : List Instr} {L : List Value} {s0 : Value} {s : Int32}  : ev E M (.invokevirtual 63 :: c) L (.int s :: [s0]) (HH mi ml) = ev E M c L (.int (if s = 0 ∨ s = 1 then 1 else 0) :: [s0]) (HH mi ml) := e_inv (as := [.int s]) (S := [s0]) rfl rfl (Nat.le_of_ble_eq_true rfl) (rfl) (ct_X_isHalf )
theorem cc_X_isHalf_2 {M : Nat} {c : List Instr} {L : List Value} {s0 s1 : Value} {s : Int32}  : ev E M (.invokevirtual 63 :: c) L (.int s :: [s0, s1]) (HH mi ml) = ev E M c L (.int (if s = 0 ∨ s = 1 then 1 else 0) :: [s0, s1]) (HH mi ml) := e_inv (as := [.int s]) (S := [s0, s1]) rfl rfl (Nat.le_of_ble_eq_true rfl) (rfl) (ct_X_isHalf )
theorem cc_X_isHalf_3 {M : Nat} {c : List Instr} {L : List Value} {s0 s1 s2 : Value} {s : Int32}  : ev E M (.invokevirtual 63 :: c) L (.int s :: [s0, s1, s2]) (HH mi ml) = ev E M c L (.int (if s = 0 ∨ s = 1 then 1 else 0) :: [s0, s1, s2]) (HH mi ml) := e_inv (as := [.int s]) (S := [s0, s1, s2]) rfl rfl (Nat.le_of_ble_eq_true rfl) (rfl) (ct_X_isHalf )
theorem ct_X_failed {s : Int32}  : ev E 31 (am_B 31 0) [.ref 0, .int s] [] (HH mi ml) = some (some (.int (-10 - s)), HH (am_up mi 0 5 s) ml) := by
  simp only [b_31_e, e_aloadr_0, e_iload_1, p_517_0, k_m10, e_isub, e_iret, eq_self]
theorem cc_X_failed_0 {M : Nat} {c : List Instr} {L : List Value} {s : Int32}  : ev E M (.invokevirtual 31 :: c) L (.int s :: .ref 0 :: []) (HH mi ml) = ev E M c L (.int (-10 - s) :: []) (HH (am_up mi 0 5 s) ml) := e_inv (as := [.ref 0, .int s]) (S := []) rfl rfl (Nat.le_of_ble_eq_true rfl) (rfl) (ct_X_failed )
theorem cc_X_failed_1 {M : Nat} {c : List Instr} {L : List Value} {s0 : Value} {s : Int32}  : ev E M (.invokevirtual 31 :: c) L (.int s :: .ref 0 :: [s0]) (HH mi ml) = ev E M c L (.int (-10 - s) :: [s0]) (HH (am_up mi 0 5 s) ml) := e_inv (as := [.ref 0, .int s]) (S := [s0]) rfl rfl (Nat.le_of_ble_eq_true rfl) (rfl) (ct_X_failed )
theorem cc_X_failed_2 {M : Nat} {c : List Instr} {L : List Value} {s0 s1 : Value} {s : Int32}  : ev E M (.invokevirtual 31 :: c) L (.int s :: .ref 0 :: [s0, s1]) (HH mi ml) = ev E M c L (.int (-10 - s) :: [s0, s1]) (HH (am_up mi 0 5 s) ml) := e_inv (as := [.ref 0, .int s]) (S := [s0, s1]) rfl rfl (Nat.le_of_ble_eq_true rfl) (rfl) (ct_X_failed )
theorem cc_X_failed_3 {M : Nat} {c : List Instr} {L : List Value} {s0 s1 s2 : Value} {s : Int32}  : ev E M (.invokevirtual 31 :: c) L (.int s :: .ref 0 :: [s0, s1, s2]) (HH mi ml) = ev E M c L (.int (-10 - s) :: [s0, s1, s2]) (HH (am_up mi 0 5 s) ml) := e_inv (as := [.ref 0, .int s]) (S := [s0, s1, s2]) rfl rfl (Nat.le_of_ble_eq_true rfl) (rfl) (ct_X_failed )
theorem ct_X_leaveTrace {s : Int32}  : ev E 103 (am_B 103 0) [.ref 0, .int s] [] (HH mi ml) = some (none, HH (am_up mi 0 4 (31 * mi 0 4 + s)) ml) := by
  simp only [b_103_e, e_aloadr_0, k_31, g_516_0, e_imul, e_iload_1, e_iadd, p_516_0, e_ret, eq_self]
theorem cc_X_leaveTrace_0 {M : Nat} {c : List Instr} {L : List Value} {s : Int32}  : ev E M (.invokevirtual 103 :: c) L (.int s :: .ref 0 :: []) (HH mi ml) = ev E M c L [] (HH (am_up mi 0 4 (31 * mi 0 4 + s)) ml) := e_inv (as := [.ref 0, .int s]) (S := []) rfl rfl (Nat.le_of_ble_eq_true rfl) (rfl) (ct_X_leaveTrace )
theorem cc_X_leaveTrace_1 {M : Nat} {c : List Instr} {L : List Value} {s0 : Value} {s : Int32}  : ev E M (.invokevirtual 103 :: c) L (.int s :: .ref 0 :: [s0]) (HH mi ml) = ev E M c L [s0] (HH (am_up mi 0 4 (31 * mi 0 4 + s)) ml) := e_inv (as := [.ref 0, .int s]) (S := [s0]) rfl rfl (Nat.le_of_ble_eq_true rfl) (rfl) (ct_X_leaveTrace )
theorem cc_X_leaveTrace_2 {M : Nat} {c : List Instr} {L : List Value} {s0 s1 : Value} {s : Int32}  : ev E M (.invokevirtual 103 :: c) L (.int s :: .ref 0 :: [s0, s1]) (HH mi ml) = ev E M c L [s0, s1] (HH (am_up mi 0 4 (31 * mi 0 4 + s)) ml) := e_inv (as := [.ref 0, .int s]) (S := [s0, s1]) rfl rfl (Nat.le_of_ble_eq_true rfl) (rfl) (ct_X_leaveTrace )
theorem cc_X_leaveTrace_3 {M : Nat} {c : List Instr} {L : List Value} {s0 s1 s2 : Value} {s : Int32}  : ev E M (.invokevirtual 103 :: c) L (.int s :: .ref 0 :: [s0, s1, s2]) (HH mi ml) = ev E M c L [s0, s1, s2] (HH (am_up mi 0 4 (31 * mi 0 4 + s)) ml) := e_inv (as := [.ref 0, .int s]) (S := [s0, s1, s2]) rfl rfl (Nat.le_of_ble_eq_true rfl) (rfl) (ct_X_leaveTrace )
theorem ct_Line_mayRun {x a : Int32}  : ev E 24 (am_B 24 0) [.ref 1, .int x, .int a] [] (HH mi ml) = some (some (.int (if x = -1 ∨ ((0 ≤ x ∧ x ≤ mi 2 0) ∧ -400 ≤ a ∧ a ≤ 400) then 1 else 0)), HH mi ml) := by
  simp only [b_24_e, b_24_7, b_24_33, b_24_34, e_iload_1, k_m1, e_icmp_ne, k_1, e_zret0, e_zret1, e_aloadr_0, cc_Line_hasPlace_0, cc_Line_hasPlace_1, cc_Line_hasPlace_2, cc_Line_hasPlace_3, Option.toList_some, Option.toList_none, List.cons_append, List.nil_append, e_if_eq, e_iload_2, k_m400, e_icmp_lt, k_400, e_icmp_gt, e_goto, k_0, e_jsr, eq_self, bz0, bz1]
  by_cases h0 : x = -1
  · simp only [h0, not_true_eq_false, not_false_eq_true, if_true, if_false, true_or, or_true, false_or, or_false, true_and, and_true, false_and, and_false, and_self, or_self, reduceIte, Bool.false_eq_true, i10, i01]
  · by_cases h1 : 0 ≤ x ∧ x ≤ mi 2 0
    · simp only [h0, h1, not_true_eq_false, not_false_eq_true, if_true, if_false, true_or, or_true, false_or, or_false, true_and, and_true, false_and, and_false, and_self, or_self, reduceIte, Bool.false_eq_true, i10, i01, rng_le, b10]
    · simp only [h0, h1, not_true_eq_false, not_false_eq_true, if_true, if_false, true_or, or_true, false_or, or_false, true_and, and_true, false_and, and_false, and_self, or_self, reduceIte, Bool.false_eq_true, i10, i01]
theorem cc_Line_mayRun_0 {M : Nat} {c : List Instr} {L : List Value} {x a : Int32}  : ev E M (.invokevirtual 24 :: c) L (.int a :: .int x :: .ref 1 :: []) (HH mi ml) = ev E M c L (.int (if x = -1 ∨ ((0 ≤ x ∧ x ≤ mi 2 0) ∧ -400 ≤ a ∧ a ≤ 400) then 1 else 0) :: []) (HH mi ml) := e_inv (as := [.ref 1, .int x, .int a]) (S := []) rfl rfl (Nat.le_of_ble_eq_true rfl) (rfl) (ct_Line_mayRun )
theorem cc_Line_mayRun_1 {M : Nat} {c : List Instr} {L : List Value} {s0 : Value} {x a : Int32}  : ev E M (.invokevirtual 24 :: c) L (.int a :: .int x :: .ref 1 :: [s0]) (HH mi ml) = ev E M c L (.int (if x = -1 ∨ ((0 ≤ x ∧ x ≤ mi 2 0) ∧ -400 ≤ a ∧ a ≤ 400) then 1 else 0) :: [s0]) (HH mi ml) := e_inv (as := [.ref 1, .int x, .int a]) (S := [s0]) rfl rfl (Nat.le_of_ble_eq_true rfl) (rfl) (ct_Line_mayRun )
theorem cc_Line_mayRun_2 {M : Nat} {c : List Instr} {L : List Value} {s0 s1 : Value} {x a : Int32}  : ev E M (.invokevirtual 24 :: c) L (.int a :: .int x :: .ref 1 :: [s0, s1]) (HH mi ml) = ev E M c L (.int (if x = -1 ∨ ((0 ≤ x ∧ x ≤ mi 2 0) ∧ -400 ≤ a ∧ a ≤ 400) then 1 else 0) :: [s0, s1]) (HH mi ml) := e_inv (as := [.ref 1, .int x, .int a]) (S := [s0, s1]) rfl rfl (Nat.le_of_ble_eq_true rfl) (rfl) (ct_Line_mayRun )
theorem cc_Line_mayRun_3 {M : Nat} {c : List Instr} {L : List Value} {s0 s1 s2 : Value} {x a : Int32}  : ev E M (.invokevirtual 24 :: c) L (.int a :: .int x :: .ref 1 :: [s0, s1, s2]) (HH mi ml) = ev E M c L (.int (if x = -1 ∨ ((0 ≤ x ∧ x ≤ mi 2 0) ∧ -400 ≤ a ∧ a ≤ 400) then 1 else 0) :: [s0, s1, s2]) (HH mi ml) := e_inv (as := [.ref 1, .int x, .int a]) (S := [s0, s1, s2]) rfl rfl (Nat.le_of_ble_eq_true rfl) (rfl) (ct_Line_mayRun )
theorem ct_Share_become {k : Nat} {u l : Int64} (hk : am_LAY[k]? = some (.inl 4)) : ev E 58 (am_B 58 0) [.ref k, .long u, am_dm, .long l, am_dm] [] (HH mi ml) = some (none, HH mi (am_up (am_up ml k 0 u) k 1 l)) := by
  simp only [b_58_e, e_aloadr_0, e_lload_1, p_256_27, p_256_28, p_256_30, p_256_31, p_256_32, p_256_43, p_256_44, p_256_46, p_256_49, p_256_60, pS_0, e_lload_3, p_257_27, p_257_28, p_257_30, p_257_31, p_257_32, p_257_43, p_257_44, p_257_46, p_257_49, p_257_60, pS_1, e_ret, eq_self, hk]
theorem cc_Share_become_0 {M : Nat} {c : List Instr} {L : List Value} {k : Nat} {u l : Int64} (hk : am_LAY[k]? = some (.inl 4)) : ev E M (.invokevirtual 58 :: c) L (.long l :: .long u :: .ref k :: []) (HH mi ml) = ev E M c L [] (HH mi (am_up (am_up ml k 0 u) k 1 l)) := e_inv (as := [.ref k, .long u, .long l]) (S := []) rfl rfl (Nat.le_of_ble_eq_true rfl) (am_recv_of (k := 58) hk) (ct_Share_become hk)
theorem cc_Share_become_1 {M : Nat} {c : List Instr} {L : List Value} {s0 : Value} {k : Nat} {u l : Int64} (hk : am_LAY[k]? = some (.inl 4)) : ev E M (.invokevirtual 58 :: c) L (.long l :: .long u :: .ref k :: [s0]) (HH mi ml) = ev E M c L [s0] (HH mi (am_up (am_up ml k 0 u) k 1 l)) := e_inv (as := [.ref k, .long u, .long l]) (S := [s0]) rfl rfl (Nat.le_of_ble_eq_true rfl) (am_recv_of (k := 58) hk) (ct_Share_become hk)
theorem cc_Share_become_2 {M : Nat} {c : List Instr} {L : List Value} {s0 s1 : Value} {k : Nat} {u l : Int64} (hk : am_LAY[k]? = some (.inl 4)) : ev E M (.invokevirtual 58 :: c) L (.long l :: .long u :: .ref k :: [s0, s1]) (HH mi ml) = ev E M c L [s0, s1] (HH mi (am_up (am_up ml k 0 u) k 1 l)) := e_inv (as := [.ref k, .long u, .long l]) (S := [s0, s1]) rfl rfl (Nat.le_of_ble_eq_true rfl) (am_recv_of (k := 58) hk) (ct_Share_become hk)
theorem cc_Share_become_3 {M : Nat} {c : List Instr} {L : List Value} {s0 s1 s2 : Value} {k : Nat} {u l : Int64} (hk : am_LAY[k]? = some (.inl 4)) : ev E M (.invokevirtual 58 :: c) L (.long l :: .long u :: .ref k :: [s0, s1, s2]) (HH mi ml) = ev E M c L [s0, s1, s2] (HH mi (am_up (am_up ml k 0 u) k 1 l)) := e_inv (as := [.ref k, .long u, .long l]) (S := [s0, s1, s2]) rfl rfl (Nat.le_of_ble_eq_true rfl) (am_recv_of (k := 58) hk) (ct_Share_become hk)
theorem ct_Share_isBelow {k q : Nat} (hk : am_LAY[k]? = some (.inl 4)) (hq : am_LAY[q]? = some (.inl 4)) : ev E 59 (am_B 59 0) [.ref k, .ref q] [] (HH mi ml) = some (some (.int (if ml k 0 * ml q 1 < ml q 0 * ml k 1 then 1 else 0)), HH mi ml) := by
  simp only [b_59_e, b_59_26, b_59_27, e_aloadr_0, g_256_27, g_256_28, g_256_30, g_256_31, g_256_32, g_256_43, g_256_44, g_256_46, g_256_49, g_256_60, gS_0, e_aloadr_1, g_257_27, g_257_28, g_257_30, g_257_31, g_257_32, g_257_43, g_257_44, g_257_46, g_257_49, g_257_60, gS_1, e_lmul, e_lcmp, e_if_ge, k_1, e_goto, k_0, e_jsr, e_zret0, e_zret1, eq_self, hk, hq, lg_cmp_ge]
  by_cases h1 : ml q 0 * ml k 1 ≤ ml k 0 * ml q 1
  · rw [if_pos h1, if_neg (by simpa [Int64.not_lt] using h1)]
  · rw [if_neg h1, if_pos (by simpa [Int64.not_le] using h1)]
theorem cc_Share_isBelow_0 {M : Nat} {c : List Instr} {L : List Value} {k q : Nat} (hk : am_LAY[k]? = some (.inl 4)) (hq : am_LAY[q]? = some (.inl 4)) : ev E M (.invokevirtual 59 :: c) L (.ref q :: .ref k :: []) (HH mi ml) = ev E M c L (.int (if ml k 0 * ml q 1 < ml q 0 * ml k 1 then 1 else 0) :: []) (HH mi ml) := e_inv (as := [.ref k, .ref q]) (S := []) rfl rfl (Nat.le_of_ble_eq_true rfl) (am_recv_of (k := 59) hk) (ct_Share_isBelow hk hq)
theorem cc_Share_isBelow_1 {M : Nat} {c : List Instr} {L : List Value} {s0 : Value} {k q : Nat} (hk : am_LAY[k]? = some (.inl 4)) (hq : am_LAY[q]? = some (.inl 4)) : ev E M (.invokevirtual 59 :: c) L (.ref q :: .ref k :: [s0]) (HH mi ml) = ev E M c L (.int (if ml k 0 * ml q 1 < ml q 0 * ml k 1 then 1 else 0) :: [s0]) (HH mi ml) := e_inv (as := [.ref k, .ref q]) (S := [s0]) rfl rfl (Nat.le_of_ble_eq_true rfl) (am_recv_of (k := 59) hk) (ct_Share_isBelow hk hq)
theorem cc_Share_isBelow_2 {M : Nat} {c : List Instr} {L : List Value} {s0 s1 : Value} {k q : Nat} (hk : am_LAY[k]? = some (.inl 4)) (hq : am_LAY[q]? = some (.inl 4)) : ev E M (.invokevirtual 59 :: c) L (.ref q :: .ref k :: [s0, s1]) (HH mi ml) = ev E M c L (.int (if ml k 0 * ml q 1 < ml q 0 * ml k 1 then 1 else 0) :: [s0, s1]) (HH mi ml) := e_inv (as := [.ref k, .ref q]) (S := [s0, s1]) rfl rfl (Nat.le_of_ble_eq_true rfl) (am_recv_of (k := 59) hk) (ct_Share_isBelow hk hq)
theorem cc_Share_isBelow_3 {M : Nat} {c : List Instr} {L : List Value} {s0 s1 s2 : Value} {k q : Nat} (hk : am_LAY[k]? = some (.inl 4)) (hq : am_LAY[q]? = some (.inl 4)) : ev E M (.invokevirtual 59 :: c) L (.ref q :: .ref k :: [s0, s1, s2]) (HH mi ml) = ev E M c L (.int (if ml k 0 * ml q 1 < ml q 0 * ml k 1 then 1 else 0) :: [s0, s1, s2]) (HH mi ml) := e_inv (as := [.ref k, .ref q]) (S := [s0, s1, s2]) rfl rfl (Nat.le_of_ble_eq_true rfl) (am_recv_of (k := 59) hk) (ct_Share_isBelow hk hq)
theorem ct_Circuit_addLoad {n : Nat} {x a : Int32} (hn : n < 5) : ev E 44 (am_B 44 0) [.ref 34, .int (nI n), .int x, .int a] [] (HH mi ml) = some (none, HH (am_up (am_up (am_up mi 40 n 1) 41 n x) 42 n a) ml) := by
  simp only [b_44_e, e_aloadr_0, g_6_34, e_iload_1, k_1, is_37, is_40, g_7_34, e_iload_2, is_2, is_5, is_33, is_35, is_36, is_41, is_42, is_tp, is_ta, is_sc, is_po, g_8_34, e_iload_3, e_ret, eq_self, hn, or_true]
theorem cc_Circuit_addLoad_0 {M : Nat} {c : List Instr} {L : List Value} {n : Nat} {x a : Int32} (hn : n < 5) : ev E M (.invokevirtual 44 :: c) L (.int a :: .int x :: .int (nI n) :: .ref 34 :: []) (HH mi ml) = ev E M c L [] (HH (am_up (am_up (am_up mi 40 n 1) 41 n x) 42 n a) ml) := e_inv (as := [.ref 34, .int (nI n), .int x, .int a]) (S := []) rfl rfl (Nat.le_of_ble_eq_true rfl) (rfl) (ct_Circuit_addLoad hn)
theorem cc_Circuit_addLoad_1 {M : Nat} {c : List Instr} {L : List Value} {s0 : Value} {n : Nat} {x a : Int32} (hn : n < 5) : ev E M (.invokevirtual 44 :: c) L (.int a :: .int x :: .int (nI n) :: .ref 34 :: [s0]) (HH mi ml) = ev E M c L [s0] (HH (am_up (am_up (am_up mi 40 n 1) 41 n x) 42 n a) ml) := e_inv (as := [.ref 34, .int (nI n), .int x, .int a]) (S := [s0]) rfl rfl (Nat.le_of_ble_eq_true rfl) (rfl) (ct_Circuit_addLoad hn)
theorem cc_Circuit_addLoad_2 {M : Nat} {c : List Instr} {L : List Value} {s0 s1 : Value} {n : Nat} {x a : Int32} (hn : n < 5) : ev E M (.invokevirtual 44 :: c) L (.int a :: .int x :: .int (nI n) :: .ref 34 :: [s0, s1]) (HH mi ml) = ev E M c L [s0, s1] (HH (am_up (am_up (am_up mi 40 n 1) 41 n x) 42 n a) ml) := e_inv (as := [.ref 34, .int (nI n), .int x, .int a]) (S := [s0, s1]) rfl rfl (Nat.le_of_ble_eq_true rfl) (rfl) (ct_Circuit_addLoad hn)
theorem cc_Circuit_addLoad_3 {M : Nat} {c : List Instr} {L : List Value} {s0 s1 s2 : Value} {n : Nat} {x a : Int32} (hn : n < 5) : ev E M (.invokevirtual 44 :: c) L (.int a :: .int x :: .int (nI n) :: .ref 34 :: [s0, s1, s2]) (HH mi ml) = ev E M c L [s0, s1, s2] (HH (am_up (am_up (am_up mi 40 n 1) 41 n x) 42 n a) ml) := e_inv (as := [.ref 34, .int (nI n), .int x, .int a]) (S := [s0, s1, s2]) rfl rfl (Nat.le_of_ble_eq_true rfl) (rfl) (ct_Circuit_addLoad hn)
theorem ct_Train_beAt {d t : Nat} {x a : Int32} (hd : d < 5) (ht : t < 24) : ev E 25 (am_B 25 0) [.ref (11 + 3 * d), .int (nI t), .int x, .int a] [] (HH mi ml) = some (none, HH (am_up (am_up mi (12 + 3 * d) t x) (13 + 3 * d) t a) ml) := by
  simp only [b_25_e, e_aloadr_0, g_448_11, g_448_14, g_448_17, g_448_20, g_448_23, gs_f448, e_iload_1, e_iload_2, is_2, is_5, is_33, is_35, is_36, is_41, is_42, is_tp, is_ta, is_sc, is_po, g_449_11, g_449_14, g_449_17, g_449_20, g_449_23, gs_f449, e_iload_3, e_ret, eq_self, hd, ht]
theorem cc_Train_beAt_0 {M : Nat} {c : List Instr} {L : List Value} {d t : Nat} {x a : Int32} (hd : d < 5) (ht : t < 24) : ev E M (.invokevirtual 25 :: c) L (.int a :: .int x :: .int (nI t) :: .ref (11 + 3 * d) :: []) (HH mi ml) = ev E M c L [] (HH (am_up (am_up mi (12 + 3 * d) t x) (13 + 3 * d) t a) ml) := e_inv (as := [.ref (11 + 3 * d), .int (nI t), .int x, .int a]) (S := []) rfl rfl (Nat.le_of_ble_eq_true rfl) (am_recv_of (k := 25) (lay_tr hd)) (ct_Train_beAt hd ht)
theorem cc_Train_beAt_1 {M : Nat} {c : List Instr} {L : List Value} {s0 : Value} {d t : Nat} {x a : Int32} (hd : d < 5) (ht : t < 24) : ev E M (.invokevirtual 25 :: c) L (.int a :: .int x :: .int (nI t) :: .ref (11 + 3 * d) :: [s0]) (HH mi ml) = ev E M c L [s0] (HH (am_up (am_up mi (12 + 3 * d) t x) (13 + 3 * d) t a) ml) := e_inv (as := [.ref (11 + 3 * d), .int (nI t), .int x, .int a]) (S := [s0]) rfl rfl (Nat.le_of_ble_eq_true rfl) (am_recv_of (k := 25) (lay_tr hd)) (ct_Train_beAt hd ht)
theorem cc_Train_beAt_2 {M : Nat} {c : List Instr} {L : List Value} {s0 s1 : Value} {d t : Nat} {x a : Int32} (hd : d < 5) (ht : t < 24) : ev E M (.invokevirtual 25 :: c) L (.int a :: .int x :: .int (nI t) :: .ref (11 + 3 * d) :: [s0, s1]) (HH mi ml) = ev E M c L [s0, s1] (HH (am_up (am_up mi (12 + 3 * d) t x) (13 + 3 * d) t a) ml) := e_inv (as := [.ref (11 + 3 * d), .int (nI t), .int x, .int a]) (S := [s0, s1]) rfl rfl (Nat.le_of_ble_eq_true rfl) (am_recv_of (k := 25) (lay_tr hd)) (ct_Train_beAt hd ht)
theorem cc_Train_beAt_3 {M : Nat} {c : List Instr} {L : List Value} {s0 s1 s2 : Value} {d t : Nat} {x a : Int32} (hd : d < 5) (ht : t < 24) : ev E M (.invokevirtual 25 :: c) L (.int a :: .int x :: .int (nI t) :: .ref (11 + 3 * d) :: [s0, s1, s2]) (HH mi ml) = ev E M c L [s0, s1, s2] (HH (am_up (am_up mi (12 + 3 * d) t x) (13 + 3 * d) t a) ml) := e_inv (as := [.ref (11 + 3 * d), .int (nI t), .int x, .int a]) (S := [s0, s1, s2]) rfl rfl (Nat.le_of_ble_eq_true rfl) (am_recv_of (k := 25) (lay_tr hd)) (ct_Train_beAt hd ht)
end Cl
end
section
/-! LOOPS OF THE CIRCUIT -/
/-- a loop that goes through -/
theorem loop_up {β : Type} (G : Nat → β) (a n : Nat) (h : ∀ i, a ≤ i → i < n → G i = G (i + 1)) (hn : a ≤ n) : G a = G n := by
  obtain ⟨k, rfl⟩ : ∃ k, n = a + k := ⟨n - a, by omega⟩
  clear hn
  induction k with
  | zero => rfl
  | succ k ih =>
    rw [ih (fun i h1 h2 => h i h1 (by omega))]
    exact h (a + k) (by omega) (by omega)
/-- a loop that ends at the first i with c i -/
theorem loop_if {β : Type} (G : Nat → β) (c : Nat → Prop) [DecidablePred c] (r : Nat → β) (n : Nat) (h : ∀ i, i < n → G i = if c i then r i else G (i + 1)) : ∀ a, a ≤ n → (∃ i, a ≤ i ∧ i < n ∧ c i ∧ (∀ j, a ≤ j → j < i → ¬ c j) ∧ G a = r i) ∨ ((∀ j, a ≤ j → j < n → ¬ c j) ∧ G a = G n) := by
  intro a ha
  obtain ⟨k, rfl⟩ : ∃ k, n = a + k := ⟨n - a, by omega⟩
  clear ha
  induction k generalizing a with
  | zero => exact Or.inr ⟨fun j h1 h2 => by omega, rfl⟩
  | succ k ih =>
    by_cases hc : c a
    · exact Or.inl ⟨a, Nat.le_refl _, by omega, hc, fun j h1 h2 => by omega, by rw [h a (by omega), if_pos hc]⟩
    · have e : G a = G (a + 1) := by rw [h a (by omega), if_neg hc]
      have e2 : a + (k + 1) = a + 1 + k := by omega
      rw [e2] at h ⊢
      rcases ih (a + 1) h with ⟨i, h1, h2, h3, h4, h5⟩ | ⟨h1, h2⟩
      · refine Or.inl ⟨i, by omega, h2, h3, fun j g1 g2 => ?_, e.trans h5⟩
        by_cases hj : j = a
        · subst hj; exact hc
        · exact h4 j (by omega) g2
      · refine Or.inr ⟨fun j g1 g2 => ?_, e.trans h2⟩
        by_cases hj : j = a
        · subst hj; exact hc
        · exact h1 j (by omega) g2
theorem hd {E : aE} {M : Nat} {c c' : List Instr} {L S : List Value} {h : aH} {r : Option aR} (hb : c = c') (k : ev E M c' L S h = r) : ev E M c L S h = r := hb ▸ k
theorem am_upa {α : Type} {f : Nat → Nat → α} {k i a b : Nat} {v : α} : am_up f k i v a b = if a = k ∧ b = i then v else f a b := by
  unfold am_up
  by_cases h1 : a = k <;> by_cases h2 : b = i <;> simp [h1, h2]
theorem le_nI {a b : Nat} (ha : a < 2 ^ 31) (hb : b < 2 ^ 31) : nI a ≤ nI b ↔ a ≤ b := nI_leI ha hb
theorem le5 {i : Nat} (h : i < 5) : ((5 : Int32) ≤ nI i) = False := by
  have : ¬ nI 5 ≤ nI i := fun q => by have := (nI_leI (by decide) (by omega)).mp q; omega
  exact eq_false this
theorem le55 : ((5 : Int32) ≤ nI 5) = True := by decide +kernel
theorem le24 {i : Nat} (h : i < 24) : ((24 : Int32) ≤ nI i) = False := by
  have : ¬ nI 24 ≤ nI i := fun q => by have := (nI_leI (by decide) (by omega)).mp q; omega
  exact eq_false this
theorem le2424 : ((24 : Int32) ≤ nI 24) = True := by decide +kernel
theorem lec {i m : Nat} (hm : m < 1000) (h : i < m) : (nI m ≤ nI i) = False := eq_false (fun q => by have := (nI_leI (by omega) (by omega)).mp q; omega)
theorem lecc {m : Nat} : (nI m ≤ nI m) = True := eq_true (Int32.le_refl _)
theorem k0nI : (0 : Int32) = nI 0 := rfl
def sumI (f : Nat → Int) : Nat → Int
  | 0 => 0
  | n + 1 => sumI f n + f n
section Cl2
variable {E : aE} {mi : Nat → Nat → Int32} {ml : Nat → Nat → Int64}
def clr2 (mi : Nat → Nat → Int32) (n : Nat) : Nat → Nat → Int32 := fun a b => if (a = 40 ∨ a = 42) ∧ b < n then 0 else mi a b
theorem ct_Circuit_clearLoads   : ev E 43 (am_B 43 0) [.ref 34, am_dm] [] (HH mi ml) = some (none, HH (clr2 mi 5) ml) := by
  simp only [b_43_e, b_43_27, k_0, e_istore_1, e_kpi, e_kpr, e_kpl, e_kpd, e_jsr, e_iload_1, k_5, e_icmp_ge, e_aloadr_0, g_6_34, is_37, is_40, g_8_34, is_2, is_5, is_33, is_35, is_36, is_41, is_42, is_tp, is_ta, is_sc, is_po, e_iinc_1, e_goto, e_ret, eq_self]
  have hl := loop_up (fun i => ev E 43 (am_B 43 (Int.toNat 2)) [.ref 34, .int (nI i)] [] (HH (clr2 mi i) ml)) 0 5 (fun i _ hi => by
    refine hd b_43_2 ?_
    simp only [b_43_e, b_43_27, k_0, e_istore_1, e_kpi, e_kpr, e_kpl, e_kpd, e_jsr, e_iload_1, k_5, e_icmp_ge, e_aloadr_0, g_6_34, is_37, is_40, g_8_34, is_2, is_5, is_33, is_35, is_36, is_41, is_42, is_tp, is_ta, is_sc, is_po, e_iinc_1, e_goto, e_ret, eq_self, hi, le5 hi, not_true_eq_false, not_false_eq_true, if_true, if_false, true_or, or_true, false_or, or_false, true_and, and_true, false_and, and_false, and_self, or_self, reduceIte, Bool.false_eq_true, i10, i01, e_inc1]
    congr 2
    funext a b
    simp only [am_upa, clr2]
    repeat' split
    all_goals first | rfl | omega) (by decide)
  have h0 : clr2 mi 0 = mi := by funext a b; simp [clr2]
  rw [h0] at hl
  rw [k0nI, hl]
  simp only [b_43_2, b_43_e, b_43_27, k_0, e_istore_1, e_kpi, e_kpr, e_kpl, e_kpd, e_jsr, e_iload_1, k_5, e_icmp_ge, e_aloadr_0, g_6_34, is_37, is_40, g_8_34, is_2, is_5, is_33, is_35, is_36, is_41, is_42, is_tp, is_ta, is_sc, is_po, e_iinc_1, e_goto, e_ret, eq_self, le55, not_true_eq_false, not_false_eq_true, if_true, if_false, true_or, or_true, false_or, or_false, true_and, and_true, false_and, and_false, and_self, or_self, reduceIte, Bool.false_eq_true, i10, i01]
theorem cc_Circuit_clearLoads_0 {M : Nat} {c : List Instr} {L : List Value}   : ev E M (.invokevirtual 43 :: c) L (.ref 34 :: []) (HH mi ml) = ev E M c L [] (HH (clr2 mi 5) ml) := e_inv (as := [.ref 34]) (S := []) rfl rfl (Nat.le_of_ble_eq_true rfl) (rfl) (ct_Circuit_clearLoads )
theorem cc_Circuit_clearLoads_1 {M : Nat} {c : List Instr} {L : List Value} {s0 : Value}   : ev E M (.invokevirtual 43 :: c) L (.ref 34 :: [s0]) (HH mi ml) = ev E M c L [s0] (HH (clr2 mi 5) ml) := e_inv (as := [.ref 34]) (S := [s0]) rfl rfl (Nat.le_of_ble_eq_true rfl) (rfl) (ct_Circuit_clearLoads )
theorem cc_Circuit_clearLoads_2 {M : Nat} {c : List Instr} {L : List Value} {s0 s1 : Value}   : ev E M (.invokevirtual 43 :: c) L (.ref 34 :: [s0, s1]) (HH mi ml) = ev E M c L [s0, s1] (HH (clr2 mi 5) ml) := e_inv (as := [.ref 34]) (S := [s0, s1]) rfl rfl (Nat.le_of_ble_eq_true rfl) (rfl) (ct_Circuit_clearLoads )
theorem cc_Circuit_clearLoads_3 {M : Nat} {c : List Instr} {L : List Value} {s0 s1 s2 : Value}   : ev E M (.invokevirtual 43 :: c) L (.ref 34 :: [s0, s1, s2]) (HH mi ml) = ev E M c L [s0, s1, s2] (HH (clr2 mi 5) ml) := e_inv (as := [.ref 34]) (S := [s0, s1, s2]) rfl rfl (Nat.le_of_ble_eq_true rfl) (rfl) (ct_Circuit_clearLoads )
theorem ct_Circuit_pulledTogether   : ev E 47 (am_B 47 0) [.ref 34, am_dm, am_dm, am_dm] [] (HH mi ml) = some (some (.long (Int64.ofInt (sumI (fun n => (mi 42 n).toInt) 5))), HH mi ml) := by
  simp only [b_47_e, b_47_25, kl_0, e_lstore_1, e_kpi, e_kpr, e_kpl, e_kpd, k_0, e_istore_3, e_jsr, e_iload_3, k_5, e_icmp_ge, e_lload_1, e_aloadr_0, g_8_34, il_2, il_5, il_33, il_35, il_36, il_41, il_42, il_tp, il_ta, il_sc, il_po, ik_2_0, ik_2_1, ik_2_2, ik_2_3, ik_2_4, e_i2l, e_ladd, e_iinc_3, e_goto, e_lret, eq_self]
  have hl := loop_up (fun i => ev E 47 (am_B 47 (Int.toNat 4)) [.ref 34, .long (Int64.ofInt (sumI (fun n => (mi 42 n).toInt) i)), am_dm, .int (nI i)] [] (HH mi ml)) 0 5 (fun i _ hi => by
    refine hd b_47_4 ?_
    simp only [b_47_e, b_47_25, kl_0, e_lstore_1, e_kpi, e_kpr, e_kpl, e_kpd, k_0, e_istore_3, e_jsr, e_iload_3, k_5, e_icmp_ge, e_lload_1, e_aloadr_0, g_8_34, il_2, il_5, il_33, il_35, il_36, il_41, il_42, il_tp, il_ta, il_sc, il_po, ik_2_0, ik_2_1, ik_2_2, ik_2_3, ik_2_4, e_i2l, e_ladd, e_iinc_3, e_goto, e_lret, eq_self, hi, le5 hi, not_true_eq_false, not_false_eq_true, if_true, if_false, true_or, or_true, false_or, or_false, true_and, and_true, false_and, and_false, and_self, or_self, reduceIte, Bool.false_eq_true, i10, i01, e_inc1, i64_of, sumI, Int64.ofInt_add]) (by decide)
  rw [k0nI, show (0 : Int64) = Int64.ofInt (sumI (fun n => (mi 42 n).toInt) 0) from rfl, hl]
  simp only [b_47_4, b_47_e, b_47_25, kl_0, e_lstore_1, e_kpi, e_kpr, e_kpl, e_kpd, k_0, e_istore_3, e_jsr, e_iload_3, k_5, e_icmp_ge, e_lload_1, e_aloadr_0, g_8_34, il_2, il_5, il_33, il_35, il_36, il_41, il_42, il_tp, il_ta, il_sc, il_po, ik_2_0, ik_2_1, ik_2_2, ik_2_3, ik_2_4, e_i2l, e_ladd, e_iinc_3, e_goto, e_lret, eq_self, le55, not_true_eq_false, not_false_eq_true, if_true, if_false, true_or, or_true, false_or, or_false, true_and, and_true, false_and, and_false, and_self, or_self, reduceIte, Bool.false_eq_true, i10, i01]
theorem cc_Circuit_pulledTogether_0 {M : Nat} {c : List Instr} {L : List Value}   : ev E M (.invokevirtual 47 :: c) L (.ref 34 :: []) (HH mi ml) = ev E M c L (.long (Int64.ofInt (sumI (fun n => (mi 42 n).toInt) 5)) :: []) (HH mi ml) := e_inv (as := [.ref 34]) (S := []) rfl rfl (Nat.le_of_ble_eq_true rfl) (rfl) (ct_Circuit_pulledTogether )
theorem cc_Circuit_pulledTogether_1 {M : Nat} {c : List Instr} {L : List Value} {s0 : Value}   : ev E M (.invokevirtual 47 :: c) L (.ref 34 :: [s0]) (HH mi ml) = ev E M c L (.long (Int64.ofInt (sumI (fun n => (mi 42 n).toInt) 5)) :: [s0]) (HH mi ml) := e_inv (as := [.ref 34]) (S := [s0]) rfl rfl (Nat.le_of_ble_eq_true rfl) (rfl) (ct_Circuit_pulledTogether )
theorem cc_Circuit_pulledTogether_2 {M : Nat} {c : List Instr} {L : List Value} {s0 s1 : Value}   : ev E M (.invokevirtual 47 :: c) L (.ref 34 :: [s0, s1]) (HH mi ml) = ev E M c L (.long (Int64.ofInt (sumI (fun n => (mi 42 n).toInt) 5)) :: [s0, s1]) (HH mi ml) := e_inv (as := [.ref 34]) (S := [s0, s1]) rfl rfl (Nat.le_of_ble_eq_true rfl) (rfl) (ct_Circuit_pulledTogether )
theorem cc_Circuit_pulledTogether_3 {M : Nat} {c : List Instr} {L : List Value} {s0 s1 s2 : Value}   : ev E M (.invokevirtual 47 :: c) L (.ref 34 :: [s0, s1, s2]) (HH mi ml) = ev E M c L (.long (Int64.ofInt (sumI (fun n => (mi 42 n).toInt) 5)) :: [s0, s1, s2]) (HH mi ml) := e_inv (as := [.ref 34]) (S := [s0, s1, s2]) rfl rfl (Nat.le_of_ble_eq_true rfl) (rfl) (ct_Circuit_pulledTogether )
end Cl2
end
section
/-! SUMS OVER LOADS -/
theorem loop_upj {β γ : Type} (G : Nat → γ → β) (a n : Nat) (h : ∀ i v, a ≤ i → i < n → ∃ v', G i v = G (i + 1) v') (hn : a ≤ n) (v : γ) : ∃ v', G a v = G n v' := by
  obtain ⟨k, rfl⟩ : ∃ k, n = a + k := ⟨n - a, by omega⟩
  clear hn
  induction k with
  | zero => exact ⟨v, rfl⟩
  | succ k ih =>
    obtain ⟨v1, h1⟩ := ih (fun i v h1 h2 => h i v h1 (by omega))
    obtain ⟨v2, h2⟩ := h (a + k) v1 (by omega) (by omega)
    exact ⟨v2, h1.trans h2⟩
def bd (z : Int32) : Prop := 0 ≤ z.toInt ∧ z.toInt ≤ 200
theorem i32sub {x y : Int32} (hx : bd x) (hy : bd y) : (x - y).toInt = x.toInt - y.toInt := by
  unfold bd at hx hy
  rw [Int32.toInt_sub]
  exact Int.bmod_eq_of_le (by omega) (by omega)
theorem i32min {x y : Int32} : (if y < x then y else x).toInt = min x.toInt y.toInt := by
  simp only [Int32.lt_iff_toInt_lt]
  split <;> omega
theorem i32max {x y : Int32} : (if x < y then y else x).toInt = max x.toInt y.toInt := by
  simp only [Int32.lt_iff_toInt_lt]
  split <;> omega
theorem bdmin {x y : Int32} (hx : bd x) (hy : bd y) : bd (if y < x then y else x) := by split <;> assumption
theorem bdmax {x y : Int32} (hx : bd x) (hy : bd y) : bd (if x < y then y else x) := by split <;> assumption
theorem i32abs {z : Int32} (h : -1000 ≤ z.toInt ∧ z.toInt ≤ 1000) : (if 0 ≤ z then z else 0 - z).toInt = max z.toInt (-z.toInt) := by
  have h0 : (0 : Int32).toInt = 0 := rfl
  by_cases hz : 0 ≤ z
  · rw [if_pos hz]
    rw [Int32.le_iff_toInt_le, h0] at hz
    omega
  · rw [if_neg hz, Int32.toInt_sub, h0]
    rw [Int32.le_iff_toInt_le, h0] at hz
    rw [Int.bmod_eq_of_le (by omega) (by omega)]
    omega
def tmB (th : Bool) (y A a b x : Int) : Int := if th = true ∧ a < y ∧ y < b then A * (min x y - a) * (b - max x y) else 0
def tmY (th : Bool) (y A a x : Int) : Int := if th = true ∧ (a < y ↔ a < x) then A * min (max (x - a) (a - x)) (max (y - a) (a - y)) else 0
/-- the loads of the circuit's cells -/
def cTh (mi : Nat → Nat → Int32) (n : Nat) : Bool := decide (¬ mi 40 n = 0)
def cY (mi : Nat → Nat → Int32) (n : Nat) : Int := (mi 41 n).toInt
def cA (mi : Nat → Nat → Int32) (n : Nat) : Int := (mi 42 n).toInt
section Cl3
variable {E : aE} {mi : Nat → Nat → Int32} {ml : Nat → Nat → Int64}
theorem ct_Circuit_lostBetween {a b x : Int32} (ha : bd a) (hb : bd b) (hx : bd x) (hy : ∀ n, n < 5 → cTh mi n = true → bd (mi 41 n)) : ev E 56 (am_B 56 0) [.ref 34, .int a, .int b, .int x, am_dm, am_dm, am_dm, am_dm] [] (HH mi ml) = some (some (.long (Int64.ofInt (sumI (fun n => tmB (cTh mi n) (cY mi n) (cA mi n) a.toInt b.toInt x.toInt) 5))), HH mi ml) := by
  simp only [b_56_e, b_56_76, b_56_82, kl_0, e_lstore_4, e_kpi, e_kpr, e_kpl, e_kpd, k_0, e_istore_6, e_jsr, e_iload_6, k_5, e_icmp_ge, e_aloadr_0, g_7_34, il_2, il_5, il_33, il_35, il_36, il_41, il_42, il_tp, il_ta, il_sc, il_po, ik_2_0, ik_2_1, ik_2_2, ik_2_3, ik_2_4, e_istore_7, g_6_34, il_37, il_40, e_if_eq, e_iload_7, e_iload_1, e_icmp_le, e_iload_2, e_lload_4, g_8_34, e_i2l, e_iload_3, e_fsub_0, e_fsub_1, e_fsub_2, e_fsub_3, e_fsub_4, e_isub, e_lmul, e_fadd_0, e_fadd_1, e_fadd_2, e_fadd_3, e_fadd_4, e_ladd, e_iinc_6, e_goto, e_lret, eq_self]
  obtain ⟨v', hl⟩ := loop_upj (fun i v => ev E 56 (am_B 56 (Int.toNat 6)) [.ref 34, .int a, .int b, .int x, .long (Int64.ofInt (sumI (fun n => tmB (cTh mi n) (cY mi n) (cA mi n) a.toInt b.toInt x.toInt) i)), am_dm, .int (nI i), v] [] (HH mi ml)) 0 5 (fun i v _ hi => by
    refine ⟨.int (mi 41 i), hd b_56_6 ?_⟩
    simp only [b_56_e, b_56_76, b_56_82, kl_0, e_lstore_4, e_kpi, e_kpr, e_kpl, e_kpd, k_0, e_istore_6, e_jsr, e_iload_6, k_5, e_icmp_ge, e_aloadr_0, g_7_34, il_2, il_5, il_33, il_35, il_36, il_41, il_42, il_tp, il_ta, il_sc, il_po, ik_2_0, ik_2_1, ik_2_2, ik_2_3, ik_2_4, e_istore_7, g_6_34, il_37, il_40, e_if_eq, e_iload_7, e_iload_1, e_icmp_le, e_iload_2, e_lload_4, g_8_34, e_i2l, e_iload_3, e_fsub_0, e_fsub_1, e_fsub_2, e_fsub_3, e_fsub_4, e_isub, e_lmul, e_fadd_0, e_fadd_1, e_fadd_2, e_fadd_3, e_fadd_4, e_ladd, e_iinc_6, e_goto, e_lret, eq_self, hi, le5 hi, not_true_eq_false, not_false_eq_true, if_true, if_false, true_or, or_true, false_or, or_false, true_and, and_true, false_and, and_false, and_self, or_self, reduceIte, Bool.false_eq_true, i10, i01]
    have hs : sumI (fun n => tmB (cTh mi n) (cY mi n) (cA mi n) a.toInt b.toInt x.toInt) (i + 1) = sumI (fun n => tmB (cTh mi n) (cY mi n) (cA mi n) a.toInt b.toInt x.toInt) i + tmB (cTh mi i) (cY mi i) (cA mi i) a.toInt b.toInt x.toInt := rfl
    rw [hs]
    generalize sumI (fun n => tmB (cTh mi n) (cY mi n) (cA mi n) a.toInt b.toInt x.toInt) i = s0
    by_cases h1 : mi 40 i = 0
    · have ht : tmB (cTh mi i) (cY mi i) (cA mi i) a.toInt b.toInt x.toInt = 0 := by simp [tmB, cTh, h1]
      simp only [h1, not_true_eq_false, not_false_eq_true, if_true, if_false, true_or, or_true, false_or, or_false, true_and, and_true, false_and, and_false, and_self, or_self, reduceIte, Bool.false_eq_true, i10, i01, e_inc1, ht, Int.add_zero]
    · by_cases h2 : mi 41 i ≤ a
      · have ht : tmB (cTh mi i) (cY mi i) (cA mi i) a.toInt b.toInt x.toInt = 0 := by
          rw [Int32.le_iff_toInt_le] at h2
          unfold tmB cY
          rw [if_neg (by omega)]
        simp only [h1, h2, not_true_eq_false, not_false_eq_true, if_true, if_false, true_or, or_true, false_or, or_false, true_and, and_true, false_and, and_false, and_self, or_self, reduceIte, Bool.false_eq_true, i10, i01, e_inc1, ht, Int.add_zero]
      · by_cases h3 : b ≤ mi 41 i
        · have ht : tmB (cTh mi i) (cY mi i) (cA mi i) a.toInt b.toInt x.toInt = 0 := by
            rw [Int32.le_iff_toInt_le] at h3
            unfold tmB cY
            rw [if_neg (by omega)]
          simp only [h1, h2, h3, not_true_eq_false, not_false_eq_true, if_true, if_false, true_or, or_true, false_or, or_false, true_and, and_true, false_and, and_false, and_self, or_self, reduceIte, Bool.false_eq_true, i10, i01, e_inc1, ht, Int.add_zero]
        · have hc : cTh mi i = true := by simp [cTh, h1]
          have hyi := hy i hi hc
          have ht : tmB (cTh mi i) (cY mi i) (cA mi i) a.toInt b.toInt x.toInt = (mi 42 i).toInt * (min x.toInt (mi 41 i).toInt - a.toInt) * (b.toInt - max x.toInt (mi 41 i).toInt) := by
            rw [Int32.le_iff_toInt_le] at h2 h3
            unfold tmB cY cA
            rw [if_pos ⟨hc, by omega, by omega⟩]
          simp only [h1, h2, h3, not_true_eq_false, not_false_eq_true, if_true, if_false, true_or, or_true, false_or, or_false, true_and, and_true, false_and, and_false, and_self, or_self, reduceIte, Bool.false_eq_true, i10, i01, e_inc1, ht, Int64.ofInt_add, Int64.ofInt_mul, i64_of, i32sub (bdmin hx hyi) ha, i32sub hb (bdmax hx hyi), i32min, i32max]) (by decide) am_dm
  rw [k0nI, show (0 : Int64) = Int64.ofInt (sumI (fun n => tmB (cTh mi n) (cY mi n) (cA mi n) a.toInt b.toInt x.toInt) 0) from rfl, hl]
  simp only [b_56_6, b_56_e, b_56_76, b_56_82, kl_0, e_lstore_4, e_kpi, e_kpr, e_kpl, e_kpd, k_0, e_istore_6, e_jsr, e_iload_6, k_5, e_icmp_ge, e_aloadr_0, g_7_34, il_2, il_5, il_33, il_35, il_36, il_41, il_42, il_tp, il_ta, il_sc, il_po, ik_2_0, ik_2_1, ik_2_2, ik_2_3, ik_2_4, e_istore_7, g_6_34, il_37, il_40, e_if_eq, e_iload_7, e_iload_1, e_icmp_le, e_iload_2, e_lload_4, g_8_34, e_i2l, e_iload_3, e_fsub_0, e_fsub_1, e_fsub_2, e_fsub_3, e_fsub_4, e_isub, e_lmul, e_fadd_0, e_fadd_1, e_fadd_2, e_fadd_3, e_fadd_4, e_ladd, e_iinc_6, e_goto, e_lret, eq_self, le55, not_true_eq_false, not_false_eq_true, if_true, if_false, true_or, or_true, false_or, or_false, true_and, and_true, false_and, and_false, and_self, or_self, reduceIte, Bool.false_eq_true, i10, i01]
theorem cc_Circuit_lostBetween_0 {M : Nat} {c : List Instr} {L : List Value} {a b x : Int32} (ha : bd a) (hb : bd b) (hx : bd x) (hy : ∀ n, n < 5 → cTh mi n = true → bd (mi 41 n)) : ev E M (.invokevirtual 56 :: c) L (.int x :: .int b :: .int a :: .ref 34 :: []) (HH mi ml) = ev E M c L (.long (Int64.ofInt (sumI (fun n => tmB (cTh mi n) (cY mi n) (cA mi n) a.toInt b.toInt x.toInt) 5)) :: []) (HH mi ml) := e_inv (as := [.ref 34, .int a, .int b, .int x]) (S := []) rfl rfl (Nat.le_of_ble_eq_true rfl) (rfl) (ct_Circuit_lostBetween ha hb hx hy)
theorem cc_Circuit_lostBetween_1 {M : Nat} {c : List Instr} {L : List Value} {s0 : Value} {a b x : Int32} (ha : bd a) (hb : bd b) (hx : bd x) (hy : ∀ n, n < 5 → cTh mi n = true → bd (mi 41 n)) : ev E M (.invokevirtual 56 :: c) L (.int x :: .int b :: .int a :: .ref 34 :: [s0]) (HH mi ml) = ev E M c L (.long (Int64.ofInt (sumI (fun n => tmB (cTh mi n) (cY mi n) (cA mi n) a.toInt b.toInt x.toInt) 5)) :: [s0]) (HH mi ml) := e_inv (as := [.ref 34, .int a, .int b, .int x]) (S := [s0]) rfl rfl (Nat.le_of_ble_eq_true rfl) (rfl) (ct_Circuit_lostBetween ha hb hx hy)
theorem cc_Circuit_lostBetween_2 {M : Nat} {c : List Instr} {L : List Value} {s0 s1 : Value} {a b x : Int32} (ha : bd a) (hb : bd b) (hx : bd x) (hy : ∀ n, n < 5 → cTh mi n = true → bd (mi 41 n)) : ev E M (.invokevirtual 56 :: c) L (.int x :: .int b :: .int a :: .ref 34 :: [s0, s1]) (HH mi ml) = ev E M c L (.long (Int64.ofInt (sumI (fun n => tmB (cTh mi n) (cY mi n) (cA mi n) a.toInt b.toInt x.toInt) 5)) :: [s0, s1]) (HH mi ml) := e_inv (as := [.ref 34, .int a, .int b, .int x]) (S := [s0, s1]) rfl rfl (Nat.le_of_ble_eq_true rfl) (rfl) (ct_Circuit_lostBetween ha hb hx hy)
theorem cc_Circuit_lostBetween_3 {M : Nat} {c : List Instr} {L : List Value} {s0 s1 s2 : Value} {a b x : Int32} (ha : bd a) (hb : bd b) (hx : bd x) (hy : ∀ n, n < 5 → cTh mi n = true → bd (mi 41 n)) : ev E M (.invokevirtual 56 :: c) L (.int x :: .int b :: .int a :: .ref 34 :: [s0, s1, s2]) (HH mi ml) = ev E M c L (.long (Int64.ofInt (sumI (fun n => tmB (cTh mi n) (cY mi n) (cA mi n) a.toInt b.toInt x.toInt) 5)) :: [s0, s1, s2]) (HH mi ml) := e_inv (as := [.ref 34, .int a, .int b, .int x]) (S := [s0, s1, s2]) rfl rfl (Nat.le_of_ble_eq_true rfl) (rfl) (ct_Circuit_lostBetween ha hb hx hy)
theorem ct_Circuit_lostBeyond {a x : Int32} (ha : bd a) (hx : bd x) (hy : ∀ n, n < 5 → cTh mi n = true → bd (mi 41 n)) : ev E 57 (am_B 57 0) [.ref 34, .int a, .int x, am_dm, am_dm, am_dm, am_dm] [] (HH mi ml) = some (some (.long (Int64.ofInt (sumI (fun n => tmY (cTh mi n) (cY mi n) (cA mi n) a.toInt x.toInt) 5))), HH mi ml) := by
  simp only [b_57_e, b_57_40, b_57_41, b_57_50, b_57_51, b_57_83, b_57_89, kl_0, e_lstore_3, e_kpi, e_kpr, e_kpl, e_kpd, k_0, e_istore_5, e_jsr, e_iload_5, k_5, e_icmp_ge, e_aloadr_0, g_7_34, il_2, il_5, il_33, il_35, il_36, il_41, il_42, il_tp, il_ta, il_sc, il_po, ik_2_0, ik_2_1, ik_2_2, ik_2_3, ik_2_4, e_istore_6, g_6_34, il_37, il_40, e_if_eq, e_iload_6, e_iload_1, e_icmp_le, k_1, e_goto, e_iload_2, e_icmp_ne, e_lload_3, g_8_34, e_i2l, e_isub, e_fmul_0, e_fmul_1, e_fmul_2, e_fmul_3, e_fmul_4, e_fsub_0, e_fsub_1, e_fsub_2, e_fsub_3, e_fsub_4, e_lmul, e_ladd, e_iinc_5, e_lret, eq_self]
  obtain ⟨v', hl⟩ := loop_upj (fun i v => ev E 57 (am_B 57 (Int.toNat 5)) [.ref 34, .int a, .int x, .long (Int64.ofInt (sumI (fun n => tmY (cTh mi n) (cY mi n) (cA mi n) a.toInt x.toInt) i)), am_dm, .int (nI i), v] [] (HH mi ml)) 0 5 (fun i v _ hi => by
    refine ⟨.int (mi 41 i), hd b_57_5 ?_⟩
    simp only [b_57_e, b_57_40, b_57_41, b_57_50, b_57_51, b_57_83, b_57_89, kl_0, e_lstore_3, e_kpi, e_kpr, e_kpl, e_kpd, k_0, e_istore_5, e_jsr, e_iload_5, k_5, e_icmp_ge, e_aloadr_0, g_7_34, il_2, il_5, il_33, il_35, il_36, il_41, il_42, il_tp, il_ta, il_sc, il_po, ik_2_0, ik_2_1, ik_2_2, ik_2_3, ik_2_4, e_istore_6, g_6_34, il_37, il_40, e_if_eq, e_iload_6, e_iload_1, e_icmp_le, k_1, e_goto, e_iload_2, e_icmp_ne, e_lload_3, g_8_34, e_i2l, e_isub, e_fmul_0, e_fmul_1, e_fmul_2, e_fmul_3, e_fmul_4, e_fsub_0, e_fsub_1, e_fsub_2, e_fsub_3, e_fsub_4, e_lmul, e_ladd, e_iinc_5, e_lret, eq_self, hi, le5 hi, not_true_eq_false, not_false_eq_true, if_true, if_false, true_or, or_true, false_or, or_false, true_and, and_true, false_and, and_false, and_self, or_self, reduceIte, Bool.false_eq_true, i10, i01]
    have hs : sumI (fun n => tmY (cTh mi n) (cY mi n) (cA mi n) a.toInt x.toInt) (i + 1) = sumI (fun n => tmY (cTh mi n) (cY mi n) (cA mi n) a.toInt x.toInt) i + tmY (cTh mi i) (cY mi i) (cA mi i) a.toInt x.toInt := rfl
    rw [hs]
    generalize sumI (fun n => tmY (cTh mi n) (cY mi n) (cA mi n) a.toInt x.toInt) i = s0
    by_cases h1 : mi 40 i = 0
    · have ht : tmY (cTh mi i) (cY mi i) (cA mi i) a.toInt x.toInt = 0 := by simp [tmY, cTh, h1]
      simp only [h1, not_true_eq_false, not_false_eq_true, if_true, if_false, true_or, or_true, false_or, or_false, true_and, and_true, false_and, and_false, and_self, or_self, reduceIte, Bool.false_eq_true, i10, i01, e_inc1, ht, Int.add_zero]
    · have hc : cTh mi i = true := by simp [cTh, h1]
      have hyi := hy i hi hc
      have hxa : -1000 ≤ (x - a).toInt ∧ (x - a).toInt ≤ 1000 := by rw [i32sub hx ha]; unfold bd at hx ha; omega
      have hya : -1000 ≤ (mi 41 i - a).toInt ∧ (mi 41 i - a).toInt ≤ 1000 := by rw [i32sub hyi ha]; unfold bd at hyi ha; omega
      have key : (mi 41 i ≤ a ↔ x ≤ a) → tmY (cTh mi i) (cY mi i) (cA mi i) a.toInt x.toInt = (mi 42 i).toInt * min (max (x - a).toInt (-(x - a).toInt)) (max (mi 41 i - a).toInt (-(mi 41 i - a).toInt)) := by
        intro hq
        rw [Int32.le_iff_toInt_le, Int32.le_iff_toInt_le] at hq
        unfold tmY cY cA
        rw [if_pos ⟨hc, by omega⟩, i32sub hx ha, i32sub hyi ha]
        congr 2
        · omega
        · omega
      have key0 : ¬ (mi 41 i ≤ a ↔ x ≤ a) → tmY (cTh mi i) (cY mi i) (cA mi i) a.toInt x.toInt = 0 := by
        intro hq
        rw [Int32.le_iff_toInt_le, Int32.le_iff_toInt_le] at hq
        unfold tmY cY cA
        rw [if_neg (by omega)]
      by_cases h2 : mi 41 i ≤ a <;> by_cases h3 : x ≤ a
      · simp only [h1, h2, h3, not_true_eq_false, not_false_eq_true, if_true, if_false, true_or, or_true, false_or, or_false, true_and, and_true, false_and, and_false, and_self, or_self, reduceIte, Bool.false_eq_true, i10, i01, e_inc1, key (by simp [h2, h3]), Int64.ofInt_add, Int64.ofInt_mul, i64_of, i32min, i32abs hxa, i32abs hya]
      · simp only [h1, h2, h3, not_true_eq_false, not_false_eq_true, if_true, if_false, true_or, or_true, false_or, or_false, true_and, and_true, false_and, and_false, and_self, or_self, reduceIte, Bool.false_eq_true, i10, i01, e_inc1, key0 (by simp [h2, h3]), Int.add_zero, show ¬ ((0 : Int32) = 1) by decide]
      · simp only [h1, h2, h3, not_true_eq_false, not_false_eq_true, if_true, if_false, true_or, or_true, false_or, or_false, true_and, and_true, false_and, and_false, and_self, or_self, reduceIte, Bool.false_eq_true, i10, i01, e_inc1, key0 (by simp [h2, h3]), Int.add_zero, show ¬ ((1 : Int32) = 0) by decide]
      · simp only [h1, h2, h3, not_true_eq_false, not_false_eq_true, if_true, if_false, true_or, or_true, false_or, or_false, true_and, and_true, false_and, and_false, and_self, or_self, reduceIte, Bool.false_eq_true, i10, i01, e_inc1, key (by simp [h2, h3]), Int64.ofInt_add, Int64.ofInt_mul, i64_of, i32min, i32abs hxa, i32abs hya]) (by decide) am_dm
  rw [k0nI, show (0 : Int64) = Int64.ofInt (sumI (fun n => tmY (cTh mi n) (cY mi n) (cA mi n) a.toInt x.toInt) 0) from rfl, hl]
  simp only [b_57_5, b_57_e, b_57_40, b_57_41, b_57_50, b_57_51, b_57_83, b_57_89, kl_0, e_lstore_3, e_kpi, e_kpr, e_kpl, e_kpd, k_0, e_istore_5, e_jsr, e_iload_5, k_5, e_icmp_ge, e_aloadr_0, g_7_34, il_2, il_5, il_33, il_35, il_36, il_41, il_42, il_tp, il_ta, il_sc, il_po, ik_2_0, ik_2_1, ik_2_2, ik_2_3, ik_2_4, e_istore_6, g_6_34, il_37, il_40, e_if_eq, e_iload_6, e_iload_1, e_icmp_le, k_1, e_goto, e_iload_2, e_icmp_ne, e_lload_3, g_8_34, e_i2l, e_isub, e_fmul_0, e_fmul_1, e_fmul_2, e_fmul_3, e_fmul_4, e_fsub_0, e_fsub_1, e_fsub_2, e_fsub_3, e_fsub_4, e_lmul, e_ladd, e_iinc_5, e_lret, eq_self, le55, not_true_eq_false, not_false_eq_true, if_true, if_false, true_or, or_true, false_or, or_false, true_and, and_true, false_and, and_false, and_self, or_self, reduceIte, Bool.false_eq_true, i10, i01]
theorem cc_Circuit_lostBeyond_0 {M : Nat} {c : List Instr} {L : List Value} {a x : Int32} (ha : bd a) (hx : bd x) (hy : ∀ n, n < 5 → cTh mi n = true → bd (mi 41 n)) : ev E M (.invokevirtual 57 :: c) L (.int x :: .int a :: .ref 34 :: []) (HH mi ml) = ev E M c L (.long (Int64.ofInt (sumI (fun n => tmY (cTh mi n) (cY mi n) (cA mi n) a.toInt x.toInt) 5)) :: []) (HH mi ml) := e_inv (as := [.ref 34, .int a, .int x]) (S := []) rfl rfl (Nat.le_of_ble_eq_true rfl) (rfl) (ct_Circuit_lostBeyond ha hx hy)
theorem cc_Circuit_lostBeyond_1 {M : Nat} {c : List Instr} {L : List Value} {s0 : Value} {a x : Int32} (ha : bd a) (hx : bd x) (hy : ∀ n, n < 5 → cTh mi n = true → bd (mi 41 n)) : ev E M (.invokevirtual 57 :: c) L (.int x :: .int a :: .ref 34 :: [s0]) (HH mi ml) = ev E M c L (.long (Int64.ofInt (sumI (fun n => tmY (cTh mi n) (cY mi n) (cA mi n) a.toInt x.toInt) 5)) :: [s0]) (HH mi ml) := e_inv (as := [.ref 34, .int a, .int x]) (S := [s0]) rfl rfl (Nat.le_of_ble_eq_true rfl) (rfl) (ct_Circuit_lostBeyond ha hx hy)
theorem cc_Circuit_lostBeyond_2 {M : Nat} {c : List Instr} {L : List Value} {s0 s1 : Value} {a x : Int32} (ha : bd a) (hx : bd x) (hy : ∀ n, n < 5 → cTh mi n = true → bd (mi 41 n)) : ev E M (.invokevirtual 57 :: c) L (.int x :: .int a :: .ref 34 :: [s0, s1]) (HH mi ml) = ev E M c L (.long (Int64.ofInt (sumI (fun n => tmY (cTh mi n) (cY mi n) (cA mi n) a.toInt x.toInt) 5)) :: [s0, s1]) (HH mi ml) := e_inv (as := [.ref 34, .int a, .int x]) (S := [s0, s1]) rfl rfl (Nat.le_of_ble_eq_true rfl) (rfl) (ct_Circuit_lostBeyond ha hx hy)
theorem cc_Circuit_lostBeyond_3 {M : Nat} {c : List Instr} {L : List Value} {s0 s1 s2 : Value} {a x : Int32} (ha : bd a) (hx : bd x) (hy : ∀ n, n < 5 → cTh mi n = true → bd (mi 41 n)) : ev E M (.invokevirtual 57 :: c) L (.int x :: .int a :: .ref 34 :: [s0, s1, s2]) (HH mi ml) = ev E M c L (.long (Int64.ofInt (sumI (fun n => tmY (cTh mi n) (cY mi n) (cA mi n) a.toInt x.toInt) 5)) :: [s0, s1, s2]) (HH mi ml) := e_inv (as := [.ref 34, .int a, .int x]) (S := [s0, s1, s2]) rfl rfl (Nat.le_of_ble_eq_true rfl) (rfl) (ct_Circuit_lostBeyond ha hx hy)
end Cl3
end
section
/-! WHAT A STATION GIVES -/
def oI (o : Option Nat) : Int32 := match o with
  | none => -1
  | some p => nI p
theorem oI_n : oI none = -1 := rfl
theorem oI_s {p : Nat} : oI (some p) = nI p := rfl
theorem ge_n : ((0 : Int32) ≤ -1) = False := by decide +kernel
theorem ge_s {p : Nat} (h : p < 5) : ((0 : Int32) ≤ nI p) = True := eq_true (nI_pos' (by omega))
def lef (a : Int) (l : Option Int) : Int := match l with
  | none => 1
  | some p => a - p
def rig (a : Int) (r : Option Int) : Int := match r with
  | none => 1
  | some q => q - a
def lfw (y : Int) (l : Option Int) : Int := match l with
  | none => 1
  | some p => max 0 (y - p)
def rgw (y : Int) (r : Option Int) : Int := match r with
  | none => 1
  | some q => max 0 (q - y)
def wT (th : Bool) (y A a : Int) (l r : Option Int) : Int := if th = true then (if y < a then A * rig a r * lfw y l else if a < y then A * lef a l * rgw y r else A * lef a l * rig a r) else 0
def cP (mi : Nat → Nat → Int32) (n : Nat) : Int := (mi 36 n).toInt
theorem i32max0 {z : Int32} : (if (0 : Int32) < z then z else 0).toInt = max 0 z.toInt := by
  have h0 : (0 : Int32).toInt = 0 := rfl
  simp only [Int32.lt_iff_toInt_lt, h0]
  split <;> omega
section Cl4
variable {E : aE} {mi : Nat → Nat → Int32} {ml : Nat → Nat → Int64}
theorem ct_Circuit_weighOne {j : Nat} {bf af : Option Nat} (hj : j < 5) (hbf : ∀ p, bf = some p → p < 5 ∧ bd (mi 36 p)) (haf : ∀ p, af = some p → p < 5 ∧ bd (mi 36 p)) (ha : bd (mi 36 j)) (hy : ∀ n, n < 5 → cTh mi n = true → bd (mi 41 n)) : ev E 50 (am_B 50 0) [.ref 34, .int (nI j), .int (oI bf), .int (oI af), am_dm, am_dm, am_dm, am_dm, am_dm, am_dm, am_dm, am_dm, am_dm] [] (HH mi ml) = some (none, HH mi (am_up (am_up ml 38 j (Int64.ofInt (sumI (fun n => wT (cTh mi n) (cY mi n) (cA mi n) (cP mi j) (bf.map (cP mi)) (af.map (cP mi))) 5))) 39 j (Int64.ofInt (lef (cP mi j) (bf.map (cP mi)) * rig (cP mi j) (af.map (cP mi)))))) := by
  rcases bf with _ | p <;> rcases af with _ | q
  · show _ = some (none, HH mi (am_up (am_up ml 38 j (Int64.ofInt (sumI (fun n => wT (cTh mi n) (cY mi n) (cA mi n) (cP mi j) (none) (none)) 5))) 39 j (Int64.ofInt (lef (cP mi j) (none) * rig (cP mi j) (none)))))
    simp only [b_50_e, b_50_16, b_50_26, b_50_36, b_50_46, b_50_73, b_50_110, b_50_123, b_50_131, b_50_159, b_50_172, b_50_180, b_50_199, b_50_205, e_aloadr_0, g_1_34, e_iload_1, il_2, il_5, il_33, il_35, il_36, il_41, il_42, il_tp, il_ta, il_sc, il_po, ik_2_0, ik_2_1, ik_2_2, ik_2_3, ik_2_4, e_istore_4, e_kpi, e_kpr, e_kpl, e_kpd, e_iload_2, e_if_ge, kl_1, e_goto, e_iload_4, e_isub, e_i2l, e_jsr, e_lstore_5, e_iload_3, e_lstore_7, kl_0, e_lstore_9, k_0, e_istore_11, e_iload_11, k_5, e_icmp_ge, g_6_34, il_37, il_40, e_if_ne, g_7_34, e_istore_12, e_iload_12, e_lload_9, g_8_34, e_lload_7, e_lmul, k_1, e_fadd_0, e_fadd_1, e_fadd_2, e_fadd_3, e_fadd_4, e_ladd, e_icmp_le, e_lload_5, e_iinc_11, g_3_34, is_38, is_39, g_4_34, e_ret, eq_self, oI_n, oI_s, not_true_eq_false, not_false_eq_true, if_true, if_false, true_or, or_true, false_or, or_false, true_and, and_true, false_and, and_false, and_self, or_self, reduceIte, Bool.false_eq_true, i10, i01, ge_n, hj]
    obtain ⟨v', hl⟩ := loop_upj (fun i v => ev E 50 (am_B 50 (Int.toNat 54)) [.ref 34, .int (nI j), .int (-1), .int (-1), .int (mi 36 j), .long (Int64.ofInt (lef (cP mi j) (none))), am_dm, .long (Int64.ofInt (rig (cP mi j) (none))), am_dm, .long (Int64.ofInt (sumI (fun n => wT (cTh mi n) (cY mi n) (cA mi n) (cP mi j) (none) (none)) i)), am_dm, .int (nI i), v] [] (HH mi ml)) 0 5 (fun i v _ hi => by
      by_cases h1 : mi 40 i = 0
      · refine ⟨v, hd b_50_54 ?_⟩
        have ht : wT (cTh mi i) (cY mi i) (cA mi i) (cP mi j) (none) (none) = 0 := by simp [wT, cTh, h1]
        simp only [b_50_e, b_50_16, b_50_26, b_50_36, b_50_46, b_50_73, b_50_110, b_50_123, b_50_131, b_50_159, b_50_172, b_50_180, b_50_199, b_50_205, e_aloadr_0, g_1_34, e_iload_1, il_2, il_5, il_33, il_35, il_36, il_41, il_42, il_tp, il_ta, il_sc, il_po, ik_2_0, ik_2_1, ik_2_2, ik_2_3, ik_2_4, e_istore_4, e_kpi, e_kpr, e_kpl, e_kpd, e_iload_2, e_if_ge, kl_1, e_goto, e_iload_4, e_isub, e_i2l, e_jsr, e_lstore_5, e_iload_3, e_lstore_7, kl_0, e_lstore_9, k_0, e_istore_11, e_iload_11, k_5, e_icmp_ge, g_6_34, il_37, il_40, e_if_ne, g_7_34, e_istore_12, e_iload_12, e_lload_9, g_8_34, e_lload_7, e_lmul, k_1, e_fadd_0, e_fadd_1, e_fadd_2, e_fadd_3, e_fadd_4, e_ladd, e_icmp_le, e_lload_5, e_iinc_11, g_3_34, is_38, is_39, g_4_34, e_ret, eq_self, hi, le5 hi, not_true_eq_false, not_false_eq_true, if_true, if_false, true_or, or_true, false_or, or_false, true_and, and_true, false_and, and_false, and_self, or_self, reduceIte, Bool.false_eq_true, i10, i01, h1, e_inc1, sumI, ht, Int.add_zero]
      · refine ⟨.int (mi 41 i), hd b_50_54 ?_⟩
        have hc : cTh mi i = true := by simp [cTh, h1]
        have hyi := hy i hi hc
        by_cases h2 : mi 36 j ≤ mi 41 i
        · by_cases h3 : mi 41 i ≤ mi 36 j
          · have ht : wT (cTh mi i) (cY mi i) (cA mi i) (cP mi j) (none) (none) = (mi 42 i).toInt * lef (cP mi j) (none) * rig (cP mi j) (none) := by
              rw [Int32.le_iff_toInt_le] at h2 h3
              unfold wT
              rw [if_pos hc, if_neg (by unfold cY cP; omega), if_neg (by unfold cY cP; omega)]
              rfl
            simp only [b_50_e, b_50_16, b_50_26, b_50_36, b_50_46, b_50_73, b_50_110, b_50_123, b_50_131, b_50_159, b_50_172, b_50_180, b_50_199, b_50_205, e_aloadr_0, g_1_34, e_iload_1, il_2, il_5, il_33, il_35, il_36, il_41, il_42, il_tp, il_ta, il_sc, il_po, ik_2_0, ik_2_1, ik_2_2, ik_2_3, ik_2_4, e_istore_4, e_kpi, e_kpr, e_kpl, e_kpd, e_iload_2, e_if_ge, kl_1, e_goto, e_iload_4, e_isub, e_i2l, e_jsr, e_lstore_5, e_iload_3, e_lstore_7, kl_0, e_lstore_9, k_0, e_istore_11, e_iload_11, k_5, e_icmp_ge, g_6_34, il_37, il_40, e_if_ne, g_7_34, e_istore_12, e_iload_12, e_lload_9, g_8_34, e_lload_7, e_lmul, k_1, e_fadd_0, e_fadd_1, e_fadd_2, e_fadd_3, e_fadd_4, e_ladd, e_icmp_le, e_lload_5, e_iinc_11, g_3_34, is_38, is_39, g_4_34, e_ret, eq_self, hi, le5 hi, not_true_eq_false, not_false_eq_true, if_true, if_false, true_or, or_true, false_or, or_false, true_and, and_true, false_and, and_false, and_self, or_self, reduceIte, Bool.false_eq_true, i10, i01, h1, h2, h3, e_inc1, sumI, ht, ge_n, hj, Int64.ofInt_add, Int64.ofInt_mul, i64_of]
          · have ht : wT (cTh mi i) (cY mi i) (cA mi i) (cP mi j) (none) (none) = (mi 42 i).toInt * lef (cP mi j) (none) * 1 := by
              rw [Int32.le_iff_toInt_le] at h2 h3
              unfold wT
              rw [if_pos hc, if_neg (by unfold cY cP; omega), if_pos (by unfold cY cP; omega)]
              rfl
            simp only [b_50_e, b_50_16, b_50_26, b_50_36, b_50_46, b_50_73, b_50_110, b_50_123, b_50_131, b_50_159, b_50_172, b_50_180, b_50_199, b_50_205, e_aloadr_0, g_1_34, e_iload_1, il_2, il_5, il_33, il_35, il_36, il_41, il_42, il_tp, il_ta, il_sc, il_po, ik_2_0, ik_2_1, ik_2_2, ik_2_3, ik_2_4, e_istore_4, e_kpi, e_kpr, e_kpl, e_kpd, e_iload_2, e_if_ge, kl_1, e_goto, e_iload_4, e_isub, e_i2l, e_jsr, e_lstore_5, e_iload_3, e_lstore_7, kl_0, e_lstore_9, k_0, e_istore_11, e_iload_11, k_5, e_icmp_ge, g_6_34, il_37, il_40, e_if_ne, g_7_34, e_istore_12, e_iload_12, e_lload_9, g_8_34, e_lload_7, e_lmul, k_1, e_fadd_0, e_fadd_1, e_fadd_2, e_fadd_3, e_fadd_4, e_ladd, e_icmp_le, e_lload_5, e_iinc_11, g_3_34, is_38, is_39, g_4_34, e_ret, eq_self, hi, le5 hi, not_true_eq_false, not_false_eq_true, if_true, if_false, true_or, or_true, false_or, or_false, true_and, and_true, false_and, and_false, and_self, or_self, reduceIte, Bool.false_eq_true, i10, i01, h1, h2, h3, e_inc1, sumI, ht, ge_n, hj, Int64.ofInt_add, Int64.ofInt_mul, i64_of]
            try rfl
        · have ht : wT (cTh mi i) (cY mi i) (cA mi i) (cP mi j) (none) (none) = (mi 42 i).toInt * rig (cP mi j) (none) * 1 := by
            rw [Int32.le_iff_toInt_le] at h2
            unfold wT
            rw [if_pos hc, if_pos (by unfold cY cP; omega)]
            rfl
          simp only [b_50_e, b_50_16, b_50_26, b_50_36, b_50_46, b_50_73, b_50_110, b_50_123, b_50_131, b_50_159, b_50_172, b_50_180, b_50_199, b_50_205, e_aloadr_0, g_1_34, e_iload_1, il_2, il_5, il_33, il_35, il_36, il_41, il_42, il_tp, il_ta, il_sc, il_po, ik_2_0, ik_2_1, ik_2_2, ik_2_3, ik_2_4, e_istore_4, e_kpi, e_kpr, e_kpl, e_kpd, e_iload_2, e_if_ge, kl_1, e_goto, e_iload_4, e_isub, e_i2l, e_jsr, e_lstore_5, e_iload_3, e_lstore_7, kl_0, e_lstore_9, k_0, e_istore_11, e_iload_11, k_5, e_icmp_ge, g_6_34, il_37, il_40, e_if_ne, g_7_34, e_istore_12, e_iload_12, e_lload_9, g_8_34, e_lload_7, e_lmul, k_1, e_fadd_0, e_fadd_1, e_fadd_2, e_fadd_3, e_fadd_4, e_ladd, e_icmp_le, e_lload_5, e_iinc_11, g_3_34, is_38, is_39, g_4_34, e_ret, eq_self, hi, le5 hi, not_true_eq_false, not_false_eq_true, if_true, if_false, true_or, or_true, false_or, or_false, true_and, and_true, false_and, and_false, and_self, or_self, reduceIte, Bool.false_eq_true, i10, i01, h1, h2, e_inc1, sumI, ht, ge_n, hj, Int64.ofInt_add, Int64.ofInt_mul, i64_of]
          try rfl) (by decide) am_dm
    simp only [lef, rig, show Int64.ofInt 1 = 1 from rfl] at hl
    rw [k0nI, show (0 : Int64) = Int64.ofInt (sumI (fun n => wT (cTh mi n) (cY mi n) (cA mi n) (cP mi j) (none) (none)) 0) from rfl, hl]
    simp only [b_50_54, b_50_e, b_50_16, b_50_26, b_50_36, b_50_46, b_50_73, b_50_110, b_50_123, b_50_131, b_50_159, b_50_172, b_50_180, b_50_199, b_50_205, e_aloadr_0, g_1_34, e_iload_1, il_2, il_5, il_33, il_35, il_36, il_41, il_42, il_tp, il_ta, il_sc, il_po, ik_2_0, ik_2_1, ik_2_2, ik_2_3, ik_2_4, e_istore_4, e_kpi, e_kpr, e_kpl, e_kpd, e_iload_2, e_if_ge, kl_1, e_goto, e_iload_4, e_isub, e_i2l, e_jsr, e_lstore_5, e_iload_3, e_lstore_7, kl_0, e_lstore_9, k_0, e_istore_11, e_iload_11, k_5, e_icmp_ge, g_6_34, il_37, il_40, e_if_ne, g_7_34, e_istore_12, e_iload_12, e_lload_9, g_8_34, e_lload_7, e_lmul, k_1, e_fadd_0, e_fadd_1, e_fadd_2, e_fadd_3, e_fadd_4, e_ladd, e_icmp_le, e_lload_5, e_iinc_11, g_3_34, is_38, is_39, g_4_34, e_ret, eq_self, le55, hj, not_true_eq_false, not_false_eq_true, if_true, if_false, true_or, or_true, false_or, or_false, true_and, and_true, false_and, and_false, and_self, or_self, reduceIte, Bool.false_eq_true, i10, i01, Int64.ofInt_mul, lef, rig, show Int64.ofInt 1 = 1 from rfl]
  · show _ = some (none, HH mi (am_up (am_up ml 38 j (Int64.ofInt (sumI (fun n => wT (cTh mi n) (cY mi n) (cA mi n) (cP mi j) (none) (some (cP mi q))) 5))) 39 j (Int64.ofInt (lef (cP mi j) (none) * rig (cP mi j) (some (cP mi q))))))
    obtain ⟨hq, hqb⟩ := haf q rfl
    simp only [b_50_e, b_50_16, b_50_26, b_50_36, b_50_46, b_50_73, b_50_110, b_50_123, b_50_131, b_50_159, b_50_172, b_50_180, b_50_199, b_50_205, e_aloadr_0, g_1_34, e_iload_1, il_2, il_5, il_33, il_35, il_36, il_41, il_42, il_tp, il_ta, il_sc, il_po, ik_2_0, ik_2_1, ik_2_2, ik_2_3, ik_2_4, e_istore_4, e_kpi, e_kpr, e_kpl, e_kpd, e_iload_2, e_if_ge, kl_1, e_goto, e_iload_4, e_isub, e_i2l, e_jsr, e_lstore_5, e_iload_3, e_lstore_7, kl_0, e_lstore_9, k_0, e_istore_11, e_iload_11, k_5, e_icmp_ge, g_6_34, il_37, il_40, e_if_ne, g_7_34, e_istore_12, e_iload_12, e_lload_9, g_8_34, e_lload_7, e_lmul, k_1, e_fadd_0, e_fadd_1, e_fadd_2, e_fadd_3, e_fadd_4, e_ladd, e_icmp_le, e_lload_5, e_iinc_11, g_3_34, is_38, is_39, g_4_34, e_ret, eq_self, oI_n, oI_s, not_true_eq_false, not_false_eq_true, if_true, if_false, true_or, or_true, false_or, or_false, true_and, and_true, false_and, and_false, and_self, or_self, reduceIte, Bool.false_eq_true, i10, i01, ge_n, hj, hq, ge_s hq]
    obtain ⟨v', hl⟩ := loop_upj (fun i v => ev E 50 (am_B 50 (Int.toNat 54)) [.ref 34, .int (nI j), .int (-1), .int (nI q), .int (mi 36 j), .long (Int64.ofInt (lef (cP mi j) (none))), am_dm, .long (Int64.ofInt (rig (cP mi j) (some (cP mi q)))), am_dm, .long (Int64.ofInt (sumI (fun n => wT (cTh mi n) (cY mi n) (cA mi n) (cP mi j) (none) (some (cP mi q))) i)), am_dm, .int (nI i), v] [] (HH mi ml)) 0 5 (fun i v _ hi => by
      by_cases h1 : mi 40 i = 0
      · refine ⟨v, hd b_50_54 ?_⟩
        have ht : wT (cTh mi i) (cY mi i) (cA mi i) (cP mi j) (none) (some (cP mi q)) = 0 := by simp [wT, cTh, h1]
        simp only [b_50_e, b_50_16, b_50_26, b_50_36, b_50_46, b_50_73, b_50_110, b_50_123, b_50_131, b_50_159, b_50_172, b_50_180, b_50_199, b_50_205, e_aloadr_0, g_1_34, e_iload_1, il_2, il_5, il_33, il_35, il_36, il_41, il_42, il_tp, il_ta, il_sc, il_po, ik_2_0, ik_2_1, ik_2_2, ik_2_3, ik_2_4, e_istore_4, e_kpi, e_kpr, e_kpl, e_kpd, e_iload_2, e_if_ge, kl_1, e_goto, e_iload_4, e_isub, e_i2l, e_jsr, e_lstore_5, e_iload_3, e_lstore_7, kl_0, e_lstore_9, k_0, e_istore_11, e_iload_11, k_5, e_icmp_ge, g_6_34, il_37, il_40, e_if_ne, g_7_34, e_istore_12, e_iload_12, e_lload_9, g_8_34, e_lload_7, e_lmul, k_1, e_fadd_0, e_fadd_1, e_fadd_2, e_fadd_3, e_fadd_4, e_ladd, e_icmp_le, e_lload_5, e_iinc_11, g_3_34, is_38, is_39, g_4_34, e_ret, eq_self, hi, le5 hi, not_true_eq_false, not_false_eq_true, if_true, if_false, true_or, or_true, false_or, or_false, true_and, and_true, false_and, and_false, and_self, or_self, reduceIte, Bool.false_eq_true, i10, i01, h1, e_inc1, sumI, ht, Int.add_zero]
      · refine ⟨.int (mi 41 i), hd b_50_54 ?_⟩
        have hc : cTh mi i = true := by simp [cTh, h1]
        have hyi := hy i hi hc
        by_cases h2 : mi 36 j ≤ mi 41 i
        · by_cases h3 : mi 41 i ≤ mi 36 j
          · have ht : wT (cTh mi i) (cY mi i) (cA mi i) (cP mi j) (none) (some (cP mi q)) = (mi 42 i).toInt * lef (cP mi j) (none) * rig (cP mi j) (some (cP mi q)) := by
              rw [Int32.le_iff_toInt_le] at h2 h3
              unfold wT
              rw [if_pos hc, if_neg (by unfold cY cP; omega), if_neg (by unfold cY cP; omega)]
              rfl
            simp only [b_50_e, b_50_16, b_50_26, b_50_36, b_50_46, b_50_73, b_50_110, b_50_123, b_50_131, b_50_159, b_50_172, b_50_180, b_50_199, b_50_205, e_aloadr_0, g_1_34, e_iload_1, il_2, il_5, il_33, il_35, il_36, il_41, il_42, il_tp, il_ta, il_sc, il_po, ik_2_0, ik_2_1, ik_2_2, ik_2_3, ik_2_4, e_istore_4, e_kpi, e_kpr, e_kpl, e_kpd, e_iload_2, e_if_ge, kl_1, e_goto, e_iload_4, e_isub, e_i2l, e_jsr, e_lstore_5, e_iload_3, e_lstore_7, kl_0, e_lstore_9, k_0, e_istore_11, e_iload_11, k_5, e_icmp_ge, g_6_34, il_37, il_40, e_if_ne, g_7_34, e_istore_12, e_iload_12, e_lload_9, g_8_34, e_lload_7, e_lmul, k_1, e_fadd_0, e_fadd_1, e_fadd_2, e_fadd_3, e_fadd_4, e_ladd, e_icmp_le, e_lload_5, e_iinc_11, g_3_34, is_38, is_39, g_4_34, e_ret, eq_self, hi, le5 hi, not_true_eq_false, not_false_eq_true, if_true, if_false, true_or, or_true, false_or, or_false, true_and, and_true, false_and, and_false, and_self, or_self, reduceIte, Bool.false_eq_true, i10, i01, h1, h2, h3, e_inc1, sumI, ht, ge_n, hj, hq, ge_s hq, Int64.ofInt_add, Int64.ofInt_mul, i64_of]
          · have ht : wT (cTh mi i) (cY mi i) (cA mi i) (cP mi j) (none) (some (cP mi q)) = (mi 42 i).toInt * lef (cP mi j) (none) * max 0 ((mi 36 q).toInt - (mi 41 i).toInt) := by
              rw [Int32.le_iff_toInt_le] at h2 h3
              unfold wT
              rw [if_pos hc, if_neg (by unfold cY cP; omega), if_pos (by unfold cY cP; omega)]
              rfl
            simp only [b_50_e, b_50_16, b_50_26, b_50_36, b_50_46, b_50_73, b_50_110, b_50_123, b_50_131, b_50_159, b_50_172, b_50_180, b_50_199, b_50_205, e_aloadr_0, g_1_34, e_iload_1, il_2, il_5, il_33, il_35, il_36, il_41, il_42, il_tp, il_ta, il_sc, il_po, ik_2_0, ik_2_1, ik_2_2, ik_2_3, ik_2_4, e_istore_4, e_kpi, e_kpr, e_kpl, e_kpd, e_iload_2, e_if_ge, kl_1, e_goto, e_iload_4, e_isub, e_i2l, e_jsr, e_lstore_5, e_iload_3, e_lstore_7, kl_0, e_lstore_9, k_0, e_istore_11, e_iload_11, k_5, e_icmp_ge, g_6_34, il_37, il_40, e_if_ne, g_7_34, e_istore_12, e_iload_12, e_lload_9, g_8_34, e_lload_7, e_lmul, k_1, e_fadd_0, e_fadd_1, e_fadd_2, e_fadd_3, e_fadd_4, e_ladd, e_icmp_le, e_lload_5, e_iinc_11, g_3_34, is_38, is_39, g_4_34, e_ret, eq_self, hi, le5 hi, not_true_eq_false, not_false_eq_true, if_true, if_false, true_or, or_true, false_or, or_false, true_and, and_true, false_and, and_false, and_self, or_self, reduceIte, Bool.false_eq_true, i10, i01, h1, h2, h3, e_inc1, sumI, ht, ge_n, hj, hq, ge_s hq, Int64.ofInt_add, Int64.ofInt_mul, i64_of, i32max0, i32sub hqb hyi]
            try rfl
        · have ht : wT (cTh mi i) (cY mi i) (cA mi i) (cP mi j) (none) (some (cP mi q)) = (mi 42 i).toInt * rig (cP mi j) (some (cP mi q)) * 1 := by
            rw [Int32.le_iff_toInt_le] at h2
            unfold wT
            rw [if_pos hc, if_pos (by unfold cY cP; omega)]
            rfl
          simp only [b_50_e, b_50_16, b_50_26, b_50_36, b_50_46, b_50_73, b_50_110, b_50_123, b_50_131, b_50_159, b_50_172, b_50_180, b_50_199, b_50_205, e_aloadr_0, g_1_34, e_iload_1, il_2, il_5, il_33, il_35, il_36, il_41, il_42, il_tp, il_ta, il_sc, il_po, ik_2_0, ik_2_1, ik_2_2, ik_2_3, ik_2_4, e_istore_4, e_kpi, e_kpr, e_kpl, e_kpd, e_iload_2, e_if_ge, kl_1, e_goto, e_iload_4, e_isub, e_i2l, e_jsr, e_lstore_5, e_iload_3, e_lstore_7, kl_0, e_lstore_9, k_0, e_istore_11, e_iload_11, k_5, e_icmp_ge, g_6_34, il_37, il_40, e_if_ne, g_7_34, e_istore_12, e_iload_12, e_lload_9, g_8_34, e_lload_7, e_lmul, k_1, e_fadd_0, e_fadd_1, e_fadd_2, e_fadd_3, e_fadd_4, e_ladd, e_icmp_le, e_lload_5, e_iinc_11, g_3_34, is_38, is_39, g_4_34, e_ret, eq_self, hi, le5 hi, not_true_eq_false, not_false_eq_true, if_true, if_false, true_or, or_true, false_or, or_false, true_and, and_true, false_and, and_false, and_self, or_self, reduceIte, Bool.false_eq_true, i10, i01, h1, h2, e_inc1, sumI, ht, ge_n, hj, hq, ge_s hq, Int64.ofInt_add, Int64.ofInt_mul, i64_of]
          try rfl) (by decide) am_dm
    have e1 : (1 : Int64) = Int64.ofInt (lef (cP mi j) (none)) := by rfl
    have e2 : (mi 36 q - mi 36 j).toInt64 = Int64.ofInt (rig (cP mi j) (some (cP mi q))) := by rw [i64_of, i32sub hqb ha]; rfl
    rw [e1, e2, k0nI, show (0 : Int64) = Int64.ofInt (sumI (fun n => wT (cTh mi n) (cY mi n) (cA mi n) (cP mi j) (none) (some (cP mi q))) 0) from rfl, hl]
    simp only [b_50_54, b_50_e, b_50_16, b_50_26, b_50_36, b_50_46, b_50_73, b_50_110, b_50_123, b_50_131, b_50_159, b_50_172, b_50_180, b_50_199, b_50_205, e_aloadr_0, g_1_34, e_iload_1, il_2, il_5, il_33, il_35, il_36, il_41, il_42, il_tp, il_ta, il_sc, il_po, ik_2_0, ik_2_1, ik_2_2, ik_2_3, ik_2_4, e_istore_4, e_kpi, e_kpr, e_kpl, e_kpd, e_iload_2, e_if_ge, kl_1, e_goto, e_iload_4, e_isub, e_i2l, e_jsr, e_lstore_5, e_iload_3, e_lstore_7, kl_0, e_lstore_9, k_0, e_istore_11, e_iload_11, k_5, e_icmp_ge, g_6_34, il_37, il_40, e_if_ne, g_7_34, e_istore_12, e_iload_12, e_lload_9, g_8_34, e_lload_7, e_lmul, k_1, e_fadd_0, e_fadd_1, e_fadd_2, e_fadd_3, e_fadd_4, e_ladd, e_icmp_le, e_lload_5, e_iinc_11, g_3_34, is_38, is_39, g_4_34, e_ret, eq_self, le55, hj, not_true_eq_false, not_false_eq_true, if_true, if_false, true_or, or_true, false_or, or_false, true_and, and_true, false_and, and_false, and_self, or_self, reduceIte, Bool.false_eq_true, i10, i01, Int64.ofInt_mul]
  · show _ = some (none, HH mi (am_up (am_up ml 38 j (Int64.ofInt (sumI (fun n => wT (cTh mi n) (cY mi n) (cA mi n) (cP mi j) (some (cP mi p)) (none)) 5))) 39 j (Int64.ofInt (lef (cP mi j) (some (cP mi p)) * rig (cP mi j) (none)))))
    obtain ⟨hp, hpb⟩ := hbf p rfl
    simp only [b_50_e, b_50_16, b_50_26, b_50_36, b_50_46, b_50_73, b_50_110, b_50_123, b_50_131, b_50_159, b_50_172, b_50_180, b_50_199, b_50_205, e_aloadr_0, g_1_34, e_iload_1, il_2, il_5, il_33, il_35, il_36, il_41, il_42, il_tp, il_ta, il_sc, il_po, ik_2_0, ik_2_1, ik_2_2, ik_2_3, ik_2_4, e_istore_4, e_kpi, e_kpr, e_kpl, e_kpd, e_iload_2, e_if_ge, kl_1, e_goto, e_iload_4, e_isub, e_i2l, e_jsr, e_lstore_5, e_iload_3, e_lstore_7, kl_0, e_lstore_9, k_0, e_istore_11, e_iload_11, k_5, e_icmp_ge, g_6_34, il_37, il_40, e_if_ne, g_7_34, e_istore_12, e_iload_12, e_lload_9, g_8_34, e_lload_7, e_lmul, k_1, e_fadd_0, e_fadd_1, e_fadd_2, e_fadd_3, e_fadd_4, e_ladd, e_icmp_le, e_lload_5, e_iinc_11, g_3_34, is_38, is_39, g_4_34, e_ret, eq_self, oI_n, oI_s, not_true_eq_false, not_false_eq_true, if_true, if_false, true_or, or_true, false_or, or_false, true_and, and_true, false_and, and_false, and_self, or_self, reduceIte, Bool.false_eq_true, i10, i01, ge_n, hj, hp, ge_s hp]
    obtain ⟨v', hl⟩ := loop_upj (fun i v => ev E 50 (am_B 50 (Int.toNat 54)) [.ref 34, .int (nI j), .int (nI p), .int (-1), .int (mi 36 j), .long (Int64.ofInt (lef (cP mi j) (some (cP mi p)))), am_dm, .long (Int64.ofInt (rig (cP mi j) (none))), am_dm, .long (Int64.ofInt (sumI (fun n => wT (cTh mi n) (cY mi n) (cA mi n) (cP mi j) (some (cP mi p)) (none)) i)), am_dm, .int (nI i), v] [] (HH mi ml)) 0 5 (fun i v _ hi => by
      by_cases h1 : mi 40 i = 0
      · refine ⟨v, hd b_50_54 ?_⟩
        have ht : wT (cTh mi i) (cY mi i) (cA mi i) (cP mi j) (some (cP mi p)) (none) = 0 := by simp [wT, cTh, h1]
        simp only [b_50_e, b_50_16, b_50_26, b_50_36, b_50_46, b_50_73, b_50_110, b_50_123, b_50_131, b_50_159, b_50_172, b_50_180, b_50_199, b_50_205, e_aloadr_0, g_1_34, e_iload_1, il_2, il_5, il_33, il_35, il_36, il_41, il_42, il_tp, il_ta, il_sc, il_po, ik_2_0, ik_2_1, ik_2_2, ik_2_3, ik_2_4, e_istore_4, e_kpi, e_kpr, e_kpl, e_kpd, e_iload_2, e_if_ge, kl_1, e_goto, e_iload_4, e_isub, e_i2l, e_jsr, e_lstore_5, e_iload_3, e_lstore_7, kl_0, e_lstore_9, k_0, e_istore_11, e_iload_11, k_5, e_icmp_ge, g_6_34, il_37, il_40, e_if_ne, g_7_34, e_istore_12, e_iload_12, e_lload_9, g_8_34, e_lload_7, e_lmul, k_1, e_fadd_0, e_fadd_1, e_fadd_2, e_fadd_3, e_fadd_4, e_ladd, e_icmp_le, e_lload_5, e_iinc_11, g_3_34, is_38, is_39, g_4_34, e_ret, eq_self, hi, le5 hi, not_true_eq_false, not_false_eq_true, if_true, if_false, true_or, or_true, false_or, or_false, true_and, and_true, false_and, and_false, and_self, or_self, reduceIte, Bool.false_eq_true, i10, i01, h1, e_inc1, sumI, ht, Int.add_zero]
      · refine ⟨.int (mi 41 i), hd b_50_54 ?_⟩
        have hc : cTh mi i = true := by simp [cTh, h1]
        have hyi := hy i hi hc
        by_cases h2 : mi 36 j ≤ mi 41 i
        · by_cases h3 : mi 41 i ≤ mi 36 j
          · have ht : wT (cTh mi i) (cY mi i) (cA mi i) (cP mi j) (some (cP mi p)) (none) = (mi 42 i).toInt * lef (cP mi j) (some (cP mi p)) * rig (cP mi j) (none) := by
              rw [Int32.le_iff_toInt_le] at h2 h3
              unfold wT
              rw [if_pos hc, if_neg (by unfold cY cP; omega), if_neg (by unfold cY cP; omega)]
              rfl
            simp only [b_50_e, b_50_16, b_50_26, b_50_36, b_50_46, b_50_73, b_50_110, b_50_123, b_50_131, b_50_159, b_50_172, b_50_180, b_50_199, b_50_205, e_aloadr_0, g_1_34, e_iload_1, il_2, il_5, il_33, il_35, il_36, il_41, il_42, il_tp, il_ta, il_sc, il_po, ik_2_0, ik_2_1, ik_2_2, ik_2_3, ik_2_4, e_istore_4, e_kpi, e_kpr, e_kpl, e_kpd, e_iload_2, e_if_ge, kl_1, e_goto, e_iload_4, e_isub, e_i2l, e_jsr, e_lstore_5, e_iload_3, e_lstore_7, kl_0, e_lstore_9, k_0, e_istore_11, e_iload_11, k_5, e_icmp_ge, g_6_34, il_37, il_40, e_if_ne, g_7_34, e_istore_12, e_iload_12, e_lload_9, g_8_34, e_lload_7, e_lmul, k_1, e_fadd_0, e_fadd_1, e_fadd_2, e_fadd_3, e_fadd_4, e_ladd, e_icmp_le, e_lload_5, e_iinc_11, g_3_34, is_38, is_39, g_4_34, e_ret, eq_self, hi, le5 hi, not_true_eq_false, not_false_eq_true, if_true, if_false, true_or, or_true, false_or, or_false, true_and, and_true, false_and, and_false, and_self, or_self, reduceIte, Bool.false_eq_true, i10, i01, h1, h2, h3, e_inc1, sumI, ht, ge_n, hj, hp, ge_s hp, Int64.ofInt_add, Int64.ofInt_mul, i64_of]
          · have ht : wT (cTh mi i) (cY mi i) (cA mi i) (cP mi j) (some (cP mi p)) (none) = (mi 42 i).toInt * lef (cP mi j) (some (cP mi p)) * 1 := by
              rw [Int32.le_iff_toInt_le] at h2 h3
              unfold wT
              rw [if_pos hc, if_neg (by unfold cY cP; omega), if_pos (by unfold cY cP; omega)]
              rfl
            simp only [b_50_e, b_50_16, b_50_26, b_50_36, b_50_46, b_50_73, b_50_110, b_50_123, b_50_131, b_50_159, b_50_172, b_50_180, b_50_199, b_50_205, e_aloadr_0, g_1_34, e_iload_1, il_2, il_5, il_33, il_35, il_36, il_41, il_42, il_tp, il_ta, il_sc, il_po, ik_2_0, ik_2_1, ik_2_2, ik_2_3, ik_2_4, e_istore_4, e_kpi, e_kpr, e_kpl, e_kpd, e_iload_2, e_if_ge, kl_1, e_goto, e_iload_4, e_isub, e_i2l, e_jsr, e_lstore_5, e_iload_3, e_lstore_7, kl_0, e_lstore_9, k_0, e_istore_11, e_iload_11, k_5, e_icmp_ge, g_6_34, il_37, il_40, e_if_ne, g_7_34, e_istore_12, e_iload_12, e_lload_9, g_8_34, e_lload_7, e_lmul, k_1, e_fadd_0, e_fadd_1, e_fadd_2, e_fadd_3, e_fadd_4, e_ladd, e_icmp_le, e_lload_5, e_iinc_11, g_3_34, is_38, is_39, g_4_34, e_ret, eq_self, hi, le5 hi, not_true_eq_false, not_false_eq_true, if_true, if_false, true_or, or_true, false_or, or_false, true_and, and_true, false_and, and_false, and_self, or_self, reduceIte, Bool.false_eq_true, i10, i01, h1, h2, h3, e_inc1, sumI, ht, ge_n, hj, hp, ge_s hp, Int64.ofInt_add, Int64.ofInt_mul, i64_of]
            try rfl
        · have ht : wT (cTh mi i) (cY mi i) (cA mi i) (cP mi j) (some (cP mi p)) (none) = (mi 42 i).toInt * rig (cP mi j) (none) * max 0 ((mi 41 i).toInt - (mi 36 p).toInt) := by
            rw [Int32.le_iff_toInt_le] at h2
            unfold wT
            rw [if_pos hc, if_pos (by unfold cY cP; omega)]
            rfl
          simp only [b_50_e, b_50_16, b_50_26, b_50_36, b_50_46, b_50_73, b_50_110, b_50_123, b_50_131, b_50_159, b_50_172, b_50_180, b_50_199, b_50_205, e_aloadr_0, g_1_34, e_iload_1, il_2, il_5, il_33, il_35, il_36, il_41, il_42, il_tp, il_ta, il_sc, il_po, ik_2_0, ik_2_1, ik_2_2, ik_2_3, ik_2_4, e_istore_4, e_kpi, e_kpr, e_kpl, e_kpd, e_iload_2, e_if_ge, kl_1, e_goto, e_iload_4, e_isub, e_i2l, e_jsr, e_lstore_5, e_iload_3, e_lstore_7, kl_0, e_lstore_9, k_0, e_istore_11, e_iload_11, k_5, e_icmp_ge, g_6_34, il_37, il_40, e_if_ne, g_7_34, e_istore_12, e_iload_12, e_lload_9, g_8_34, e_lload_7, e_lmul, k_1, e_fadd_0, e_fadd_1, e_fadd_2, e_fadd_3, e_fadd_4, e_ladd, e_icmp_le, e_lload_5, e_iinc_11, g_3_34, is_38, is_39, g_4_34, e_ret, eq_self, hi, le5 hi, not_true_eq_false, not_false_eq_true, if_true, if_false, true_or, or_true, false_or, or_false, true_and, and_true, false_and, and_false, and_self, or_self, reduceIte, Bool.false_eq_true, i10, i01, h1, h2, e_inc1, sumI, ht, ge_n, hj, hp, ge_s hp, Int64.ofInt_add, Int64.ofInt_mul, i64_of, i32max0, i32sub hyi hpb]
          try rfl) (by decide) am_dm
    have e1 : (mi 36 j - mi 36 p).toInt64 = Int64.ofInt (lef (cP mi j) (some (cP mi p))) := by rw [i64_of, i32sub ha hpb]; rfl
    have e2 : (1 : Int64) = Int64.ofInt (rig (cP mi j) (none)) := by rfl
    rw [e1, e2, k0nI, show (0 : Int64) = Int64.ofInt (sumI (fun n => wT (cTh mi n) (cY mi n) (cA mi n) (cP mi j) (some (cP mi p)) (none)) 0) from rfl, hl]
    simp only [b_50_54, b_50_e, b_50_16, b_50_26, b_50_36, b_50_46, b_50_73, b_50_110, b_50_123, b_50_131, b_50_159, b_50_172, b_50_180, b_50_199, b_50_205, e_aloadr_0, g_1_34, e_iload_1, il_2, il_5, il_33, il_35, il_36, il_41, il_42, il_tp, il_ta, il_sc, il_po, ik_2_0, ik_2_1, ik_2_2, ik_2_3, ik_2_4, e_istore_4, e_kpi, e_kpr, e_kpl, e_kpd, e_iload_2, e_if_ge, kl_1, e_goto, e_iload_4, e_isub, e_i2l, e_jsr, e_lstore_5, e_iload_3, e_lstore_7, kl_0, e_lstore_9, k_0, e_istore_11, e_iload_11, k_5, e_icmp_ge, g_6_34, il_37, il_40, e_if_ne, g_7_34, e_istore_12, e_iload_12, e_lload_9, g_8_34, e_lload_7, e_lmul, k_1, e_fadd_0, e_fadd_1, e_fadd_2, e_fadd_3, e_fadd_4, e_ladd, e_icmp_le, e_lload_5, e_iinc_11, g_3_34, is_38, is_39, g_4_34, e_ret, eq_self, le55, hj, not_true_eq_false, not_false_eq_true, if_true, if_false, true_or, or_true, false_or, or_false, true_and, and_true, false_and, and_false, and_self, or_self, reduceIte, Bool.false_eq_true, i10, i01, Int64.ofInt_mul]
  · show _ = some (none, HH mi (am_up (am_up ml 38 j (Int64.ofInt (sumI (fun n => wT (cTh mi n) (cY mi n) (cA mi n) (cP mi j) (some (cP mi p)) (some (cP mi q))) 5))) 39 j (Int64.ofInt (lef (cP mi j) (some (cP mi p)) * rig (cP mi j) (some (cP mi q))))))
    obtain ⟨hp, hpb⟩ := hbf p rfl
    obtain ⟨hq, hqb⟩ := haf q rfl
    simp only [b_50_e, b_50_16, b_50_26, b_50_36, b_50_46, b_50_73, b_50_110, b_50_123, b_50_131, b_50_159, b_50_172, b_50_180, b_50_199, b_50_205, e_aloadr_0, g_1_34, e_iload_1, il_2, il_5, il_33, il_35, il_36, il_41, il_42, il_tp, il_ta, il_sc, il_po, ik_2_0, ik_2_1, ik_2_2, ik_2_3, ik_2_4, e_istore_4, e_kpi, e_kpr, e_kpl, e_kpd, e_iload_2, e_if_ge, kl_1, e_goto, e_iload_4, e_isub, e_i2l, e_jsr, e_lstore_5, e_iload_3, e_lstore_7, kl_0, e_lstore_9, k_0, e_istore_11, e_iload_11, k_5, e_icmp_ge, g_6_34, il_37, il_40, e_if_ne, g_7_34, e_istore_12, e_iload_12, e_lload_9, g_8_34, e_lload_7, e_lmul, k_1, e_fadd_0, e_fadd_1, e_fadd_2, e_fadd_3, e_fadd_4, e_ladd, e_icmp_le, e_lload_5, e_iinc_11, g_3_34, is_38, is_39, g_4_34, e_ret, eq_self, oI_n, oI_s, not_true_eq_false, not_false_eq_true, if_true, if_false, true_or, or_true, false_or, or_false, true_and, and_true, false_and, and_false, and_self, or_self, reduceIte, Bool.false_eq_true, i10, i01, ge_n, hj, hp, ge_s hp, hq, ge_s hq]
    obtain ⟨v', hl⟩ := loop_upj (fun i v => ev E 50 (am_B 50 (Int.toNat 54)) [.ref 34, .int (nI j), .int (nI p), .int (nI q), .int (mi 36 j), .long (Int64.ofInt (lef (cP mi j) (some (cP mi p)))), am_dm, .long (Int64.ofInt (rig (cP mi j) (some (cP mi q)))), am_dm, .long (Int64.ofInt (sumI (fun n => wT (cTh mi n) (cY mi n) (cA mi n) (cP mi j) (some (cP mi p)) (some (cP mi q))) i)), am_dm, .int (nI i), v] [] (HH mi ml)) 0 5 (fun i v _ hi => by
      by_cases h1 : mi 40 i = 0
      · refine ⟨v, hd b_50_54 ?_⟩
        have ht : wT (cTh mi i) (cY mi i) (cA mi i) (cP mi j) (some (cP mi p)) (some (cP mi q)) = 0 := by simp [wT, cTh, h1]
        simp only [b_50_e, b_50_16, b_50_26, b_50_36, b_50_46, b_50_73, b_50_110, b_50_123, b_50_131, b_50_159, b_50_172, b_50_180, b_50_199, b_50_205, e_aloadr_0, g_1_34, e_iload_1, il_2, il_5, il_33, il_35, il_36, il_41, il_42, il_tp, il_ta, il_sc, il_po, ik_2_0, ik_2_1, ik_2_2, ik_2_3, ik_2_4, e_istore_4, e_kpi, e_kpr, e_kpl, e_kpd, e_iload_2, e_if_ge, kl_1, e_goto, e_iload_4, e_isub, e_i2l, e_jsr, e_lstore_5, e_iload_3, e_lstore_7, kl_0, e_lstore_9, k_0, e_istore_11, e_iload_11, k_5, e_icmp_ge, g_6_34, il_37, il_40, e_if_ne, g_7_34, e_istore_12, e_iload_12, e_lload_9, g_8_34, e_lload_7, e_lmul, k_1, e_fadd_0, e_fadd_1, e_fadd_2, e_fadd_3, e_fadd_4, e_ladd, e_icmp_le, e_lload_5, e_iinc_11, g_3_34, is_38, is_39, g_4_34, e_ret, eq_self, hi, le5 hi, not_true_eq_false, not_false_eq_true, if_true, if_false, true_or, or_true, false_or, or_false, true_and, and_true, false_and, and_false, and_self, or_self, reduceIte, Bool.false_eq_true, i10, i01, h1, e_inc1, sumI, ht, Int.add_zero]
      · refine ⟨.int (mi 41 i), hd b_50_54 ?_⟩
        have hc : cTh mi i = true := by simp [cTh, h1]
        have hyi := hy i hi hc
        by_cases h2 : mi 36 j ≤ mi 41 i
        · by_cases h3 : mi 41 i ≤ mi 36 j
          · have ht : wT (cTh mi i) (cY mi i) (cA mi i) (cP mi j) (some (cP mi p)) (some (cP mi q)) = (mi 42 i).toInt * lef (cP mi j) (some (cP mi p)) * rig (cP mi j) (some (cP mi q)) := by
              rw [Int32.le_iff_toInt_le] at h2 h3
              unfold wT
              rw [if_pos hc, if_neg (by unfold cY cP; omega), if_neg (by unfold cY cP; omega)]
              rfl
            simp only [b_50_e, b_50_16, b_50_26, b_50_36, b_50_46, b_50_73, b_50_110, b_50_123, b_50_131, b_50_159, b_50_172, b_50_180, b_50_199, b_50_205, e_aloadr_0, g_1_34, e_iload_1, il_2, il_5, il_33, il_35, il_36, il_41, il_42, il_tp, il_ta, il_sc, il_po, ik_2_0, ik_2_1, ik_2_2, ik_2_3, ik_2_4, e_istore_4, e_kpi, e_kpr, e_kpl, e_kpd, e_iload_2, e_if_ge, kl_1, e_goto, e_iload_4, e_isub, e_i2l, e_jsr, e_lstore_5, e_iload_3, e_lstore_7, kl_0, e_lstore_9, k_0, e_istore_11, e_iload_11, k_5, e_icmp_ge, g_6_34, il_37, il_40, e_if_ne, g_7_34, e_istore_12, e_iload_12, e_lload_9, g_8_34, e_lload_7, e_lmul, k_1, e_fadd_0, e_fadd_1, e_fadd_2, e_fadd_3, e_fadd_4, e_ladd, e_icmp_le, e_lload_5, e_iinc_11, g_3_34, is_38, is_39, g_4_34, e_ret, eq_self, hi, le5 hi, not_true_eq_false, not_false_eq_true, if_true, if_false, true_or, or_true, false_or, or_false, true_and, and_true, false_and, and_false, and_self, or_self, reduceIte, Bool.false_eq_true, i10, i01, h1, h2, h3, e_inc1, sumI, ht, ge_n, hj, hp, ge_s hp, hq, ge_s hq, Int64.ofInt_add, Int64.ofInt_mul, i64_of]
          · have ht : wT (cTh mi i) (cY mi i) (cA mi i) (cP mi j) (some (cP mi p)) (some (cP mi q)) = (mi 42 i).toInt * lef (cP mi j) (some (cP mi p)) * max 0 ((mi 36 q).toInt - (mi 41 i).toInt) := by
              rw [Int32.le_iff_toInt_le] at h2 h3
              unfold wT
              rw [if_pos hc, if_neg (by unfold cY cP; omega), if_pos (by unfold cY cP; omega)]
              rfl
            simp only [b_50_e, b_50_16, b_50_26, b_50_36, b_50_46, b_50_73, b_50_110, b_50_123, b_50_131, b_50_159, b_50_172, b_50_180, b_50_199, b_50_205, e_aloadr_0, g_1_34, e_iload_1, il_2, il_5, il_33, il_35, il_36, il_41, il_42, il_tp, il_ta, il_sc, il_po, ik_2_0, ik_2_1, ik_2_2, ik_2_3, ik_2_4, e_istore_4, e_kpi, e_kpr, e_kpl, e_kpd, e_iload_2, e_if_ge, kl_1, e_goto, e_iload_4, e_isub, e_i2l, e_jsr, e_lstore_5, e_iload_3, e_lstore_7, kl_0, e_lstore_9, k_0, e_istore_11, e_iload_11, k_5, e_icmp_ge, g_6_34, il_37, il_40, e_if_ne, g_7_34, e_istore_12, e_iload_12, e_lload_9, g_8_34, e_lload_7, e_lmul, k_1, e_fadd_0, e_fadd_1, e_fadd_2, e_fadd_3, e_fadd_4, e_ladd, e_icmp_le, e_lload_5, e_iinc_11, g_3_34, is_38, is_39, g_4_34, e_ret, eq_self, hi, le5 hi, not_true_eq_false, not_false_eq_true, if_true, if_false, true_or, or_true, false_or, or_false, true_and, and_true, false_and, and_false, and_self, or_self, reduceIte, Bool.false_eq_true, i10, i01, h1, h2, h3, e_inc1, sumI, ht, ge_n, hj, hp, ge_s hp, hq, ge_s hq, Int64.ofInt_add, Int64.ofInt_mul, i64_of, i32max0, i32sub hqb hyi]
            try rfl
        · have ht : wT (cTh mi i) (cY mi i) (cA mi i) (cP mi j) (some (cP mi p)) (some (cP mi q)) = (mi 42 i).toInt * rig (cP mi j) (some (cP mi q)) * max 0 ((mi 41 i).toInt - (mi 36 p).toInt) := by
            rw [Int32.le_iff_toInt_le] at h2
            unfold wT
            rw [if_pos hc, if_pos (by unfold cY cP; omega)]
            rfl
          simp only [b_50_e, b_50_16, b_50_26, b_50_36, b_50_46, b_50_73, b_50_110, b_50_123, b_50_131, b_50_159, b_50_172, b_50_180, b_50_199, b_50_205, e_aloadr_0, g_1_34, e_iload_1, il_2, il_5, il_33, il_35, il_36, il_41, il_42, il_tp, il_ta, il_sc, il_po, ik_2_0, ik_2_1, ik_2_2, ik_2_3, ik_2_4, e_istore_4, e_kpi, e_kpr, e_kpl, e_kpd, e_iload_2, e_if_ge, kl_1, e_goto, e_iload_4, e_isub, e_i2l, e_jsr, e_lstore_5, e_iload_3, e_lstore_7, kl_0, e_lstore_9, k_0, e_istore_11, e_iload_11, k_5, e_icmp_ge, g_6_34, il_37, il_40, e_if_ne, g_7_34, e_istore_12, e_iload_12, e_lload_9, g_8_34, e_lload_7, e_lmul, k_1, e_fadd_0, e_fadd_1, e_fadd_2, e_fadd_3, e_fadd_4, e_ladd, e_icmp_le, e_lload_5, e_iinc_11, g_3_34, is_38, is_39, g_4_34, e_ret, eq_self, hi, le5 hi, not_true_eq_false, not_false_eq_true, if_true, if_false, true_or, or_true, false_or, or_false, true_and, and_true, false_and, and_false, and_self, or_self, reduceIte, Bool.false_eq_true, i10, i01, h1, h2, e_inc1, sumI, ht, ge_n, hj, hp, ge_s hp, hq, ge_s hq, Int64.ofInt_add, Int64.ofInt_mul, i64_of, i32max0, i32sub hyi hpb]
          try rfl) (by decide) am_dm
    have e1 : (mi 36 j - mi 36 p).toInt64 = Int64.ofInt (lef (cP mi j) (some (cP mi p))) := by rw [i64_of, i32sub ha hpb]; rfl
    have e2 : (mi 36 q - mi 36 j).toInt64 = Int64.ofInt (rig (cP mi j) (some (cP mi q))) := by rw [i64_of, i32sub hqb ha]; rfl
    rw [e1, e2, k0nI, show (0 : Int64) = Int64.ofInt (sumI (fun n => wT (cTh mi n) (cY mi n) (cA mi n) (cP mi j) (some (cP mi p)) (some (cP mi q))) 0) from rfl, hl]
    simp only [b_50_54, b_50_e, b_50_16, b_50_26, b_50_36, b_50_46, b_50_73, b_50_110, b_50_123, b_50_131, b_50_159, b_50_172, b_50_180, b_50_199, b_50_205, e_aloadr_0, g_1_34, e_iload_1, il_2, il_5, il_33, il_35, il_36, il_41, il_42, il_tp, il_ta, il_sc, il_po, ik_2_0, ik_2_1, ik_2_2, ik_2_3, ik_2_4, e_istore_4, e_kpi, e_kpr, e_kpl, e_kpd, e_iload_2, e_if_ge, kl_1, e_goto, e_iload_4, e_isub, e_i2l, e_jsr, e_lstore_5, e_iload_3, e_lstore_7, kl_0, e_lstore_9, k_0, e_istore_11, e_iload_11, k_5, e_icmp_ge, g_6_34, il_37, il_40, e_if_ne, g_7_34, e_istore_12, e_iload_12, e_lload_9, g_8_34, e_lload_7, e_lmul, k_1, e_fadd_0, e_fadd_1, e_fadd_2, e_fadd_3, e_fadd_4, e_ladd, e_icmp_le, e_lload_5, e_iinc_11, g_3_34, is_38, is_39, g_4_34, e_ret, eq_self, le55, hj, not_true_eq_false, not_false_eq_true, if_true, if_false, true_or, or_true, false_or, or_false, true_and, and_true, false_and, and_false, and_self, or_self, reduceIte, Bool.false_eq_true, i10, i01, Int64.ofInt_mul]
theorem cc_Circuit_weighOne_0 {M : Nat} {c : List Instr} {L : List Value} {j : Nat} {bf af : Option Nat} (hj : j < 5) (hbf : ∀ p, bf = some p → p < 5 ∧ bd (mi 36 p)) (haf : ∀ p, af = some p → p < 5 ∧ bd (mi 36 p)) (ha : bd (mi 36 j)) (hy : ∀ n, n < 5 → cTh mi n = true → bd (mi 41 n)) : ev E M (.invokevirtual 50 :: c) L (.int (oI af) :: .int (oI bf) :: .int (nI j) :: .ref 34 :: []) (HH mi ml) = ev E M c L [] (HH mi (am_up (am_up ml 38 j (Int64.ofInt (sumI (fun n => wT (cTh mi n) (cY mi n) (cA mi n) (cP mi j) (bf.map (cP mi)) (af.map (cP mi))) 5))) 39 j (Int64.ofInt (lef (cP mi j) (bf.map (cP mi)) * rig (cP mi j) (af.map (cP mi)))))) := e_inv (as := [.ref 34, .int (nI j), .int (oI bf), .int (oI af)]) (S := []) rfl rfl (Nat.le_of_ble_eq_true rfl) (rfl) (ct_Circuit_weighOne hj hbf haf ha hy)
theorem cc_Circuit_weighOne_1 {M : Nat} {c : List Instr} {L : List Value} {s0 : Value} {j : Nat} {bf af : Option Nat} (hj : j < 5) (hbf : ∀ p, bf = some p → p < 5 ∧ bd (mi 36 p)) (haf : ∀ p, af = some p → p < 5 ∧ bd (mi 36 p)) (ha : bd (mi 36 j)) (hy : ∀ n, n < 5 → cTh mi n = true → bd (mi 41 n)) : ev E M (.invokevirtual 50 :: c) L (.int (oI af) :: .int (oI bf) :: .int (nI j) :: .ref 34 :: [s0]) (HH mi ml) = ev E M c L [s0] (HH mi (am_up (am_up ml 38 j (Int64.ofInt (sumI (fun n => wT (cTh mi n) (cY mi n) (cA mi n) (cP mi j) (bf.map (cP mi)) (af.map (cP mi))) 5))) 39 j (Int64.ofInt (lef (cP mi j) (bf.map (cP mi)) * rig (cP mi j) (af.map (cP mi)))))) := e_inv (as := [.ref 34, .int (nI j), .int (oI bf), .int (oI af)]) (S := [s0]) rfl rfl (Nat.le_of_ble_eq_true rfl) (rfl) (ct_Circuit_weighOne hj hbf haf ha hy)
theorem cc_Circuit_weighOne_2 {M : Nat} {c : List Instr} {L : List Value} {s0 s1 : Value} {j : Nat} {bf af : Option Nat} (hj : j < 5) (hbf : ∀ p, bf = some p → p < 5 ∧ bd (mi 36 p)) (haf : ∀ p, af = some p → p < 5 ∧ bd (mi 36 p)) (ha : bd (mi 36 j)) (hy : ∀ n, n < 5 → cTh mi n = true → bd (mi 41 n)) : ev E M (.invokevirtual 50 :: c) L (.int (oI af) :: .int (oI bf) :: .int (nI j) :: .ref 34 :: [s0, s1]) (HH mi ml) = ev E M c L [s0, s1] (HH mi (am_up (am_up ml 38 j (Int64.ofInt (sumI (fun n => wT (cTh mi n) (cY mi n) (cA mi n) (cP mi j) (bf.map (cP mi)) (af.map (cP mi))) 5))) 39 j (Int64.ofInt (lef (cP mi j) (bf.map (cP mi)) * rig (cP mi j) (af.map (cP mi)))))) := e_inv (as := [.ref 34, .int (nI j), .int (oI bf), .int (oI af)]) (S := [s0, s1]) rfl rfl (Nat.le_of_ble_eq_true rfl) (rfl) (ct_Circuit_weighOne hj hbf haf ha hy)
theorem cc_Circuit_weighOne_3 {M : Nat} {c : List Instr} {L : List Value} {s0 s1 s2 : Value} {j : Nat} {bf af : Option Nat} (hj : j < 5) (hbf : ∀ p, bf = some p → p < 5 ∧ bd (mi 36 p)) (haf : ∀ p, af = some p → p < 5 ∧ bd (mi 36 p)) (ha : bd (mi 36 j)) (hy : ∀ n, n < 5 → cTh mi n = true → bd (mi 41 n)) : ev E M (.invokevirtual 50 :: c) L (.int (oI af) :: .int (oI bf) :: .int (nI j) :: .ref 34 :: [s0, s1, s2]) (HH mi ml) = ev E M c L [s0, s1, s2] (HH mi (am_up (am_up ml 38 j (Int64.ofInt (sumI (fun n => wT (cTh mi n) (cY mi n) (cA mi n) (cP mi j) (bf.map (cP mi)) (af.map (cP mi))) 5))) 39 j (Int64.ofInt (lef (cP mi j) (bf.map (cP mi)) * rig (cP mi j) (af.map (cP mi)))))) := e_inv (as := [.ref 34, .int (nI j), .int (oI bf), .int (oI af)]) (S := [s0, s1, s2]) rfl rfl (Nat.le_of_ble_eq_true rfl) (rfl) (ct_Circuit_weighOne hj hbf haf ha hy)
end Cl4
end
section
/-! WEIGH, AND WHO IS LEFT OUT -/
def fsti (c : Nat → Bool) : Nat → Nat → Option Nat
  | _, 0 => none
  | i, k + 1 => if c i = true then some i else fsti c (i + 1) k
theorem loop_fst {β : Type} (G : Nat → β) (c : Nat → Bool) (r : Nat → β) (n : Nat) (h : ∀ i, i < n → G i = if c i = true then r i else G (i + 1)) : ∀ k a, a + k = n → G a = match fsti c a k with
    | some i => r i
    | none => G n := by
  intro k
  induction k with
  | zero => intro a ha; simp only [fsti]; rw [show a = n by omega]
  | succ k ih =>
    intro a ha
    rw [h a (by omega), fsti]
    by_cases hc : c a = true
    · simp only [hc, if_true]
    · simp only [hc]
      exact ih (a + 1) (by omega)
theorem fsti_some {c : Nat → Bool} : ∀ {k a i : Nat}, fsti c a k = some i → a ≤ i ∧ i < a + k ∧ c i = true ∧ ∀ j, a ≤ j → j < i → c j = false := by
  intro k
  induction k with
  | zero => intro a i h; cases h
  | succ k ih =>
    intro a i h
    rw [fsti] at h
    by_cases hc : c a = true
    · rw [if_pos hc] at h
      cases h
      exact ⟨Nat.le_refl _, by omega, hc, fun j h1 h2 => by omega⟩
    · rw [if_neg hc] at h
      obtain ⟨h1, h2, h3, h4⟩ := ih h
      refine ⟨by omega, by omega, h3, fun j g1 g2 => ?_⟩
      by_cases hj : j = a
      · subst hj; simpa using hc
      · exact h4 j (by omega) g2
theorem fsti_none {c : Nat → Bool} : ∀ {k a : Nat}, fsti c a k = none → ∀ j, a ≤ j → j < a + k → c j = false := by
  intro k
  induction k with
  | zero => intro a h j h1 h2; omega
  | succ k ih =>
    intro a h j h1 h2
    rw [fsti] at h
    by_cases hc : c a = true
    · rw [if_pos hc] at h; cases h
    · rw [if_neg hc] at h
      by_cases hj : j = a
      · subst hj; simpa using hc
      · exact ih h j (by omega) (by omega)
/-- the last before i -/
def prvi (c : Nat → Bool) : Nat → Option Nat
  | 0 => none
  | i + 1 => if c i = true then some i else prvi c i
theorem prvi_some {c : Nat → Bool} : ∀ {i p : Nat}, prvi c i = some p → p < i ∧ c p = true ∧ ∀ j, p < j → j < i → c j = false := by
  intro i
  induction i with
  | zero => intro p h; cases h
  | succ i ih =>
    intro p h
    rw [prvi] at h
    by_cases hc : c i = true
    · rw [if_pos hc] at h
      cases h
      exact ⟨by omega, hc, fun j h1 h2 => by omega⟩
    · rw [if_neg hc] at h
      obtain ⟨h1, h2, h3⟩ := ih h
      refine ⟨by omega, h2, fun j g1 g2 => ?_⟩
      by_cases hj : j = i
      · subst hj; simpa using hc
      · exact h3 j g1 (by omega)
theorem prvi_none {c : Nat → Bool} : ∀ {i : Nat}, prvi c i = none → ∀ j, j < i → c j = false := by
  intro i
  induction i with
  | zero => intro h j hj; omega
  | succ i ih =>
    intro h j hj
    rw [prvi] at h
    by_cases hc : c i = true
    · rw [if_pos hc] at h; cases h
    · rw [if_neg hc] at h
      by_cases hji : j = i
      · subst hji; simpa using hc
      · exact ih h j (by omega)
def cF (mi : Nat → Nat → Int32) (n : Nat) : Bool := decide (¬ mi 37 n = 0)
def nxti (c : Nat → Bool) (m j : Nat) : Option Nat := fsti c (j + 1) (m - (j + 1))
/-- what j would give, with who feeds now -/
def gUp (mi : Nat → Nat → Int32) (m j : Nat) : Int := sumI (fun n => wT (cTh mi n) (cY mi n) (cA mi n) (cP mi j) ((prvi (cF mi) j).map (cP mi)) ((nxti (cF mi) m j).map (cP mi))) 5
def gDn (mi : Nat → Nat → Int32) (m j : Nat) : Int := lef (cP mi j) ((prvi (cF mi) j).map (cP mi)) * rig (cP mi j) ((nxti (cF mi) m j).map (cP mi))
def wgh (mi : Nat → Nat → Int32) (ml : Nat → Nat → Int64) (m i : Nat) : Nat → Nat → Int64 := fun a b => if a = 38 ∧ b < i ∧ cF mi b = true then Int64.ofInt (gUp mi m b) else if a = 39 ∧ b < i ∧ cF mi b = true then Int64.ofInt (gDn mi m b) else ml a b
def lot (mi : Nat → Nat → Int32) (ml : Nat → Nat → Int64) (i : Nat) : Nat → Nat → Int32 := fun a b => if a = 37 ∧ b < i ∧ cF mi b = true ∧ ml 38 b < 0 then 0 else mi a b
def lotB (mi : Nat → Nat → Int32) (ml : Nat → Nat → Int64) : Nat → Bool
  | 0 => false
  | i + 1 => lotB mi ml i || (cF mi i && decide (ml 38 i < 0))
section Cl5
variable {E : aE} {mi : Nat → Nat → Int32} {ml : Nat → Nat → Int64}
theorem ct_Circuit_nextFeeding {j m : Nat} (hm : mi 34 5 = nI m) (hm5 : m ≤ 5) (hj : j < m) : ev E 49 (am_B 49 0) [.ref 34, .int (nI j), am_dm] [] (HH mi ml) = some (some (.int (oI (nxti (cF mi) m j))), HH mi ml) := by
  simp only [b_49_e, b_49_23, b_49_29, e_iload_1, k_1, e_iadd, e_istore_2, e_kpi, e_kpr, e_kpl, e_kpd, e_jsr, e_iload_2, e_aloadr_0, g_5_34, e_icmp_ge, g_2_34, il_37, il_40, e_if_eq, e_iret, e_iinc_2, e_goto, k_m1, eq_self, nI_1]
  have hl := loop_fst (fun i => ev E 49 (am_B 49 (Int.toNat 4)) [.ref 34, .int (nI j), .int (nI i)] [] (HH mi ml)) (cF mi) (fun i => some (some (.int (nI i)), HH mi ml)) m (fun i hi => by
    refine hd b_49_4 ?_
    have hi5 : i < 5 := by omega
    by_cases h1 : mi 37 i = 0
    · simp only [b_49_e, b_49_23, b_49_29, e_iload_1, k_1, e_iadd, e_istore_2, e_kpi, e_kpr, e_kpl, e_kpd, e_jsr, e_iload_2, e_aloadr_0, g_5_34, e_icmp_ge, g_2_34, il_37, il_40, e_if_eq, e_iret, e_iinc_2, e_goto, k_m1, eq_self, hm, lec (show m < 1000 by omega) hi, hi5, h1, not_true_eq_false, not_false_eq_true, if_true, if_false, true_or, or_true, false_or, or_false, true_and, and_true, false_and, and_false, and_self, or_self, reduceIte, Bool.false_eq_true, i10, i01, e_inc1, cF, decide_false, Bool.false_eq_true]
    · simp only [b_49_e, b_49_23, b_49_29, e_iload_1, k_1, e_iadd, e_istore_2, e_kpi, e_kpr, e_kpl, e_kpd, e_jsr, e_iload_2, e_aloadr_0, g_5_34, e_icmp_ge, g_2_34, il_37, il_40, e_if_eq, e_iret, e_iinc_2, e_goto, k_m1, eq_self, hm, lec (show m < 1000 by omega) hi, hi5, h1, not_true_eq_false, not_false_eq_true, if_true, if_false, true_or, or_true, false_or, or_false, true_and, and_true, false_and, and_false, and_self, or_self, reduceIte, Bool.false_eq_true, i10, i01, e_inc1, cF, decide_true]) (m - (j + 1)) (j + 1) (by omega)
  rw [hl]
  unfold nxti
  cases fsti (cF mi) (j + 1) (m - (j + 1)) with
  | some i => rfl
  | none => simp only [b_49_4, b_49_e, b_49_23, b_49_29, e_iload_1, k_1, e_iadd, e_istore_2, e_kpi, e_kpr, e_kpl, e_kpd, e_jsr, e_iload_2, e_aloadr_0, g_5_34, e_icmp_ge, g_2_34, il_37, il_40, e_if_eq, e_iret, e_iinc_2, e_goto, k_m1, eq_self, hm, lecc, not_true_eq_false, not_false_eq_true, if_true, if_false, true_or, or_true, false_or, or_false, true_and, and_true, false_and, and_false, and_self, or_self, reduceIte, Bool.false_eq_true, i10, i01, oI_n]
theorem cc_Circuit_nextFeeding_0 {M : Nat} {c : List Instr} {L : List Value} {j m : Nat} (hm : mi 34 5 = nI m) (hm5 : m ≤ 5) (hj : j < m) : ev E M (.invokevirtual 49 :: c) L (.int (nI j) :: .ref 34 :: []) (HH mi ml) = ev E M c L (.int (oI (nxti (cF mi) m j)) :: []) (HH mi ml) := e_inv (as := [.ref 34, .int (nI j)]) (S := []) rfl rfl (Nat.le_of_ble_eq_true rfl) (rfl) (ct_Circuit_nextFeeding hm hm5 hj)
theorem cc_Circuit_nextFeeding_1 {M : Nat} {c : List Instr} {L : List Value} {s0 : Value} {j m : Nat} (hm : mi 34 5 = nI m) (hm5 : m ≤ 5) (hj : j < m) : ev E M (.invokevirtual 49 :: c) L (.int (nI j) :: .ref 34 :: [s0]) (HH mi ml) = ev E M c L (.int (oI (nxti (cF mi) m j)) :: [s0]) (HH mi ml) := e_inv (as := [.ref 34, .int (nI j)]) (S := [s0]) rfl rfl (Nat.le_of_ble_eq_true rfl) (rfl) (ct_Circuit_nextFeeding hm hm5 hj)
theorem cc_Circuit_nextFeeding_2 {M : Nat} {c : List Instr} {L : List Value} {s0 s1 : Value} {j m : Nat} (hm : mi 34 5 = nI m) (hm5 : m ≤ 5) (hj : j < m) : ev E M (.invokevirtual 49 :: c) L (.int (nI j) :: .ref 34 :: [s0, s1]) (HH mi ml) = ev E M c L (.int (oI (nxti (cF mi) m j)) :: [s0, s1]) (HH mi ml) := e_inv (as := [.ref 34, .int (nI j)]) (S := [s0, s1]) rfl rfl (Nat.le_of_ble_eq_true rfl) (rfl) (ct_Circuit_nextFeeding hm hm5 hj)
theorem cc_Circuit_nextFeeding_3 {M : Nat} {c : List Instr} {L : List Value} {s0 s1 s2 : Value} {j m : Nat} (hm : mi 34 5 = nI m) (hm5 : m ≤ 5) (hj : j < m) : ev E M (.invokevirtual 49 :: c) L (.int (nI j) :: .ref 34 :: [s0, s1, s2]) (HH mi ml) = ev E M c L (.int (oI (nxti (cF mi) m j)) :: [s0, s1, s2]) (HH mi ml) := e_inv (as := [.ref 34, .int (nI j)]) (S := [s0, s1, s2]) rfl rfl (Nat.le_of_ble_eq_true rfl) (rfl) (ct_Circuit_nextFeeding hm hm5 hj)
theorem ct_Circuit_weigh {m : Nat} (hm : mi 34 5 = nI m) (hm5 : m ≤ 5) (hp : ∀ n, n < m → bd (mi 36 n)) (hy : ∀ n, n < 5 → cTh mi n = true → bd (mi 41 n)) : ev E 48 (am_B 48 0) [.ref 34, am_dm, am_dm] [] (HH mi ml) = some (none, HH mi (wgh mi ml m m)) := by
  simp only [b_48_e, b_48_34, b_48_40, k_m1, e_istore_1, e_kpi, e_kpr, e_kpl, e_kpd, k_0, e_istore_2, e_jsr, e_iload_2, e_aloadr_0, g_5_34, e_icmp_ge, g_2_34, il_37, il_40, e_if_eq, e_iload_1, cc_Circuit_nextFeeding_0, cc_Circuit_nextFeeding_1, cc_Circuit_nextFeeding_2, cc_Circuit_nextFeeding_3, Option.toList_some, Option.toList_none, List.cons_append, List.nil_append, cc_Circuit_weighOne_0, cc_Circuit_weighOne_1, cc_Circuit_weighOne_2, cc_Circuit_weighOne_3, e_iinc_2, e_goto, e_ret, eq_self]
  have hl := loop_up (fun i => ev E 48 (am_B 48 (Int.toNat 4)) [.ref 34, .int (oI (prvi (cF mi) i)), .int (nI i)] [] (HH mi (wgh mi ml m i))) 0 m (fun i _ hi => by
    refine hd b_48_4 ?_
    have hi5 : i < 5 := by omega
    by_cases h1 : mi 37 i = 0
    · have e1 : prvi (cF mi) (i + 1) = prvi (cF mi) i := by rw [prvi, if_neg (by simp [cF, h1])]
      have e2 : wgh mi ml m (i + 1) = wgh mi ml m i := by
        have hc : cF mi i = false := by simp [cF, h1]
        funext a b
        unfold wgh
        by_cases hb : b = i
        · subst hb; simp [hc]
        · have : (b < i + 1) = (b < i) := propext ⟨fun q => by omega, fun q => by omega⟩
          simp only [this]
      rw [e1, e2]
      simp only [b_48_e, b_48_34, b_48_40, k_m1, e_istore_1, e_kpi, e_kpr, e_kpl, e_kpd, k_0, e_istore_2, e_jsr, e_iload_2, e_aloadr_0, g_5_34, e_icmp_ge, g_2_34, il_37, il_40, e_if_eq, e_iload_1, cc_Circuit_nextFeeding_0, cc_Circuit_nextFeeding_1, cc_Circuit_nextFeeding_2, cc_Circuit_nextFeeding_3, Option.toList_some, Option.toList_none, List.cons_append, List.nil_append, cc_Circuit_weighOne_0, cc_Circuit_weighOne_1, cc_Circuit_weighOne_2, cc_Circuit_weighOne_3, e_iinc_2, e_goto, e_ret, eq_self, hm, lec (show m < 1000 by omega) hi, hi5, h1, not_true_eq_false, not_false_eq_true, if_true, if_false, true_or, or_true, false_or, or_false, true_and, and_true, false_and, and_false, and_self, or_self, reduceIte, Bool.false_eq_true, i10, i01, e_inc1]
    · have hc : cF mi i = true := by simp [cF, h1]
      have e1 : prvi (cF mi) (i + 1) = some i := by rw [prvi, if_pos hc]
      have e2 : wgh mi ml m (i + 1) = am_up (am_up (wgh mi ml m i) 38 i (Int64.ofInt (gUp mi m i))) 39 i (Int64.ofInt (gDn mi m i)) := by
        funext a b
        simp only [am_upa, wgh]
        by_cases hb : b = i
        · subst hb
          by_cases ha : a = 38
          · simp [ha, hc]
          · by_cases ha2 : a = 39
            · simp [ha2, hc]
            · simp [ha, ha2]
        · have : (b < i + 1) = (b < i) := propext ⟨fun q => by omega, fun q => by omega⟩
          simp only [this, hb, and_false, if_false]
      rw [e1, e2]
      have hbf : ∀ p, prvi (cF mi) i = some p → p < 5 ∧ bd (mi 36 p) := fun p q => by
        have := prvi_some q
        exact ⟨by omega, hp p (by omega)⟩
      have haf : ∀ p, nxti (cF mi) m i = some p → p < 5 ∧ bd (mi 36 p) := fun p q => by
        have := fsti_some q
        exact ⟨by omega, hp p (by omega)⟩
      simp only [b_48_e, b_48_34, b_48_40, k_m1, e_istore_1, e_kpi, e_kpr, e_kpl, e_kpd, k_0, e_istore_2, e_jsr, e_iload_2, e_aloadr_0, g_5_34, e_icmp_ge, g_2_34, il_37, il_40, e_if_eq, e_iload_1, cc_Circuit_nextFeeding_0, cc_Circuit_nextFeeding_1, cc_Circuit_nextFeeding_2, cc_Circuit_nextFeeding_3, Option.toList_some, Option.toList_none, List.cons_append, List.nil_append, cc_Circuit_weighOne_0, cc_Circuit_weighOne_1, cc_Circuit_weighOne_2, cc_Circuit_weighOne_3, e_iinc_2, e_goto, e_ret, eq_self, hm, lec (show m < 1000 by omega) hi, hi5, h1, not_true_eq_false, not_false_eq_true, if_true, if_false, true_or, or_true, false_or, or_false, true_and, and_true, false_and, and_false, and_self, or_self, reduceIte, Bool.false_eq_true, i10, i01, e_inc1, cc_Circuit_nextFeeding_3 hm hm5 hi, cc_Circuit_weighOne_0 hi5 hbf haf (hp i hi) hy, oI_s]
      rfl) (by omega)
  have h0 : wgh mi ml m 0 = ml := by funext a b; simp [wgh]
  rw [h0] at hl
  rw [k0nI]
  refine Eq.trans (show _ = _ from hl) ?_
  simp only [b_48_4, b_48_e, b_48_34, b_48_40, k_m1, e_istore_1, e_kpi, e_kpr, e_kpl, e_kpd, k_0, e_istore_2, e_jsr, e_iload_2, e_aloadr_0, g_5_34, e_icmp_ge, g_2_34, il_37, il_40, e_if_eq, e_iload_1, cc_Circuit_nextFeeding_0, cc_Circuit_nextFeeding_1, cc_Circuit_nextFeeding_2, cc_Circuit_nextFeeding_3, Option.toList_some, Option.toList_none, List.cons_append, List.nil_append, cc_Circuit_weighOne_0, cc_Circuit_weighOne_1, cc_Circuit_weighOne_2, cc_Circuit_weighOne_3, e_iinc_2, e_goto, e_ret, eq_self, hm, lecc, not_true_eq_false, not_false_eq_true, if_true, if_false, true_or, or_true, false_or, or_false, true_and, and_true, false_and, and_false, and_self, or_self, reduceIte, Bool.false_eq_true, i10, i01]
theorem cc_Circuit_weigh_0 {M : Nat} {c : List Instr} {L : List Value} {m : Nat} (hm : mi 34 5 = nI m) (hm5 : m ≤ 5) (hp : ∀ n, n < m → bd (mi 36 n)) (hy : ∀ n, n < 5 → cTh mi n = true → bd (mi 41 n)) : ev E M (.invokevirtual 48 :: c) L (.ref 34 :: []) (HH mi ml) = ev E M c L [] (HH mi (wgh mi ml m m)) := e_inv (as := [.ref 34]) (S := []) rfl rfl (Nat.le_of_ble_eq_true rfl) (rfl) (ct_Circuit_weigh hm hm5 hp hy)
theorem cc_Circuit_weigh_1 {M : Nat} {c : List Instr} {L : List Value} {s0 : Value} {m : Nat} (hm : mi 34 5 = nI m) (hm5 : m ≤ 5) (hp : ∀ n, n < m → bd (mi 36 n)) (hy : ∀ n, n < 5 → cTh mi n = true → bd (mi 41 n)) : ev E M (.invokevirtual 48 :: c) L (.ref 34 :: [s0]) (HH mi ml) = ev E M c L [s0] (HH mi (wgh mi ml m m)) := e_inv (as := [.ref 34]) (S := [s0]) rfl rfl (Nat.le_of_ble_eq_true rfl) (rfl) (ct_Circuit_weigh hm hm5 hp hy)
theorem cc_Circuit_weigh_2 {M : Nat} {c : List Instr} {L : List Value} {s0 s1 : Value} {m : Nat} (hm : mi 34 5 = nI m) (hm5 : m ≤ 5) (hp : ∀ n, n < m → bd (mi 36 n)) (hy : ∀ n, n < 5 → cTh mi n = true → bd (mi 41 n)) : ev E M (.invokevirtual 48 :: c) L (.ref 34 :: [s0, s1]) (HH mi ml) = ev E M c L [s0, s1] (HH mi (wgh mi ml m m)) := e_inv (as := [.ref 34]) (S := [s0, s1]) rfl rfl (Nat.le_of_ble_eq_true rfl) (rfl) (ct_Circuit_weigh hm hm5 hp hy)
theorem cc_Circuit_weigh_3 {M : Nat} {c : List Instr} {L : List Value} {s0 s1 s2 : Value} {m : Nat} (hm : mi 34 5 = nI m) (hm5 : m ≤ 5) (hp : ∀ n, n < m → bd (mi 36 n)) (hy : ∀ n, n < 5 → cTh mi n = true → bd (mi 41 n)) : ev E M (.invokevirtual 48 :: c) L (.ref 34 :: [s0, s1, s2]) (HH mi ml) = ev E M c L [s0, s1, s2] (HH mi (wgh mi ml m m)) := e_inv (as := [.ref 34]) (S := [s0, s1, s2]) rfl rfl (Nat.le_of_ble_eq_true rfl) (rfl) (ct_Circuit_weigh hm hm5 hp hy)
theorem ct_Circuit_leaveOutTaking {m : Nat} (hm : mi 34 5 = nI m) (hm5 : m ≤ 5) : ev E 51 (am_B 51 0) [.ref 34, am_dm, am_dm] [] (HH mi ml) = some (some (.int (if lotB mi ml m = true then 1 else 0)), HH (lot mi ml m) ml) := by
  simp only [b_51_e, b_51_41, b_51_47, k_0, e_istore_1, e_kpi, e_kpr, e_kpl, e_kpd, e_istore_2, e_jsr, e_iload_2, e_aloadr_0, g_5_34, e_icmp_ge, g_2_34, il_37, il_40, e_if_eq, g_3_34, il_38, il_39, kl_0, e_lcmp, e_if_ge, is_37, is_40, k_1, e_iinc_2, e_goto, e_iload_1, e_zret0, e_zret1, eq_self]
  have hl := loop_up (fun i => ev E 51 (am_B 51 (Int.toNat 4)) [.ref 34, .int (if lotB mi ml i = true then 1 else 0), .int (nI i)] [] (HH (lot mi ml i) ml)) 0 m (fun i _ hi => by
    refine hd b_51_4 ?_
    have hi5 : i < 5 := by omega
    have hm' : lot mi ml i 34 5 = nI m := by rw [← hm]; simp [lot]
    have hf' : lot mi ml i 37 i = mi 37 i := by simp [lot]
    have hno : cF mi i = false ∨ ¬ ml 38 i < 0 → lot mi ml (i + 1) = lot mi ml i ∧ lotB mi ml (i + 1) = lotB mi ml i := by
      intro hq
      constructor
      · funext a b
        unfold lot
        by_cases hb : b = i
        · subst hb
          rcases hq with hq | hq <;> simp [hq]
        · have : (b < i + 1) = (b < i) := propext ⟨fun q => by omega, fun q => by omega⟩
          simp only [this]
      · rw [lotB]
        rcases hq with hq | hq <;> simp [hq]
    by_cases h1 : mi 37 i = 0
    · obtain ⟨e1, e2⟩ := hno (Or.inl (by simp [cF, h1]))
      rw [e1, e2]
      simp only [b_51_e, b_51_41, b_51_47, k_0, e_istore_1, e_kpi, e_kpr, e_kpl, e_kpd, e_istore_2, e_jsr, e_iload_2, e_aloadr_0, g_5_34, e_icmp_ge, g_2_34, il_37, il_40, e_if_eq, g_3_34, il_38, il_39, kl_0, e_lcmp, e_if_ge, is_37, is_40, k_1, e_iinc_2, e_goto, e_iload_1, e_zret0, e_zret1, eq_self, hm', hf', lec (show m < 1000 by omega) hi, hi5, h1, not_true_eq_false, not_false_eq_true, if_true, if_false, true_or, or_true, false_or, or_false, true_and, and_true, false_and, and_false, and_self, or_self, reduceIte, Bool.false_eq_true, i10, i01, e_inc1]
    · by_cases h2 : (0 : Int64) ≤ ml 38 i
      · obtain ⟨e1, e2⟩ := hno (Or.inr (Int64.not_lt.mpr h2))
        rw [e1, e2]
        simp only [b_51_e, b_51_41, b_51_47, k_0, e_istore_1, e_kpi, e_kpr, e_kpl, e_kpd, e_istore_2, e_jsr, e_iload_2, e_aloadr_0, g_5_34, e_icmp_ge, g_2_34, il_37, il_40, e_if_eq, g_3_34, il_38, il_39, kl_0, e_lcmp, e_if_ge, is_37, is_40, k_1, e_iinc_2, e_goto, e_iload_1, e_zret0, e_zret1, eq_self, hm', hf', lec (show m < 1000 by omega) hi, hi5, h1, h2, lg_cmp_ge, not_true_eq_false, not_false_eq_true, if_true, if_false, true_or, or_true, false_or, or_false, true_and, and_true, false_and, and_false, and_self, or_self, reduceIte, Bool.false_eq_true, i10, i01, e_inc1]
      · have h2' : ml 38 i < 0 := Int64.not_le.mp h2
        have hc : cF mi i = true := by simp [cF, h1]
        have e1 : lot mi ml (i + 1) = am_up (lot mi ml i) 37 i 0 := by
          funext a b
          simp only [am_upa, lot]
          by_cases hb : b = i
          · subst hb
            by_cases ha : a = 37 <;> simp [ha, hc, h2']
          · have : (b < i + 1) = (b < i) := propext ⟨fun q => by omega, fun q => by omega⟩
            simp only [this, hb, and_false, if_false]
        have e2 : lotB mi ml (i + 1) = true := by rw [lotB]; simp [hc, h2']
        rw [e1, e2]
        simp only [b_51_e, b_51_41, b_51_47, k_0, e_istore_1, e_kpi, e_kpr, e_kpl, e_kpd, e_istore_2, e_jsr, e_iload_2, e_aloadr_0, g_5_34, e_icmp_ge, g_2_34, il_37, il_40, e_if_eq, g_3_34, il_38, il_39, kl_0, e_lcmp, e_if_ge, is_37, is_40, k_1, e_iinc_2, e_goto, e_iload_1, e_zret0, e_zret1, eq_self, hm', hf', lec (show m < 1000 by omega) hi, hi5, h1, h2, lg_cmp_ge, not_true_eq_false, not_false_eq_true, if_true, if_false, true_or, or_true, false_or, or_false, true_and, and_true, false_and, and_false, and_self, or_self, reduceIte, Bool.false_eq_true, i10, i01, e_inc1]) (by omega)
  have h0 : lot mi ml 0 = mi := by funext a b; simp [lot]
  rw [h0] at hl
  refine Eq.trans (show _ = _ from hl) ?_
  have hm' : lot mi ml m 34 5 = nI m := by rw [← hm]; simp [lot]
  simp only [b_51_4, b_51_e, b_51_41, b_51_47, k_0, e_istore_1, e_kpi, e_kpr, e_kpl, e_kpd, e_istore_2, e_jsr, e_iload_2, e_aloadr_0, g_5_34, e_icmp_ge, g_2_34, il_37, il_40, e_if_eq, g_3_34, il_38, il_39, kl_0, e_lcmp, e_if_ge, is_37, is_40, k_1, e_iinc_2, e_goto, e_iload_1, e_zret0, e_zret1, eq_self, hm', lecc, not_true_eq_false, not_false_eq_true, if_true, if_false, true_or, or_true, false_or, or_false, true_and, and_true, false_and, and_false, and_self, or_self, reduceIte, Bool.false_eq_true, i10, i01, e_zret bzo]
theorem cc_Circuit_leaveOutTaking_0 {M : Nat} {c : List Instr} {L : List Value} {m : Nat} (hm : mi 34 5 = nI m) (hm5 : m ≤ 5) : ev E M (.invokevirtual 51 :: c) L (.ref 34 :: []) (HH mi ml) = ev E M c L (.int (if lotB mi ml m = true then 1 else 0) :: []) (HH (lot mi ml m) ml) := e_inv (as := [.ref 34]) (S := []) rfl rfl (Nat.le_of_ble_eq_true rfl) (rfl) (ct_Circuit_leaveOutTaking hm hm5)
theorem cc_Circuit_leaveOutTaking_1 {M : Nat} {c : List Instr} {L : List Value} {s0 : Value} {m : Nat} (hm : mi 34 5 = nI m) (hm5 : m ≤ 5) : ev E M (.invokevirtual 51 :: c) L (.ref 34 :: [s0]) (HH mi ml) = ev E M c L (.int (if lotB mi ml m = true then 1 else 0) :: [s0]) (HH (lot mi ml m) ml) := e_inv (as := [.ref 34]) (S := [s0]) rfl rfl (Nat.le_of_ble_eq_true rfl) (rfl) (ct_Circuit_leaveOutTaking hm hm5)
theorem cc_Circuit_leaveOutTaking_2 {M : Nat} {c : List Instr} {L : List Value} {s0 s1 : Value} {m : Nat} (hm : mi 34 5 = nI m) (hm5 : m ≤ 5) : ev E M (.invokevirtual 51 :: c) L (.ref 34 :: [s0, s1]) (HH mi ml) = ev E M c L (.int (if lotB mi ml m = true then 1 else 0) :: [s0, s1]) (HH (lot mi ml m) ml) := e_inv (as := [.ref 34]) (S := [s0, s1]) rfl rfl (Nat.le_of_ble_eq_true rfl) (rfl) (ct_Circuit_leaveOutTaking hm hm5)
theorem cc_Circuit_leaveOutTaking_3 {M : Nat} {c : List Instr} {L : List Value} {s0 s1 s2 : Value} {m : Nat} (hm : mi 34 5 = nI m) (hm5 : m ≤ 5) : ev E M (.invokevirtual 51 :: c) L (.ref 34 :: [s0, s1, s2]) (HH mi ml) = ev E M c L (.int (if lotB mi ml m = true then 1 else 0) :: [s0, s1, s2]) (HH (lot mi ml m) ml) := e_inv (as := [.ref 34]) (S := [s0, s1, s2]) rfl rfl (Nat.le_of_ble_eq_true rfl) (rfl) (ct_Circuit_leaveOutTaking hm hm5)
end Cl5
end
section
/-! THOSE THAT GIVE NOTHING -/
def sgB (mi : Nat → Nat → Int32) (ml : Nat → Nat → Int64) : Nat → Bool
  | 0 => false
  | i + 1 => sgB mi ml i || (cF mi i && decide (0 < ml 38 i))
def frN (mi : Nat → Nat → Int32) : Nat → Option Nat
  | 0 => none
  | i + 1 => if cF mi i = true then (match frN mi i with
    | none => some i
    | some f => if mi 35 f ≤ mi 35 i then some f else some i) else frN mi i
theorem frN_lt {mi : Nat → Nat → Int32} : ∀ {i f : Nat}, frN mi i = some f → f < i := by
  intro i
  induction i with
  | zero => intro f h; cases h
  | succ i ih =>
    intro f h
    rw [frN] at h
    split at h
    · split at h
      · cases h; omega
      · rename_i g hg
        have := ih hg
        split at h <;> cases h <;> omega
    · have := ih h; omega
def loi (mi : Nat → Nat → Int32) (ml : Nat → Nat → Int64) (m i : Nat) : Nat → Nat → Int32 := fun a b => if a = 37 ∧ b < i ∧ ml 38 b = 0 ∧ (sgB mi ml m = true ∨ ¬ frN mi m = some b) then 0 else mi a b
theorem lt_nN : ((-1 : Int32) < 0) = True := by decide +kernel
theorem lt_sN {p : Nat} (h : p < 5) : (nI p < (0 : Int32)) = False := eq_false (nI_pos (by omega))
theorem oI_eq {o : Option Nat} {i : Nat} (hi : i < 5) (ho : ∀ f, o = some f → f < 5) : (nI i = oI o) = (o = some i) := by
  cases o with
  | none =>
    refine propext ⟨fun h => ?_, fun h => by cases h⟩
    exfalso
    have := congrArg Int32.toInt h
    rw [nI_toInt (by omega)] at this
    have h1 : (oI none).toInt = -1 := rfl
    omega
  | some f =>
    have hf := ho f rfl
    rw [oI_s]
    refine propext ⟨fun h => ?_, fun h => by cases h; rfl⟩
    have := (nI_eq (by omega) (by omega)).mp h
    rw [this]
section Cl6
variable {E : aE} {mi : Nat → Nat → Int32} {ml : Nat → Nat → Int64}
theorem ct_Circuit_leaveOutIdle {m : Nat} (hm : mi 34 5 = nI m) (hm5 : m ≤ 5) : ev E 52 (am_B 52 0) [.ref 34, am_dm, am_dm, am_dm] [] (HH mi ml) = some (none, HH (loi mi ml m m) ml) := by
  simp only [b_52_e, b_52_38, b_52_42, b_52_43, b_52_63, b_52_65, b_52_71, b_52_101, b_52_108, b_52_114, k_m1, e_istore_1, e_kpi, e_kpr, e_kpl, e_kpd, k_0, e_istore_2, e_istore_3, e_jsr, e_iload_3, e_aloadr_0, g_5_34, e_icmp_ge, g_2_34, il_37, il_40, e_if_eq, e_iload_2, e_if_ne, g_3_34, il_38, il_39, kl_0, e_lcmp, e_if_le, k_1, e_goto, e_iload_1, e_if_lt, g_0_34, il_2, il_5, il_33, il_35, il_36, il_41, il_42, il_tp, il_ta, il_sc, il_po, ik_2_0, ik_2_1, ik_2_2, ik_2_3, ik_2_4, e_iinc_3, e_icmp_eq, is_37, is_40, e_ret, eq_self]
  have hl := loop_up (fun i => ev E 52 (am_B 52 (Int.toNat 6)) [.ref 34, .int (oI (frN mi i)), .int (if sgB mi ml i = true then 1 else 0), .int (nI i)] [] (HH mi ml)) 0 m (fun i _ hi => by
    refine hd b_52_6 ?_
    have hi5 : i < 5 := by omega
    by_cases h1 : mi 37 i = 0
    · have hc : cF mi i = false := by simp [cF, h1]
      have e1 : frN mi (i + 1) = frN mi i := by rw [frN, if_neg (by simp [hc])]
      have e2 : sgB mi ml (i + 1) = sgB mi ml i := by rw [sgB]; simp [hc]
      rw [e1, e2]
      simp only [b_52_e, b_52_38, b_52_42, b_52_43, b_52_63, b_52_65, b_52_71, b_52_101, b_52_108, b_52_114, k_m1, e_istore_1, e_kpi, e_kpr, e_kpl, e_kpd, k_0, e_istore_2, e_istore_3, e_jsr, e_iload_3, e_aloadr_0, g_5_34, e_icmp_ge, g_2_34, il_37, il_40, e_if_eq, e_iload_2, e_if_ne, g_3_34, il_38, il_39, kl_0, e_lcmp, e_if_le, k_1, e_goto, e_iload_1, e_if_lt, g_0_34, il_2, il_5, il_33, il_35, il_36, il_41, il_42, il_tp, il_ta, il_sc, il_po, ik_2_0, ik_2_1, ik_2_2, ik_2_3, ik_2_4, e_iinc_3, e_icmp_eq, is_37, is_40, e_ret, eq_self, hm, lec (show m < 1000 by omega) hi, hi5, h1, not_true_eq_false, not_false_eq_true, if_true, if_false, true_or, or_true, false_or, or_false, true_and, and_true, false_and, and_false, and_self, or_self, reduceIte, Bool.false_eq_true, i10, i01, e_inc1]
    · have hc : cF mi i = true := by simp [cF, h1]
      have e2 : (if sgB mi ml i = true then (1 : Int32) else if ml 38 i ≤ 0 then 0 else 1) = (if sgB mi ml (i + 1) = true then (1 : Int32) else 0) := by
        rw [sgB]
        by_cases hs : sgB mi ml i = true
        · simp [hs]
        · by_cases h2 : ml 38 i ≤ 0
          · simp [hs, hc, h2, Int64.not_lt.mpr h2]
          · simp [hs, hc, h2, Int64.not_le.mp h2]
      have e1 : frN mi (i + 1) = (match frN mi i with
        | none => some i
        | some f => if mi 35 f ≤ mi 35 i then some f else some i) := by rw [frN, if_pos hc]
      rw [← e2, e1]
      cases hf : frN mi i with
      | none =>
        by_cases hs : sgB mi ml i = true
        · simp only [b_52_e, b_52_38, b_52_42, b_52_43, b_52_63, b_52_65, b_52_71, b_52_101, b_52_108, b_52_114, k_m1, e_istore_1, e_kpi, e_kpr, e_kpl, e_kpd, k_0, e_istore_2, e_istore_3, e_jsr, e_iload_3, e_aloadr_0, g_5_34, e_icmp_ge, g_2_34, il_37, il_40, e_if_eq, e_iload_2, e_if_ne, g_3_34, il_38, il_39, kl_0, e_lcmp, e_if_le, k_1, e_goto, e_iload_1, e_if_lt, g_0_34, il_2, il_5, il_33, il_35, il_36, il_41, il_42, il_tp, il_ta, il_sc, il_po, ik_2_0, ik_2_1, ik_2_2, ik_2_3, ik_2_4, e_iinc_3, e_icmp_eq, is_37, is_40, e_ret, eq_self, hm, lec (show m < 1000 by omega) hi, hi5, h1, hs, bz1, not_true_eq_false, not_false_eq_true, if_true, if_false, true_or, or_true, false_or, or_false, true_and, and_true, false_and, and_false, and_self, or_self, reduceIte, Bool.false_eq_true, i10, i01, e_inc1, oI_n, oI_s, lt_nN]
        · by_cases h2 : ml 38 i ≤ 0
          · simp only [b_52_e, b_52_38, b_52_42, b_52_43, b_52_63, b_52_65, b_52_71, b_52_101, b_52_108, b_52_114, k_m1, e_istore_1, e_kpi, e_kpr, e_kpl, e_kpd, k_0, e_istore_2, e_istore_3, e_jsr, e_iload_3, e_aloadr_0, g_5_34, e_icmp_ge, g_2_34, il_37, il_40, e_if_eq, e_iload_2, e_if_ne, g_3_34, il_38, il_39, kl_0, e_lcmp, e_if_le, k_1, e_goto, e_iload_1, e_if_lt, g_0_34, il_2, il_5, il_33, il_35, il_36, il_41, il_42, il_tp, il_ta, il_sc, il_po, ik_2_0, ik_2_1, ik_2_2, ik_2_3, ik_2_4, e_iinc_3, e_icmp_eq, is_37, is_40, e_ret, eq_self, hm, lec (show m < 1000 by omega) hi, hi5, h1, hs, bz1, not_true_eq_false, not_false_eq_true, if_true, if_false, true_or, or_true, false_or, or_false, true_and, and_true, false_and, and_false, and_self, or_self, reduceIte, Bool.false_eq_true, i10, i01, e_inc1, oI_n, oI_s, lt_nN, lg_cmp_le, h2]
          · simp only [b_52_e, b_52_38, b_52_42, b_52_43, b_52_63, b_52_65, b_52_71, b_52_101, b_52_108, b_52_114, k_m1, e_istore_1, e_kpi, e_kpr, e_kpl, e_kpd, k_0, e_istore_2, e_istore_3, e_jsr, e_iload_3, e_aloadr_0, g_5_34, e_icmp_ge, g_2_34, il_37, il_40, e_if_eq, e_iload_2, e_if_ne, g_3_34, il_38, il_39, kl_0, e_lcmp, e_if_le, k_1, e_goto, e_iload_1, e_if_lt, g_0_34, il_2, il_5, il_33, il_35, il_36, il_41, il_42, il_tp, il_ta, il_sc, il_po, ik_2_0, ik_2_1, ik_2_2, ik_2_3, ik_2_4, e_iinc_3, e_icmp_eq, is_37, is_40, e_ret, eq_self, hm, lec (show m < 1000 by omega) hi, hi5, h1, hs, bz1, not_true_eq_false, not_false_eq_true, if_true, if_false, true_or, or_true, false_or, or_false, true_and, and_true, false_and, and_false, and_self, or_self, reduceIte, Bool.false_eq_true, i10, i01, e_inc1, oI_n, oI_s, lt_nN, lg_cmp_le, h2]
      | some f =>
        have hf5 : f < 5 := by have := frN_lt hf; omega
        by_cases h3 : mi 35 f ≤ mi 35 i
        · by_cases hs : sgB mi ml i = true
          · simp only [b_52_e, b_52_38, b_52_42, b_52_43, b_52_63, b_52_65, b_52_71, b_52_101, b_52_108, b_52_114, k_m1, e_istore_1, e_kpi, e_kpr, e_kpl, e_kpd, k_0, e_istore_2, e_istore_3, e_jsr, e_iload_3, e_aloadr_0, g_5_34, e_icmp_ge, g_2_34, il_37, il_40, e_if_eq, e_iload_2, e_if_ne, g_3_34, il_38, il_39, kl_0, e_lcmp, e_if_le, k_1, e_goto, e_iload_1, e_if_lt, g_0_34, il_2, il_5, il_33, il_35, il_36, il_41, il_42, il_tp, il_ta, il_sc, il_po, ik_2_0, ik_2_1, ik_2_2, ik_2_3, ik_2_4, e_iinc_3, e_icmp_eq, is_37, is_40, e_ret, eq_self, hm, lec (show m < 1000 by omega) hi, hi5, hf5, h1, h3, hs, bz1, not_true_eq_false, not_false_eq_true, if_true, if_false, true_or, or_true, false_or, or_false, true_and, and_true, false_and, and_false, and_self, or_self, reduceIte, Bool.false_eq_true, i10, i01, e_inc1, oI_n, oI_s, lt_sN hf5]
          · by_cases h2 : ml 38 i ≤ 0
            · simp only [b_52_e, b_52_38, b_52_42, b_52_43, b_52_63, b_52_65, b_52_71, b_52_101, b_52_108, b_52_114, k_m1, e_istore_1, e_kpi, e_kpr, e_kpl, e_kpd, k_0, e_istore_2, e_istore_3, e_jsr, e_iload_3, e_aloadr_0, g_5_34, e_icmp_ge, g_2_34, il_37, il_40, e_if_eq, e_iload_2, e_if_ne, g_3_34, il_38, il_39, kl_0, e_lcmp, e_if_le, k_1, e_goto, e_iload_1, e_if_lt, g_0_34, il_2, il_5, il_33, il_35, il_36, il_41, il_42, il_tp, il_ta, il_sc, il_po, ik_2_0, ik_2_1, ik_2_2, ik_2_3, ik_2_4, e_iinc_3, e_icmp_eq, is_37, is_40, e_ret, eq_self, hm, lec (show m < 1000 by omega) hi, hi5, hf5, h1, h3, hs, bz1, not_true_eq_false, not_false_eq_true, if_true, if_false, true_or, or_true, false_or, or_false, true_and, and_true, false_and, and_false, and_self, or_self, reduceIte, Bool.false_eq_true, i10, i01, e_inc1, oI_n, oI_s, lt_sN hf5, lg_cmp_le, h2]
            · simp only [b_52_e, b_52_38, b_52_42, b_52_43, b_52_63, b_52_65, b_52_71, b_52_101, b_52_108, b_52_114, k_m1, e_istore_1, e_kpi, e_kpr, e_kpl, e_kpd, k_0, e_istore_2, e_istore_3, e_jsr, e_iload_3, e_aloadr_0, g_5_34, e_icmp_ge, g_2_34, il_37, il_40, e_if_eq, e_iload_2, e_if_ne, g_3_34, il_38, il_39, kl_0, e_lcmp, e_if_le, k_1, e_goto, e_iload_1, e_if_lt, g_0_34, il_2, il_5, il_33, il_35, il_36, il_41, il_42, il_tp, il_ta, il_sc, il_po, ik_2_0, ik_2_1, ik_2_2, ik_2_3, ik_2_4, e_iinc_3, e_icmp_eq, is_37, is_40, e_ret, eq_self, hm, lec (show m < 1000 by omega) hi, hi5, hf5, h1, h3, hs, bz1, not_true_eq_false, not_false_eq_true, if_true, if_false, true_or, or_true, false_or, or_false, true_and, and_true, false_and, and_false, and_self, or_self, reduceIte, Bool.false_eq_true, i10, i01, e_inc1, oI_n, oI_s, lt_sN hf5, lg_cmp_le, h2]
        · by_cases hs : sgB mi ml i = true
          · simp only [b_52_e, b_52_38, b_52_42, b_52_43, b_52_63, b_52_65, b_52_71, b_52_101, b_52_108, b_52_114, k_m1, e_istore_1, e_kpi, e_kpr, e_kpl, e_kpd, k_0, e_istore_2, e_istore_3, e_jsr, e_iload_3, e_aloadr_0, g_5_34, e_icmp_ge, g_2_34, il_37, il_40, e_if_eq, e_iload_2, e_if_ne, g_3_34, il_38, il_39, kl_0, e_lcmp, e_if_le, k_1, e_goto, e_iload_1, e_if_lt, g_0_34, il_2, il_5, il_33, il_35, il_36, il_41, il_42, il_tp, il_ta, il_sc, il_po, ik_2_0, ik_2_1, ik_2_2, ik_2_3, ik_2_4, e_iinc_3, e_icmp_eq, is_37, is_40, e_ret, eq_self, hm, lec (show m < 1000 by omega) hi, hi5, hf5, h1, h3, hs, bz1, not_true_eq_false, not_false_eq_true, if_true, if_false, true_or, or_true, false_or, or_false, true_and, and_true, false_and, and_false, and_self, or_self, reduceIte, Bool.false_eq_true, i10, i01, e_inc1, oI_n, oI_s, lt_sN hf5]
          · by_cases h2 : ml 38 i ≤ 0
            · simp only [b_52_e, b_52_38, b_52_42, b_52_43, b_52_63, b_52_65, b_52_71, b_52_101, b_52_108, b_52_114, k_m1, e_istore_1, e_kpi, e_kpr, e_kpl, e_kpd, k_0, e_istore_2, e_istore_3, e_jsr, e_iload_3, e_aloadr_0, g_5_34, e_icmp_ge, g_2_34, il_37, il_40, e_if_eq, e_iload_2, e_if_ne, g_3_34, il_38, il_39, kl_0, e_lcmp, e_if_le, k_1, e_goto, e_iload_1, e_if_lt, g_0_34, il_2, il_5, il_33, il_35, il_36, il_41, il_42, il_tp, il_ta, il_sc, il_po, ik_2_0, ik_2_1, ik_2_2, ik_2_3, ik_2_4, e_iinc_3, e_icmp_eq, is_37, is_40, e_ret, eq_self, hm, lec (show m < 1000 by omega) hi, hi5, hf5, h1, h3, hs, bz1, not_true_eq_false, not_false_eq_true, if_true, if_false, true_or, or_true, false_or, or_false, true_and, and_true, false_and, and_false, and_self, or_self, reduceIte, Bool.false_eq_true, i10, i01, e_inc1, oI_n, oI_s, lt_sN hf5, lg_cmp_le, h2]
            · simp only [b_52_e, b_52_38, b_52_42, b_52_43, b_52_63, b_52_65, b_52_71, b_52_101, b_52_108, b_52_114, k_m1, e_istore_1, e_kpi, e_kpr, e_kpl, e_kpd, k_0, e_istore_2, e_istore_3, e_jsr, e_iload_3, e_aloadr_0, g_5_34, e_icmp_ge, g_2_34, il_37, il_40, e_if_eq, e_iload_2, e_if_ne, g_3_34, il_38, il_39, kl_0, e_lcmp, e_if_le, k_1, e_goto, e_iload_1, e_if_lt, g_0_34, il_2, il_5, il_33, il_35, il_36, il_41, il_42, il_tp, il_ta, il_sc, il_po, ik_2_0, ik_2_1, ik_2_2, ik_2_3, ik_2_4, e_iinc_3, e_icmp_eq, is_37, is_40, e_ret, eq_self, hm, lec (show m < 1000 by omega) hi, hi5, hf5, h1, h3, hs, bz1, not_true_eq_false, not_false_eq_true, if_true, if_false, true_or, or_true, false_or, or_false, true_and, and_true, false_and, and_false, and_self, or_self, reduceIte, Bool.false_eq_true, i10, i01, e_inc1, oI_n, oI_s, lt_sN hf5, lg_cmp_le, h2]) (by omega)
  refine Eq.trans (show _ = _ from hl) ?_
  simp only [b_52_6, b_52_e, b_52_38, b_52_42, b_52_43, b_52_63, b_52_65, b_52_71, b_52_101, b_52_108, b_52_114, k_m1, e_istore_1, e_kpi, e_kpr, e_kpl, e_kpd, k_0, e_istore_2, e_istore_3, e_jsr, e_iload_3, e_aloadr_0, g_5_34, e_icmp_ge, g_2_34, il_37, il_40, e_if_eq, e_iload_2, e_if_ne, g_3_34, il_38, il_39, kl_0, e_lcmp, e_if_le, k_1, e_goto, e_iload_1, e_if_lt, g_0_34, il_2, il_5, il_33, il_35, il_36, il_41, il_42, il_tp, il_ta, il_sc, il_po, ik_2_0, ik_2_1, ik_2_2, ik_2_3, ik_2_4, e_iinc_3, e_icmp_eq, is_37, is_40, e_ret, eq_self, hm, lecc, not_true_eq_false, not_false_eq_true, if_true, if_false, true_or, or_true, false_or, or_false, true_and, and_true, false_and, and_false, and_self, or_self, reduceIte, Bool.false_eq_true, i10, i01]
  have hfr : ∀ f, frN mi m = some f → f < 5 := fun f q => by have := frN_lt q; omega
  have hl2 := loop_up (fun i => ev E 52 (am_B 52 (Int.toNat 73)) [.ref 34, .int (oI (frN mi m)), .int (if sgB mi ml m = true then 1 else 0), .int (nI i)] [] (HH (loi mi ml m i) ml)) 0 m (fun i _ hi => by
    refine hd b_52_73 ?_
    have hi5 : i < 5 := by omega
    have hm' : loi mi ml m i 34 5 = nI m := by rw [← hm]; simp [loi]
    have eno : ¬ (ml 38 i = 0 ∧ (sgB mi ml m = true ∨ ¬ frN mi m = some i)) → loi mi ml m (i + 1) = loi mi ml m i := by
      intro hq
      funext a b
      unfold loi
      by_cases hb : b = i
      · subst hb
        rw [if_neg (fun q => hq ⟨q.2.2.1, q.2.2.2⟩), if_neg (fun q => by omega)]
      · have : (b < i + 1) = (b < i) := propext ⟨fun q => by omega, fun q => by omega⟩
        simp only [this]
    have eyes : (ml 38 i = 0 ∧ (sgB mi ml m = true ∨ ¬ frN mi m = some i)) → loi mi ml m (i + 1) = am_up (loi mi ml m i) 37 i 0 := by
      intro hq
      funext a b
      simp only [am_upa, loi]
      by_cases hb : b = i
      · subst hb
        by_cases ha : a = 37
        · rw [if_pos ⟨ha, by omega, hq.1, hq.2⟩, if_pos ⟨ha, rfl⟩]
        · rw [if_neg (fun q => ha q.1), if_neg (fun q => ha q.1), if_neg (fun q => ha q.1)]
      · have : (b < i + 1) = (b < i) := propext ⟨fun q => by omega, fun q => by omega⟩
        simp only [this, hb, and_false, if_false]
    by_cases h1 : ml 38 i = 0
    · by_cases hs : sgB mi ml m = true
      · rw [eyes ⟨h1, Or.inl hs⟩]
        simp only [b_52_e, b_52_38, b_52_42, b_52_43, b_52_63, b_52_65, b_52_71, b_52_101, b_52_108, b_52_114, k_m1, e_istore_1, e_kpi, e_kpr, e_kpl, e_kpd, k_0, e_istore_2, e_istore_3, e_jsr, e_iload_3, e_aloadr_0, g_5_34, e_icmp_ge, g_2_34, il_37, il_40, e_if_eq, e_iload_2, e_if_ne, g_3_34, il_38, il_39, kl_0, e_lcmp, e_if_le, k_1, e_goto, e_iload_1, e_if_lt, g_0_34, il_2, il_5, il_33, il_35, il_36, il_41, il_42, il_tp, il_ta, il_sc, il_po, ik_2_0, ik_2_1, ik_2_2, ik_2_3, ik_2_4, e_iinc_3, e_icmp_eq, is_37, is_40, e_ret, eq_self, hm', lec (show m < 1000 by omega) hi, hi5, h1, hs, bz1, lg_cmp_eq, not_true_eq_false, not_false_eq_true, if_true, if_false, true_or, or_true, false_or, or_false, true_and, and_true, false_and, and_false, and_self, or_self, reduceIte, Bool.false_eq_true, i10, i01, e_inc1]
      · by_cases hf : frN mi m = some i
        · rw [eno (by simp [hs, hf])]
          simp only [b_52_e, b_52_38, b_52_42, b_52_43, b_52_63, b_52_65, b_52_71, b_52_101, b_52_108, b_52_114, k_m1, e_istore_1, e_kpi, e_kpr, e_kpl, e_kpd, k_0, e_istore_2, e_istore_3, e_jsr, e_iload_3, e_aloadr_0, g_5_34, e_icmp_ge, g_2_34, il_37, il_40, e_if_eq, e_iload_2, e_if_ne, g_3_34, il_38, il_39, kl_0, e_lcmp, e_if_le, k_1, e_goto, e_iload_1, e_if_lt, g_0_34, il_2, il_5, il_33, il_35, il_36, il_41, il_42, il_tp, il_ta, il_sc, il_po, ik_2_0, ik_2_1, ik_2_2, ik_2_3, ik_2_4, e_iinc_3, e_icmp_eq, is_37, is_40, e_ret, eq_self, hm', lec (show m < 1000 by omega) hi, hi5, h1, hs, bz1, lg_cmp_eq, not_true_eq_false, not_false_eq_true, if_true, if_false, true_or, or_true, false_or, or_false, true_and, and_true, false_and, and_false, and_self, or_self, reduceIte, Bool.false_eq_true, i10, i01, e_inc1, oI_eq hi5 hfr, hf, oI_s]
        · rw [eyes ⟨h1, Or.inr hf⟩]
          simp only [b_52_e, b_52_38, b_52_42, b_52_43, b_52_63, b_52_65, b_52_71, b_52_101, b_52_108, b_52_114, k_m1, e_istore_1, e_kpi, e_kpr, e_kpl, e_kpd, k_0, e_istore_2, e_istore_3, e_jsr, e_iload_3, e_aloadr_0, g_5_34, e_icmp_ge, g_2_34, il_37, il_40, e_if_eq, e_iload_2, e_if_ne, g_3_34, il_38, il_39, kl_0, e_lcmp, e_if_le, k_1, e_goto, e_iload_1, e_if_lt, g_0_34, il_2, il_5, il_33, il_35, il_36, il_41, il_42, il_tp, il_ta, il_sc, il_po, ik_2_0, ik_2_1, ik_2_2, ik_2_3, ik_2_4, e_iinc_3, e_icmp_eq, is_37, is_40, e_ret, eq_self, hm', lec (show m < 1000 by omega) hi, hi5, h1, hs, bz1, lg_cmp_eq, not_true_eq_false, not_false_eq_true, if_true, if_false, true_or, or_true, false_or, or_false, true_and, and_true, false_and, and_false, and_self, or_self, reduceIte, Bool.false_eq_true, i10, i01, e_inc1, oI_eq hi5 hfr, hf]
    · rw [eno (fun q => h1 q.1)]
      simp only [b_52_e, b_52_38, b_52_42, b_52_43, b_52_63, b_52_65, b_52_71, b_52_101, b_52_108, b_52_114, k_m1, e_istore_1, e_kpi, e_kpr, e_kpl, e_kpd, k_0, e_istore_2, e_istore_3, e_jsr, e_iload_3, e_aloadr_0, g_5_34, e_icmp_ge, g_2_34, il_37, il_40, e_if_eq, e_iload_2, e_if_ne, g_3_34, il_38, il_39, kl_0, e_lcmp, e_if_le, k_1, e_goto, e_iload_1, e_if_lt, g_0_34, il_2, il_5, il_33, il_35, il_36, il_41, il_42, il_tp, il_ta, il_sc, il_po, ik_2_0, ik_2_1, ik_2_2, ik_2_3, ik_2_4, e_iinc_3, e_icmp_eq, is_37, is_40, e_ret, eq_self, hm', lec (show m < 1000 by omega) hi, hi5, h1, lg_cmp_eq, not_true_eq_false, not_false_eq_true, if_true, if_false, true_or, or_true, false_or, or_false, true_and, and_true, false_and, and_false, and_self, or_self, reduceIte, Bool.false_eq_true, i10, i01, e_inc1]) (by omega)
  have h0 : loi mi ml m 0 = mi := by funext a b; simp [loi]
  rw [h0] at hl2
  refine Eq.trans (show _ = _ from hl2) ?_
  have hm' : loi mi ml m m 34 5 = nI m := by rw [← hm]; simp [loi]
  simp only [b_52_73, b_52_e, b_52_38, b_52_42, b_52_43, b_52_63, b_52_65, b_52_71, b_52_101, b_52_108, b_52_114, k_m1, e_istore_1, e_kpi, e_kpr, e_kpl, e_kpd, k_0, e_istore_2, e_istore_3, e_jsr, e_iload_3, e_aloadr_0, g_5_34, e_icmp_ge, g_2_34, il_37, il_40, e_if_eq, e_iload_2, e_if_ne, g_3_34, il_38, il_39, kl_0, e_lcmp, e_if_le, k_1, e_goto, e_iload_1, e_if_lt, g_0_34, il_2, il_5, il_33, il_35, il_36, il_41, il_42, il_tp, il_ta, il_sc, il_po, ik_2_0, ik_2_1, ik_2_2, ik_2_3, ik_2_4, e_iinc_3, e_icmp_eq, is_37, is_40, e_ret, eq_self, hm', lecc, not_true_eq_false, not_false_eq_true, if_true, if_false, true_or, or_true, false_or, or_false, true_and, and_true, false_and, and_false, and_self, or_self, reduceIte, Bool.false_eq_true, i10, i01]
theorem cc_Circuit_leaveOutIdle_0 {M : Nat} {c : List Instr} {L : List Value} {m : Nat} (hm : mi 34 5 = nI m) (hm5 : m ≤ 5) : ev E M (.invokevirtual 52 :: c) L (.ref 34 :: []) (HH mi ml) = ev E M c L [] (HH (loi mi ml m m) ml) := e_inv (as := [.ref 34]) (S := []) rfl rfl (Nat.le_of_ble_eq_true rfl) (rfl) (ct_Circuit_leaveOutIdle hm hm5)
theorem cc_Circuit_leaveOutIdle_1 {M : Nat} {c : List Instr} {L : List Value} {s0 : Value} {m : Nat} (hm : mi 34 5 = nI m) (hm5 : m ≤ 5) : ev E M (.invokevirtual 52 :: c) L (.ref 34 :: [s0]) (HH mi ml) = ev E M c L [s0] (HH (loi mi ml m m) ml) := e_inv (as := [.ref 34]) (S := [s0]) rfl rfl (Nat.le_of_ble_eq_true rfl) (rfl) (ct_Circuit_leaveOutIdle hm hm5)
theorem cc_Circuit_leaveOutIdle_2 {M : Nat} {c : List Instr} {L : List Value} {s0 s1 : Value} {m : Nat} (hm : mi 34 5 = nI m) (hm5 : m ≤ 5) : ev E M (.invokevirtual 52 :: c) L (.ref 34 :: [s0, s1]) (HH mi ml) = ev E M c L [s0, s1] (HH (loi mi ml m m) ml) := e_inv (as := [.ref 34]) (S := [s0, s1]) rfl rfl (Nat.le_of_ble_eq_true rfl) (rfl) (ct_Circuit_leaveOutIdle hm hm5)
theorem cc_Circuit_leaveOutIdle_3 {M : Nat} {c : List Instr} {L : List Value} {s0 s1 s2 : Value} {m : Nat} (hm : mi 34 5 = nI m) (hm5 : m ≤ 5) : ev E M (.invokevirtual 52 :: c) L (.ref 34 :: [s0, s1, s2]) (HH mi ml) = ev E M c L [s0, s1, s2] (HH (loi mi ml m m) ml) := e_inv (as := [.ref 34]) (S := [s0, s1, s2]) rfl rfl (Nat.le_of_ble_eq_true rfl) (rfl) (ct_Circuit_leaveOutIdle hm hm5)
end Cl6
end
section
/-! WHO FEEDS -/
theorem lot_ne {mi : Nat → Nat → Int32} {ml : Nat → Nat → Int64} {i a b : Nat} (h : ¬ a = 37) : lot mi ml i a b = mi a b := by simp [lot, h]
theorem loi_ne {mi : Nat → Nat → Int32} {ml : Nat → Nat → Int64} {m i a b : Nat} (h : ¬ a = 37) : loi mi ml m i a b = mi a b := by simp [loi, h]
def saF (mi : Nat → Nat → Int32) (i : Nat) : Nat → Nat → Int32 := fun a b => if a = 37 ∧ b < i then 1 else mi a b
theorem saF_ne {mi : Nat → Nat → Int32} {i a b : Nat} (h : ¬ a = 37) : saF mi i a b = mi a b := by simp [saF, h]
/-- the rounds -/
def ffL (m : Nat) : Nat → (Nat → Nat → Int32) → (Nat → Nat → Int64) → (Nat → Nat → Int32) × (Nat → Nat → Int64)
  | 0, mi, ml => (mi, ml)
  | k + 1, mi, ml => if lotB mi (wgh mi ml m m) m = true then ffL m k (lot mi (wgh mi ml m m) m) (wgh mi ml m m) else (lot mi (wgh mi ml m m) m, wgh mi ml m m)
theorem ffL_ne {m : Nat} : ∀ {k : Nat} {mi : Nat → Nat → Int32} {ml : Nat → Nat → Int64} {a b : Nat}, ¬ a = 37 → (ffL m k mi ml).1 a b = mi a b := by
  intro k
  induction k with
  | zero => intro mi ml a b h; rfl
  | succ k ih =>
    intro mi ml a b h
    rw [ffL]
    split
    · rw [ih h, lot_ne h]
    · exact lot_ne h
/-- cells behind findFeeding where it answers true -/
def ffI (mi : Nat → Nat → Int32) (ml : Nat → Nat → Int64) (m : Nat) : Nat → Nat → Int32 := loi (ffL m m (saF mi m) ml).1 (ffL m m (saF mi m) ml).2 m m
def ffJ (mi : Nat → Nat → Int32) (ml : Nat → Nat → Int64) (m : Nat) : Nat → Nat → Int64 := (ffL m m (saF mi m) ml).2
theorem ffI_ne {mi : Nat → Nat → Int32} {ml : Nat → Nat → Int64} {m a b : Nat} (h : ¬ a = 37) : ffI mi ml m a b = mi a b := by
  unfold ffI
  rw [loi_ne h, ffL_ne h, saF_ne h]
theorem i64_le {a b : Int} (ha : -4611686018427387904 ≤ a ∧ a ≤ 4611686018427387904) (hb : -4611686018427387904 ≤ b ∧ b ≤ 4611686018427387904) : Int64.ofInt a ≤ Int64.ofInt b ↔ a ≤ b := by
  rw [Int64.le_iff_toInt_le, Int64.toInt_ofInt_of_le (by omega) (by omega), Int64.toInt_ofInt_of_le (by omega) (by omega)]
theorem i64_lt {a b : Int} (ha : -4611686018427387904 ≤ a ∧ a ≤ 4611686018427387904) (hb : -4611686018427387904 ≤ b ∧ b ≤ 4611686018427387904) : Int64.ofInt a < Int64.ofInt b ↔ a < b := by
  rw [Int64.lt_iff_toInt_lt, Int64.toInt_ofInt_of_le (by omega) (by omega), Int64.toInt_ofInt_of_le (by omega) (by omega)]
theorem i64_eq {a b : Int} (ha : -4611686018427387904 ≤ a ∧ a ≤ 4611686018427387904) (hb : -4611686018427387904 ≤ b ∧ b ≤ 4611686018427387904) : Int64.ofInt a = Int64.ofInt b ↔ a = b := by
  rw [← Int64.toInt_inj, Int64.toInt_ofInt_of_le (by omega) (by omega), Int64.toInt_ofInt_of_le (by omega) (by omega)]
theorem k0i64 : (0 : Int64) = Int64.ofInt 0 := rfl
section Cl7
variable {E : aE} {mi : Nat → Nat → Int32} {ml : Nat → Nat → Int64}
theorem ff_rounds {m : Nat} (hm5 : m ≤ 5) : ∀ (k i : Nat) (mi : Nat → Nat → Int32) (ml : Nat → Nat → Int64), i + k = m → mi 34 5 = nI m → (∀ n, n < m → bd (mi 36 n)) → (∀ n, n < 5 → cTh mi n = true → bd (mi 41 n)) → ev E 46 (am_B 46 (Int.toNat 36)) [.ref 34, .int (nI i)] [] (HH mi ml) = some (some (.int 1), HH (loi (ffL m k mi ml).1 (ffL m k mi ml).2 m m) (ffL m k mi ml).2) := by
  intro k
  induction k with
  | zero =>
    intro i mi ml hk hm hp hy
    have hi : i = m := by omega
    subst hi
    refine hd b_46_36 ?_
    simp only [b_46_e, b_46_11, b_46_34, b_46_58, b_46_64, e_aloadr_0, cc_Circuit_pulledTogether_0, cc_Circuit_pulledTogether_1, cc_Circuit_pulledTogether_2, cc_Circuit_pulledTogether_3, Option.toList_some, Option.toList_none, List.cons_append, List.nil_append, kl_0, e_lcmp, e_if_ge, k_0, e_zret0, e_zret1, e_istore_1, e_kpi, e_kpr, e_kpl, e_kpd, e_jsr, e_iload_1, g_5_34, e_icmp_ge, g_2_34, k_1, is_37, is_40, e_iinc_1, e_goto, cc_Circuit_weigh_0, cc_Circuit_weigh_1, cc_Circuit_weigh_2, cc_Circuit_weigh_3, cc_Circuit_leaveOutTaking_0, cc_Circuit_leaveOutTaking_1, cc_Circuit_leaveOutTaking_2, cc_Circuit_leaveOutTaking_3, e_if_ne, cc_Circuit_leaveOutIdle_0, cc_Circuit_leaveOutIdle_1, cc_Circuit_leaveOutIdle_2, cc_Circuit_leaveOutIdle_3, eq_self, hm, lecc, not_true_eq_false, not_false_eq_true, if_true, if_false, true_or, or_true, false_or, or_false, true_and, and_true, false_and, and_false, and_self, or_self, reduceIte, Bool.false_eq_true, i10, i01, cc_Circuit_leaveOutIdle_0 hm hm5]
    rfl
  | succ k ih =>
    intro i mi ml hk hm hp hy
    have hi : i < m := by omega
    refine hd b_46_36 ?_
    have hml : lot mi (wgh mi ml m m) m 34 5 = nI m := by rw [lot_ne (by decide), hm]
    rw [ffL]
    by_cases hb : lotB mi (wgh mi ml m m) m = true
    · simp only [b_46_e, b_46_11, b_46_34, b_46_58, b_46_64, e_aloadr_0, cc_Circuit_pulledTogether_0, cc_Circuit_pulledTogether_1, cc_Circuit_pulledTogether_2, cc_Circuit_pulledTogether_3, Option.toList_some, Option.toList_none, List.cons_append, List.nil_append, kl_0, e_lcmp, e_if_ge, k_0, e_zret0, e_zret1, e_istore_1, e_kpi, e_kpr, e_kpl, e_kpd, e_jsr, e_iload_1, g_5_34, e_icmp_ge, g_2_34, k_1, is_37, is_40, e_iinc_1, e_goto, cc_Circuit_weigh_0, cc_Circuit_weigh_1, cc_Circuit_weigh_2, cc_Circuit_weigh_3, cc_Circuit_leaveOutTaking_0, cc_Circuit_leaveOutTaking_1, cc_Circuit_leaveOutTaking_2, cc_Circuit_leaveOutTaking_3, e_if_ne, cc_Circuit_leaveOutIdle_0, cc_Circuit_leaveOutIdle_1, cc_Circuit_leaveOutIdle_2, cc_Circuit_leaveOutIdle_3, eq_self, hm, lec (show m < 1000 by omega) hi, not_true_eq_false, not_false_eq_true, if_true, if_false, true_or, or_true, false_or, or_false, true_and, and_true, false_and, and_false, and_self, or_self, reduceIte, Bool.false_eq_true, i10, i01, cc_Circuit_weigh_0 hm hm5 hp hy, cc_Circuit_leaveOutTaking_0 hm hm5, hb, e_inc1]
      exact ih (i + 1) _ _ (by omega) hml (fun n hn => by rw [lot_ne (by decide)]; exact hp n hn) (fun n hn hc => by
        rw [lot_ne (by decide)]
        refine hy n hn ?_
        unfold cTh at hc ⊢
        rwa [lot_ne (by decide)] at hc)
    · simp only [b_46_e, b_46_11, b_46_34, b_46_58, b_46_64, e_aloadr_0, cc_Circuit_pulledTogether_0, cc_Circuit_pulledTogether_1, cc_Circuit_pulledTogether_2, cc_Circuit_pulledTogether_3, Option.toList_some, Option.toList_none, List.cons_append, List.nil_append, kl_0, e_lcmp, e_if_ge, k_0, e_zret0, e_zret1, e_istore_1, e_kpi, e_kpr, e_kpl, e_kpd, e_jsr, e_iload_1, g_5_34, e_icmp_ge, g_2_34, k_1, is_37, is_40, e_iinc_1, e_goto, cc_Circuit_weigh_0, cc_Circuit_weigh_1, cc_Circuit_weigh_2, cc_Circuit_weigh_3, cc_Circuit_leaveOutTaking_0, cc_Circuit_leaveOutTaking_1, cc_Circuit_leaveOutTaking_2, cc_Circuit_leaveOutTaking_3, e_if_ne, cc_Circuit_leaveOutIdle_0, cc_Circuit_leaveOutIdle_1, cc_Circuit_leaveOutIdle_2, cc_Circuit_leaveOutIdle_3, eq_self, hm, lec (show m < 1000 by omega) hi, not_true_eq_false, not_false_eq_true, if_true, if_false, true_or, or_true, false_or, or_false, true_and, and_true, false_and, and_false, and_self, or_self, reduceIte, Bool.false_eq_true, i10, i01, cc_Circuit_weigh_0 hm hm5 hp hy, cc_Circuit_leaveOutTaking_0 hm hm5, hb, cc_Circuit_leaveOutIdle_0 hml hm5]
theorem ct_Circuit_findFeeding {m : Nat} (hm : mi 34 5 = nI m) (hm5 : m ≤ 5) (hp : ∀ n, n < m → bd (mi 36 n)) (hy : ∀ n, n < 5 → cTh mi n = true → bd (mi 41 n)) (hA : -4611686018427387904 ≤ sumI (cA mi) 5 ∧ sumI (cA mi) 5 ≤ 4611686018427387904) : ev E 46 (am_B 46 0) [.ref 34, am_dm] [] (HH mi ml) = some (some (.int (if 0 ≤ sumI (cA mi) 5 then 1 else 0)), HH (if 0 ≤ sumI (cA mi) 5 then ffI mi ml m else mi) (if 0 ≤ sumI (cA mi) 5 then ffJ mi ml m else ml)) := by
  have hs : sumI (fun n => (mi 42 n).toInt) 5 = sumI (cA mi) 5 := rfl
  have hq : ((0 : Int64) ≤ Int64.ofInt (sumI (cA mi) 5)) = (0 ≤ sumI (cA mi) 5) := propext (i64_le (a := 0) (by decide) hA)
  simp only [b_46_e, b_46_11, b_46_34, b_46_58, b_46_64, e_aloadr_0, cc_Circuit_pulledTogether_0, cc_Circuit_pulledTogether_1, cc_Circuit_pulledTogether_2, cc_Circuit_pulledTogether_3, Option.toList_some, Option.toList_none, List.cons_append, List.nil_append, kl_0, e_lcmp, e_if_ge, k_0, e_zret0, e_zret1, e_istore_1, e_kpi, e_kpr, e_kpl, e_kpd, e_jsr, e_iload_1, g_5_34, e_icmp_ge, g_2_34, k_1, is_37, is_40, e_iinc_1, e_goto, cc_Circuit_weigh_0, cc_Circuit_weigh_1, cc_Circuit_weigh_2, cc_Circuit_weigh_3, cc_Circuit_leaveOutTaking_0, cc_Circuit_leaveOutTaking_1, cc_Circuit_leaveOutTaking_2, cc_Circuit_leaveOutTaking_3, e_if_ne, cc_Circuit_leaveOutIdle_0, cc_Circuit_leaveOutIdle_1, cc_Circuit_leaveOutIdle_2, cc_Circuit_leaveOutIdle_3, eq_self, lg_cmp_ge, hs, hq]
  by_cases h0 : 0 ≤ sumI (cA mi) 5
  · simp only [h0, not_true_eq_false, not_false_eq_true, if_true, if_false, true_or, or_true, false_or, or_false, true_and, and_true, false_and, and_false, and_self, or_self, reduceIte, Bool.false_eq_true, i10, i01]
    have hl := loop_up (fun i => ev E 46 (am_B 46 (Int.toNat 13)) [.ref 34, .int (nI i)] [] (HH (saF mi i) ml)) 0 m (fun i _ hi => by
      refine hd b_46_13 ?_
      have hi5 : i < 5 := by omega
      have hm' : saF mi i 34 5 = nI m := by rw [saF_ne (by decide), hm]
      have e1 : saF mi (i + 1) = am_up (saF mi i) 37 i 1 := by
        funext a b
        simp only [am_upa, saF]
        by_cases hb : b = i
        · subst hb
          by_cases ha : a = 37 <;> simp [ha]
        · have : (b < i + 1) = (b < i) := propext ⟨fun q => by omega, fun q => by omega⟩
          simp only [this, hb, and_false, if_false]
      rw [e1]
      simp only [b_46_e, b_46_11, b_46_34, b_46_58, b_46_64, e_aloadr_0, cc_Circuit_pulledTogether_0, cc_Circuit_pulledTogether_1, cc_Circuit_pulledTogether_2, cc_Circuit_pulledTogether_3, Option.toList_some, Option.toList_none, List.cons_append, List.nil_append, kl_0, e_lcmp, e_if_ge, k_0, e_zret0, e_zret1, e_istore_1, e_kpi, e_kpr, e_kpl, e_kpd, e_jsr, e_iload_1, g_5_34, e_icmp_ge, g_2_34, k_1, is_37, is_40, e_iinc_1, e_goto, cc_Circuit_weigh_0, cc_Circuit_weigh_1, cc_Circuit_weigh_2, cc_Circuit_weigh_3, cc_Circuit_leaveOutTaking_0, cc_Circuit_leaveOutTaking_1, cc_Circuit_leaveOutTaking_2, cc_Circuit_leaveOutTaking_3, e_if_ne, cc_Circuit_leaveOutIdle_0, cc_Circuit_leaveOutIdle_1, cc_Circuit_leaveOutIdle_2, cc_Circuit_leaveOutIdle_3, eq_self, hm', lec (show m < 1000 by omega) hi, hi5, not_true_eq_false, not_false_eq_true, if_true, if_false, true_or, or_true, false_or, or_false, true_and, and_true, false_and, and_false, and_self, or_self, reduceIte, Bool.false_eq_true, i10, i01, e_inc1]) (by omega)
    have h00 : saF mi 0 = mi := by funext a b; simp [saF]
    rw [h00] at hl
    refine Eq.trans (show _ = _ from hl) ?_
    have hm' : saF mi m 34 5 = nI m := by rw [saF_ne (by decide), hm]
    simp only [b_46_13, b_46_e, b_46_11, b_46_34, b_46_58, b_46_64, e_aloadr_0, cc_Circuit_pulledTogether_0, cc_Circuit_pulledTogether_1, cc_Circuit_pulledTogether_2, cc_Circuit_pulledTogether_3, Option.toList_some, Option.toList_none, List.cons_append, List.nil_append, kl_0, e_lcmp, e_if_ge, k_0, e_zret0, e_zret1, e_istore_1, e_kpi, e_kpr, e_kpl, e_kpd, e_jsr, e_iload_1, g_5_34, e_icmp_ge, g_2_34, k_1, is_37, is_40, e_iinc_1, e_goto, cc_Circuit_weigh_0, cc_Circuit_weigh_1, cc_Circuit_weigh_2, cc_Circuit_weigh_3, cc_Circuit_leaveOutTaking_0, cc_Circuit_leaveOutTaking_1, cc_Circuit_leaveOutTaking_2, cc_Circuit_leaveOutTaking_3, e_if_ne, cc_Circuit_leaveOutIdle_0, cc_Circuit_leaveOutIdle_1, cc_Circuit_leaveOutIdle_2, cc_Circuit_leaveOutIdle_3, eq_self, hm', lecc, not_true_eq_false, not_false_eq_true, if_true, if_false, true_or, or_true, false_or, or_false, true_and, and_true, false_and, and_false, and_self, or_self, reduceIte, Bool.false_eq_true, i10, i01]
    exact ff_rounds hm5 m 0 _ _ (by omega) hm' (fun n hn => by rw [saF_ne (by decide)]; exact hp n hn) (fun n hn hc => by
        rw [saF_ne (by decide)]
        refine hy n hn ?_
        unfold cTh at hc ⊢
        rwa [saF_ne (by decide)] at hc)
  · simp only [h0, not_true_eq_false, not_false_eq_true, if_true, if_false, true_or, or_true, false_or, or_false, true_and, and_true, false_and, and_false, and_self, or_self, reduceIte, Bool.false_eq_true, i10, i01]
theorem cc_Circuit_findFeeding_0 {M : Nat} {c : List Instr} {L : List Value} {m : Nat} (hm : mi 34 5 = nI m) (hm5 : m ≤ 5) (hp : ∀ n, n < m → bd (mi 36 n)) (hy : ∀ n, n < 5 → cTh mi n = true → bd (mi 41 n)) (hA : -4611686018427387904 ≤ sumI (cA mi) 5 ∧ sumI (cA mi) 5 ≤ 4611686018427387904) : ev E M (.invokevirtual 46 :: c) L (.ref 34 :: []) (HH mi ml) = ev E M c L (.int (if 0 ≤ sumI (cA mi) 5 then 1 else 0) :: []) (HH (if 0 ≤ sumI (cA mi) 5 then ffI mi ml m else mi) (if 0 ≤ sumI (cA mi) 5 then ffJ mi ml m else ml)) := e_inv (as := [.ref 34]) (S := []) rfl rfl (Nat.le_of_ble_eq_true rfl) (rfl) (ct_Circuit_findFeeding hm hm5 hp hy hA)
theorem cc_Circuit_findFeeding_1 {M : Nat} {c : List Instr} {L : List Value} {s0 : Value} {m : Nat} (hm : mi 34 5 = nI m) (hm5 : m ≤ 5) (hp : ∀ n, n < m → bd (mi 36 n)) (hy : ∀ n, n < 5 → cTh mi n = true → bd (mi 41 n)) (hA : -4611686018427387904 ≤ sumI (cA mi) 5 ∧ sumI (cA mi) 5 ≤ 4611686018427387904) : ev E M (.invokevirtual 46 :: c) L (.ref 34 :: [s0]) (HH mi ml) = ev E M c L (.int (if 0 ≤ sumI (cA mi) 5 then 1 else 0) :: [s0]) (HH (if 0 ≤ sumI (cA mi) 5 then ffI mi ml m else mi) (if 0 ≤ sumI (cA mi) 5 then ffJ mi ml m else ml)) := e_inv (as := [.ref 34]) (S := [s0]) rfl rfl (Nat.le_of_ble_eq_true rfl) (rfl) (ct_Circuit_findFeeding hm hm5 hp hy hA)
theorem cc_Circuit_findFeeding_2 {M : Nat} {c : List Instr} {L : List Value} {s0 s1 : Value} {m : Nat} (hm : mi 34 5 = nI m) (hm5 : m ≤ 5) (hp : ∀ n, n < m → bd (mi 36 n)) (hy : ∀ n, n < 5 → cTh mi n = true → bd (mi 41 n)) (hA : -4611686018427387904 ≤ sumI (cA mi) 5 ∧ sumI (cA mi) 5 ≤ 4611686018427387904) : ev E M (.invokevirtual 46 :: c) L (.ref 34 :: [s0, s1]) (HH mi ml) = ev E M c L (.int (if 0 ≤ sumI (cA mi) 5 then 1 else 0) :: [s0, s1]) (HH (if 0 ≤ sumI (cA mi) 5 then ffI mi ml m else mi) (if 0 ≤ sumI (cA mi) 5 then ffJ mi ml m else ml)) := e_inv (as := [.ref 34]) (S := [s0, s1]) rfl rfl (Nat.le_of_ble_eq_true rfl) (rfl) (ct_Circuit_findFeeding hm hm5 hp hy hA)
theorem cc_Circuit_findFeeding_3 {M : Nat} {c : List Instr} {L : List Value} {s0 s1 s2 : Value} {m : Nat} (hm : mi 34 5 = nI m) (hm5 : m ≤ 5) (hp : ∀ n, n < m → bd (mi 36 n)) (hy : ∀ n, n < 5 → cTh mi n = true → bd (mi 41 n)) (hA : -4611686018427387904 ≤ sumI (cA mi) 5 ∧ sumI (cA mi) 5 ≤ 4611686018427387904) : ev E M (.invokevirtual 46 :: c) L (.ref 34 :: [s0, s1, s2]) (HH mi ml) = ev E M c L (.int (if 0 ≤ sumI (cA mi) 5 then 1 else 0) :: [s0, s1, s2]) (HH (if 0 ≤ sumI (cA mi) 5 then ffI mi ml m else mi) (if 0 ≤ sumI (cA mi) 5 then ffJ mi ml m else ml)) := e_inv (as := [.ref 34]) (S := [s0, s1, s2]) rfl rfl (Nat.le_of_ble_eq_true rfl) (rfl) (ct_Circuit_findFeeding hm hm5 hp hy hA)
/-- of those that give back the one that gives back most -/
def gbm (mi : Nat → Nat → Int32) : Nat → Option Nat
  | 0 => none
  | i + 1 => if 0 ≤ mi 42 i then gbm mi i else (match gbm mi i with
    | none => some i
    | some f => if mi 42 f ≤ mi 42 i then some f else some i)
theorem gbm_lt {mi : Nat → Nat → Int32} : ∀ {i f : Nat}, gbm mi i = some f → f < i := by
  intro i
  induction i with
  | zero => intro f h; cases h
  | succ i ih =>
    intro f h
    rw [gbm] at h
    split at h
    · have := ih h; omega
    · split at h
      · cases h; omega
      · rename_i g hg
        have := ih hg
        split at h <;> cases h <;> omega
theorem ct_Circuit_givingBackMost   : ev E 54 (am_B 54 0) [.ref 34, am_dm, am_dm] [] (HH mi ml) = some (some (.int (oI (gbm mi 5))), HH mi ml) := by
  simp only [b_54_e, b_54_37, b_54_39, b_54_45, k_m1, e_istore_1, e_kpi, e_kpr, e_kpl, e_kpd, k_0, e_istore_2, e_jsr, e_iload_2, k_5, e_icmp_ge, e_aloadr_0, g_8_34, il_2, il_5, il_33, il_35, il_36, il_41, il_42, il_tp, il_ta, il_sc, il_po, ik_2_0, ik_2_1, ik_2_2, ik_2_3, ik_2_4, e_if_ge, e_iload_1, e_if_lt, e_iinc_2, e_goto, e_iret, eq_self]
  have hl := loop_up (fun i => ev E 54 (am_B 54 (Int.toNat 4)) [.ref 34, .int (oI (gbm mi i)), .int (nI i)] [] (HH mi ml)) 0 5 (fun i _ hi => by
    refine hd b_54_4 ?_
    rw [gbm]
    by_cases h1 : 0 ≤ mi 42 i
    · simp only [b_54_e, b_54_37, b_54_39, b_54_45, k_m1, e_istore_1, e_kpi, e_kpr, e_kpl, e_kpd, k_0, e_istore_2, e_jsr, e_iload_2, k_5, e_icmp_ge, e_aloadr_0, g_8_34, il_2, il_5, il_33, il_35, il_36, il_41, il_42, il_tp, il_ta, il_sc, il_po, ik_2_0, ik_2_1, ik_2_2, ik_2_3, ik_2_4, e_if_ge, e_iload_1, e_if_lt, e_iinc_2, e_goto, e_iret, eq_self, le5 hi, hi, h1, not_true_eq_false, not_false_eq_true, if_true, if_false, true_or, or_true, false_or, or_false, true_and, and_true, false_and, and_false, and_self, or_self, reduceIte, Bool.false_eq_true, i10, i01, e_inc1]
    · cases hf : gbm mi i with
      | none => simp only [b_54_e, b_54_37, b_54_39, b_54_45, k_m1, e_istore_1, e_kpi, e_kpr, e_kpl, e_kpd, k_0, e_istore_2, e_jsr, e_iload_2, k_5, e_icmp_ge, e_aloadr_0, g_8_34, il_2, il_5, il_33, il_35, il_36, il_41, il_42, il_tp, il_ta, il_sc, il_po, ik_2_0, ik_2_1, ik_2_2, ik_2_3, ik_2_4, e_if_ge, e_iload_1, e_if_lt, e_iinc_2, e_goto, e_iret, eq_self, le5 hi, hi, h1, not_true_eq_false, not_false_eq_true, if_true, if_false, true_or, or_true, false_or, or_false, true_and, and_true, false_and, and_false, and_self, or_self, reduceIte, Bool.false_eq_true, i10, i01, e_inc1, oI_n, oI_s, lt_nN]
      | some f =>
        have hf5 : f < 5 := by have := gbm_lt hf; omega
        by_cases h2 : mi 42 f ≤ mi 42 i
        · simp only [b_54_e, b_54_37, b_54_39, b_54_45, k_m1, e_istore_1, e_kpi, e_kpr, e_kpl, e_kpd, k_0, e_istore_2, e_jsr, e_iload_2, k_5, e_icmp_ge, e_aloadr_0, g_8_34, il_2, il_5, il_33, il_35, il_36, il_41, il_42, il_tp, il_ta, il_sc, il_po, ik_2_0, ik_2_1, ik_2_2, ik_2_3, ik_2_4, e_if_ge, e_iload_1, e_if_lt, e_iinc_2, e_goto, e_iret, eq_self, le5 hi, hi, hf5, h1, h2, not_true_eq_false, not_false_eq_true, if_true, if_false, true_or, or_true, false_or, or_false, true_and, and_true, false_and, and_false, and_self, or_self, reduceIte, Bool.false_eq_true, i10, i01, e_inc1, oI_n, oI_s, lt_sN hf5]
        · simp only [b_54_e, b_54_37, b_54_39, b_54_45, k_m1, e_istore_1, e_kpi, e_kpr, e_kpl, e_kpd, k_0, e_istore_2, e_jsr, e_iload_2, k_5, e_icmp_ge, e_aloadr_0, g_8_34, il_2, il_5, il_33, il_35, il_36, il_41, il_42, il_tp, il_ta, il_sc, il_po, ik_2_0, ik_2_1, ik_2_2, ik_2_3, ik_2_4, e_if_ge, e_iload_1, e_if_lt, e_iinc_2, e_goto, e_iret, eq_self, le5 hi, hi, hf5, h1, h2, not_true_eq_false, not_false_eq_true, if_true, if_false, true_or, or_true, false_or, or_false, true_and, and_true, false_and, and_false, and_self, or_self, reduceIte, Bool.false_eq_true, i10, i01, e_inc1, oI_n, oI_s, lt_sN hf5]) (by decide)
  refine Eq.trans (show _ = _ from hl) ?_
  simp only [b_54_4, b_54_e, b_54_37, b_54_39, b_54_45, k_m1, e_istore_1, e_kpi, e_kpr, e_kpl, e_kpd, k_0, e_istore_2, e_jsr, e_iload_2, k_5, e_icmp_ge, e_aloadr_0, g_8_34, il_2, il_5, il_33, il_35, il_36, il_41, il_42, il_tp, il_ta, il_sc, il_po, ik_2_0, ik_2_1, ik_2_2, ik_2_3, ik_2_4, e_if_ge, e_iload_1, e_if_lt, e_iinc_2, e_goto, e_iret, eq_self, le55, not_true_eq_false, not_false_eq_true, if_true, if_false, true_or, or_true, false_or, or_false, true_and, and_true, false_and, and_false, and_self, or_self, reduceIte, Bool.false_eq_true, i10, i01]
theorem cc_Circuit_givingBackMost_0 {M : Nat} {c : List Instr} {L : List Value}   : ev E M (.invokevirtual 54 :: c) L (.ref 34 :: []) (HH mi ml) = ev E M c L (.int (oI (gbm mi 5)) :: []) (HH mi ml) := e_inv (as := [.ref 34]) (S := []) rfl rfl (Nat.le_of_ble_eq_true rfl) (rfl) (ct_Circuit_givingBackMost )
theorem cc_Circuit_givingBackMost_1 {M : Nat} {c : List Instr} {L : List Value} {s0 : Value}   : ev E M (.invokevirtual 54 :: c) L (.ref 34 :: [s0]) (HH mi ml) = ev E M c L (.int (oI (gbm mi 5)) :: [s0]) (HH mi ml) := e_inv (as := [.ref 34]) (S := [s0]) rfl rfl (Nat.le_of_ble_eq_true rfl) (rfl) (ct_Circuit_givingBackMost )
theorem cc_Circuit_givingBackMost_2 {M : Nat} {c : List Instr} {L : List Value} {s0 s1 : Value}   : ev E M (.invokevirtual 54 :: c) L (.ref 34 :: [s0, s1]) (HH mi ml) = ev E M c L (.int (oI (gbm mi 5)) :: [s0, s1]) (HH mi ml) := e_inv (as := [.ref 34]) (S := [s0, s1]) rfl rfl (Nat.le_of_ble_eq_true rfl) (rfl) (ct_Circuit_givingBackMost )
theorem cc_Circuit_givingBackMost_3 {M : Nat} {c : List Instr} {L : List Value} {s0 s1 s2 : Value}   : ev E M (.invokevirtual 54 :: c) L (.ref 34 :: [s0, s1, s2]) (HH mi ml) = ev E M c L (.int (oI (gbm mi 5)) :: [s0, s1, s2]) (HH mi ml) := e_inv (as := [.ref 34]) (S := [s0, s1, s2]) rfl rfl (Nat.le_of_ble_eq_true rfl) (rfl) (ct_Circuit_givingBackMost )
end Cl7
end
section
/-! VOLTS -/
theorem leN {a b : Nat} (ha : a < 5) (hb : b < 5) : (nI a ≤ nI b) = (a ≤ b) := propext (nI_leI (by omega) (by omega))
theorem ltN {a b : Nat} (ha : a < 5) (hb : b < 5) : (nI a < nI b) = (a < b) := propext (nI_ltI (by omega) (by omega))
theorem eqN {a b : Nat} (ha : a < 5) (hb : b < 5) : (nI a = nI b) = (a = b) := propext (nI_eq (by omega) (by omega))
theorem le_m1 {p : Nat} (h : p < 5) : ((-1 : Int32) < nI p) = True := eq_true (by
  rw [Int32.lt_iff_toInt_lt, nI_toInt (by omega)]
  have : (-1 : Int32).toInt = -1 := rfl
  omega)
theorem nlt_m1 {p : Nat} (h : p < 5) : (nI p < (-1 : Int32)) = False := eq_false (by
  rw [Int32.lt_iff_toInt_lt, nI_toInt (by omega)]
  have : (-1 : Int32).toInt = -1 := rfl
  omega)
theorem le_pm1 {p : Nat} (h : p < 5) : (nI p ≤ (-1 : Int32)) = False := eq_false (by
  rw [Int32.le_iff_toInt_le, nI_toInt (by omega)]
  have : (-1 : Int32).toInt = -1 := rfl
  omega)
theorem le_m1p {p : Nat} (h : p < 5) : ((-1 : Int32) ≤ nI p) = True := eq_true (by
  rw [Int32.le_iff_toInt_le, nI_toInt (by omega)]
  have : (-1 : Int32).toInt = -1 := rfl
  omega)
theorem eq_pm1 {p : Nat} (h : p < 5) : (nI p = (-1 : Int32)) = False := eq_false (fun q => by
  have := congrArg Int32.toInt q
  rw [nI_toInt (by omega)] at this
  have h1 : (-1 : Int32).toInt = -1 := rfl
  omega)
theorem eq_m1p {p : Nat} (h : p < 5) : ((-1 : Int32) = nI p) = False := eq_false (fun q => by
  have := congrArg Int32.toInt q
  rw [nI_toInt (by omega)] at this
  have h1 : (-1 : Int32).toInt = -1 := rfl
  omega)
def bfV (mi : Nat → Nat → Int32) (x : Int32) : Nat → Option Nat
  | 0 => none
  | i + 1 => if cF mi i = true ∧ mi 36 i ≤ x then some i else bfV mi x i
def afV (mi : Nat → Nat → Int32) (x : Int32) : Nat → Option Nat
  | 0 => none
  | i + 1 => if cF mi i = true ∧ x ≤ mi 36 i ∧ afV mi x i = none then some i else afV mi x i
theorem bfV_some {mi : Nat → Nat → Int32} {x : Int32} : ∀ {i p : Nat}, bfV mi x i = some p → p < i ∧ cF mi p = true ∧ mi 36 p ≤ x ∧ ∀ j, p < j → j < i → ¬ (cF mi j = true ∧ mi 36 j ≤ x) := by
  intro i
  induction i with
  | zero => intro p h; cases h
  | succ i ih =>
    intro p h
    rw [bfV] at h
    by_cases hc : cF mi i = true ∧ mi 36 i ≤ x
    · rw [if_pos hc] at h
      cases h
      exact ⟨by omega, hc.1, hc.2, fun j h1 h2 => by omega⟩
    · rw [if_neg hc] at h
      obtain ⟨h1, h2, h3, h4⟩ := ih h
      refine ⟨by omega, h2, h3, fun j g1 g2 => ?_⟩
      by_cases hj : j = i
      · subst hj; exact hc
      · exact h4 j g1 (by omega)
theorem bfV_none {mi : Nat → Nat → Int32} {x : Int32} : ∀ {i : Nat}, bfV mi x i = none → ∀ j, j < i → ¬ (cF mi j = true ∧ mi 36 j ≤ x) := by
  intro i
  induction i with
  | zero => intro h j hj; omega
  | succ i ih =>
    intro h j hj
    rw [bfV] at h
    by_cases hc : cF mi i = true ∧ mi 36 i ≤ x
    · rw [if_pos hc] at h; cases h
    · rw [if_neg hc] at h
      by_cases hji : j = i
      · subst hji; exact hc
      · exact ih h j (by omega)
theorem afV_some {mi : Nat → Nat → Int32} {x : Int32} : ∀ {i p : Nat}, afV mi x i = some p → p < i ∧ cF mi p = true ∧ x ≤ mi 36 p ∧ ∀ j, j < p → ¬ (cF mi j = true ∧ x ≤ mi 36 j) := by
  intro i
  induction i with
  | zero => intro p h; cases h
  | succ i ih =>
    intro p h
    rw [afV] at h
    by_cases hc : cF mi i = true ∧ x ≤ mi 36 i ∧ afV mi x i = none
    · rw [if_pos hc] at h
      cases h
      refine ⟨by omega, hc.1, hc.2.1, ?_⟩
      have hn := hc.2.2
      clear ih hc
      intro j hj
      induction i with
      | zero => omega
      | succ i ih2 =>
        rw [afV] at hn
        by_cases hc2 : cF mi i = true ∧ x ≤ mi 36 i ∧ afV mi x i = none
        · rw [if_pos hc2] at hn; cases hn
        · rw [if_neg hc2] at hn
          by_cases hji : j = i
          · subst hji; exact fun q => hc2 ⟨q.1, q.2, hn⟩
          · exact ih2 hn (by omega)
    · rw [if_neg hc] at h
      obtain ⟨h1, h2, h3, h4⟩ := ih h
      exact ⟨by omega, h2, h3, h4⟩
theorem afV_none {mi : Nat → Nat → Int32} {x : Int32} : ∀ {i : Nat}, afV mi x i = none → ∀ j, j < i → ¬ (cF mi j = true ∧ x ≤ mi 36 j) := by
  intro i
  induction i with
  | zero => intro h j hj; omega
  | succ i ih =>
    intro h j hj
    rw [afV] at h
    by_cases hc : cF mi i = true ∧ x ≤ mi 36 i ∧ afV mi x i = none
    · rw [if_pos hc] at h; cases h
    · rw [if_neg hc] at h
      by_cases hji : j = i
      · subst hji; exact fun q => hc ⟨q.1, q.2, h⟩
      · exact ih h j (by omega)
def gapV (mi : Nat → Nat → Int32) (bf af : Option Nat) : Int := match bf, af with
  | some p, some q => if p < q then cP mi q - cP mi p else 1
  | _, _ => 1
def losB (mi : Nat → Nat → Int32) (a x : Int) : Int := sumI (fun n => tmY (cTh mi n) (cY mi n) (cA mi n) a x) 5
def losV (mi : Nat → Nat → Int32) (x : Int) (bf af : Option Nat) : Int := match bf, af with
  | some p, some q => if p < q then sumI (fun n => tmB (cTh mi n) (cY mi n) (cA mi n) (cP mi p) (cP mi q) x) 5 else if p = q then 0 else losB mi (cP mi p) x
  | some p, none => losB mi (cP mi p) x
  | none, some q => losB mi (cP mi q) x
  | none, none => 0
def vUp (mi : Nat → Nat → Int32) (m : Nat) (x : Int32) : Int := 1000 * (mi 2 2).toInt * gapV mi (bfV mi x m) (afV mi x m) - (mi 2 1).toInt * losV mi x.toInt (bfV mi x m) (afV mi x m)
def vDn (mi : Nat → Nat → Int32) (m : Nat) (x : Int32) : Int := 1000 * gapV mi (bfV mi x m) (afV mi x m)
theorem Int64.ofInt_sub' (a b : Int) : Int64.ofInt (a - b) = Int64.ofInt a - Int64.ofInt b := by rw [Int64.ofInt_sub]
section Cl8
variable {E : aE} {mi : Nat → Nat → Int32} {ml : Nat → Nat → Int64}
theorem ct_Circuit_voltsAt {m k : Nat} {x : Int32} (hk : am_LAY[k]? = some (.inl 4)) (hm : mi 34 5 = nI m) (hm5 : m ≤ 5) (hx : bd x) (hp : ∀ n, n < m → bd (mi 36 n)) (hy : ∀ n, n < 5 → cTh mi n = true → bd (mi 41 n)) : ev E 55 (am_B 55 0) [.ref 34, .int x, .ref k, am_dm, am_dm, am_dm, am_dm, am_dm, am_dm] [] (HH mi ml) = some (none, HH mi (am_up (am_up ml k 0 (Int64.ofInt (vUp mi m x))) k 1 (Int64.ofInt (vDn mi m x)))) := by
  simp only [b_55_e, b_55_41, b_55_71, b_55_77, b_55_133, b_55_157, k_m1, e_istore_3, e_kpi, e_kpr, e_kpl, e_kpd, e_istore_4, k_0, e_istore_5, e_jsr, e_iload_5, e_aloadr_0, g_5_34, e_icmp_ge, g_2_34, il_37, il_40, e_if_eq, g_1_34, il_2, il_5, il_33, il_35, il_36, il_41, il_42, il_tp, il_ta, il_sc, il_po, ik_2_0, ik_2_1, ik_2_2, ik_2_3, ik_2_4, e_iload_1, e_icmp_gt, e_icmp_lt, e_iload_4, e_if_ge, e_iinc_5, e_goto, kl_1, e_lstore_5, kl_0, e_lstore_7, e_iload_3, e_if_lt, e_icmp_le, e_isub, e_i2l, cc_Circuit_lostBetween_0, cc_Circuit_lostBetween_1, cc_Circuit_lostBetween_2, cc_Circuit_lostBetween_3, Option.toList_some, Option.toList_none, List.cons_append, List.nil_append, e_icmp_eq, e_fadd_0, e_fadd_1, e_fadd_2, e_fadd_3, e_fadd_4, cc_Circuit_lostBeyond_0, cc_Circuit_lostBeyond_1, cc_Circuit_lostBeyond_2, cc_Circuit_lostBeyond_3, e_aloadr_2, kl_1000, g_9_34, k_2, e_lmul, e_lload_5, k_1, e_lload_7, e_lsub, cc_Share_become_0, cc_Share_become_1, cc_Share_become_2, cc_Share_become_3, lay_27, lay_28, lay_30, lay_31, lay_32, lay_43, lay_44, lay_46, lay_49, lay_60, e_ret, eq_self]
  have hl := loop_up (fun i => ev E 55 (am_B 55 (Int.toNat 8)) [.ref 34, .int x, .ref k, .int (oI (bfV mi x i)), .int (oI (afV mi x i)), .int (nI i), am_dm, am_dm, am_dm] [] (HH mi ml)) 0 m (fun i _ hi => by
    refine hd b_55_8 ?_
    have hi5 : i < 5 := by omega
    rw [bfV, afV]
    by_cases h1 : mi 37 i = 0
    · have hc : cF mi i = false := by simp [cF, h1]
      simp only [b_55_e, b_55_41, b_55_71, b_55_77, b_55_133, b_55_157, k_m1, e_istore_3, e_kpi, e_kpr, e_kpl, e_kpd, e_istore_4, k_0, e_istore_5, e_jsr, e_iload_5, e_aloadr_0, g_5_34, e_icmp_ge, g_2_34, il_37, il_40, e_if_eq, g_1_34, il_2, il_5, il_33, il_35, il_36, il_41, il_42, il_tp, il_ta, il_sc, il_po, ik_2_0, ik_2_1, ik_2_2, ik_2_3, ik_2_4, e_iload_1, e_icmp_gt, e_icmp_lt, e_iload_4, e_if_ge, e_iinc_5, e_goto, kl_1, e_lstore_5, kl_0, e_lstore_7, e_iload_3, e_if_lt, e_icmp_le, e_isub, e_i2l, cc_Circuit_lostBetween_0, cc_Circuit_lostBetween_1, cc_Circuit_lostBetween_2, cc_Circuit_lostBetween_3, Option.toList_some, Option.toList_none, List.cons_append, List.nil_append, e_icmp_eq, e_fadd_0, e_fadd_1, e_fadd_2, e_fadd_3, e_fadd_4, cc_Circuit_lostBeyond_0, cc_Circuit_lostBeyond_1, cc_Circuit_lostBeyond_2, cc_Circuit_lostBeyond_3, e_aloadr_2, kl_1000, g_9_34, k_2, e_lmul, e_lload_5, k_1, e_lload_7, e_lsub, cc_Share_become_0, cc_Share_become_1, cc_Share_become_2, cc_Share_become_3, lay_27, lay_28, lay_30, lay_31, lay_32, lay_43, lay_44, lay_46, lay_49, lay_60, e_ret, eq_self, hm, lec (show m < 1000 by omega) hi, hi5, h1, hc, not_true_eq_false, not_false_eq_true, if_true, if_false, true_or, or_true, false_or, or_false, true_and, and_true, false_and, and_false, and_self, or_self, reduceIte, Bool.false_eq_true, i10, i01, e_inc1]
    · have hc : cF mi i = true := by simp [cF, h1]
      have hle : ¬ x < mi 36 i ↔ mi 36 i ≤ x := Int32.not_lt
      have hle2 : ¬ mi 36 i < x ↔ x ≤ mi 36 i := Int32.not_lt
      by_cases h2 : x < mi 36 i <;> by_cases h3 : mi 36 i < x
      · exact absurd h3 (Int32.lt_asymm h2)
      · have g2 : ¬ mi 36 i ≤ x := Int32.not_le.mpr h2
        have g3 := hle2.mp h3
        cases hf : afV mi x i with
        | none => simp only [b_55_e, b_55_41, b_55_71, b_55_77, b_55_133, b_55_157, k_m1, e_istore_3, e_kpi, e_kpr, e_kpl, e_kpd, e_istore_4, k_0, e_istore_5, e_jsr, e_iload_5, e_aloadr_0, g_5_34, e_icmp_ge, g_2_34, il_37, il_40, e_if_eq, g_1_34, il_2, il_5, il_33, il_35, il_36, il_41, il_42, il_tp, il_ta, il_sc, il_po, ik_2_0, ik_2_1, ik_2_2, ik_2_3, ik_2_4, e_iload_1, e_icmp_gt, e_icmp_lt, e_iload_4, e_if_ge, e_iinc_5, e_goto, kl_1, e_lstore_5, kl_0, e_lstore_7, e_iload_3, e_if_lt, e_icmp_le, e_isub, e_i2l, cc_Circuit_lostBetween_0, cc_Circuit_lostBetween_1, cc_Circuit_lostBetween_2, cc_Circuit_lostBetween_3, Option.toList_some, Option.toList_none, List.cons_append, List.nil_append, e_icmp_eq, e_fadd_0, e_fadd_1, e_fadd_2, e_fadd_3, e_fadd_4, cc_Circuit_lostBeyond_0, cc_Circuit_lostBeyond_1, cc_Circuit_lostBeyond_2, cc_Circuit_lostBeyond_3, e_aloadr_2, kl_1000, g_9_34, k_2, e_lmul, e_lload_5, k_1, e_lload_7, e_lsub, cc_Share_become_0, cc_Share_become_1, cc_Share_become_2, cc_Share_become_3, lay_27, lay_28, lay_30, lay_31, lay_32, lay_43, lay_44, lay_46, lay_49, lay_60, e_ret, eq_self, hm, lec (show m < 1000 by omega) hi, hi5, h1, hc, h2, h3, g2, g3, not_true_eq_false, not_false_eq_true, if_true, if_false, true_or, or_true, false_or, or_false, true_and, and_true, false_and, and_false, and_self, or_self, reduceIte, Bool.false_eq_true, i10, i01, e_inc1, oI_n, oI_s, ge_n]
        | some f =>
          have hf5 : f < 5 := by have := afV_some hf; omega
          simp only [b_55_e, b_55_41, b_55_71, b_55_77, b_55_133, b_55_157, k_m1, e_istore_3, e_kpi, e_kpr, e_kpl, e_kpd, e_istore_4, k_0, e_istore_5, e_jsr, e_iload_5, e_aloadr_0, g_5_34, e_icmp_ge, g_2_34, il_37, il_40, e_if_eq, g_1_34, il_2, il_5, il_33, il_35, il_36, il_41, il_42, il_tp, il_ta, il_sc, il_po, ik_2_0, ik_2_1, ik_2_2, ik_2_3, ik_2_4, e_iload_1, e_icmp_gt, e_icmp_lt, e_iload_4, e_if_ge, e_iinc_5, e_goto, kl_1, e_lstore_5, kl_0, e_lstore_7, e_iload_3, e_if_lt, e_icmp_le, e_isub, e_i2l, cc_Circuit_lostBetween_0, cc_Circuit_lostBetween_1, cc_Circuit_lostBetween_2, cc_Circuit_lostBetween_3, Option.toList_some, Option.toList_none, List.cons_append, List.nil_append, e_icmp_eq, e_fadd_0, e_fadd_1, e_fadd_2, e_fadd_3, e_fadd_4, cc_Circuit_lostBeyond_0, cc_Circuit_lostBeyond_1, cc_Circuit_lostBeyond_2, cc_Circuit_lostBeyond_3, e_aloadr_2, kl_1000, g_9_34, k_2, e_lmul, e_lload_5, k_1, e_lload_7, e_lsub, cc_Share_become_0, cc_Share_become_1, cc_Share_become_2, cc_Share_become_3, lay_27, lay_28, lay_30, lay_31, lay_32, lay_43, lay_44, lay_46, lay_49, lay_60, e_ret, eq_self, hm, lec (show m < 1000 by omega) hi, hi5, h1, hc, h2, h3, g2, g3, not_true_eq_false, not_false_eq_true, if_true, if_false, true_or, or_true, false_or, or_false, true_and, and_true, false_and, and_false, and_self, or_self, reduceIte, Bool.false_eq_true, i10, i01, e_inc1, oI_n, oI_s, ge_s hf5, reduceCtorEq]
      · have g2 := hle.mp h2
        have g3 : ¬ x ≤ mi 36 i := Int32.not_le.mpr h3
        simp only [b_55_e, b_55_41, b_55_71, b_55_77, b_55_133, b_55_157, k_m1, e_istore_3, e_kpi, e_kpr, e_kpl, e_kpd, e_istore_4, k_0, e_istore_5, e_jsr, e_iload_5, e_aloadr_0, g_5_34, e_icmp_ge, g_2_34, il_37, il_40, e_if_eq, g_1_34, il_2, il_5, il_33, il_35, il_36, il_41, il_42, il_tp, il_ta, il_sc, il_po, ik_2_0, ik_2_1, ik_2_2, ik_2_3, ik_2_4, e_iload_1, e_icmp_gt, e_icmp_lt, e_iload_4, e_if_ge, e_iinc_5, e_goto, kl_1, e_lstore_5, kl_0, e_lstore_7, e_iload_3, e_if_lt, e_icmp_le, e_isub, e_i2l, cc_Circuit_lostBetween_0, cc_Circuit_lostBetween_1, cc_Circuit_lostBetween_2, cc_Circuit_lostBetween_3, Option.toList_some, Option.toList_none, List.cons_append, List.nil_append, e_icmp_eq, e_fadd_0, e_fadd_1, e_fadd_2, e_fadd_3, e_fadd_4, cc_Circuit_lostBeyond_0, cc_Circuit_lostBeyond_1, cc_Circuit_lostBeyond_2, cc_Circuit_lostBeyond_3, e_aloadr_2, kl_1000, g_9_34, k_2, e_lmul, e_lload_5, k_1, e_lload_7, e_lsub, cc_Share_become_0, cc_Share_become_1, cc_Share_become_2, cc_Share_become_3, lay_27, lay_28, lay_30, lay_31, lay_32, lay_43, lay_44, lay_46, lay_49, lay_60, e_ret, eq_self, hm, lec (show m < 1000 by omega) hi, hi5, h1, hc, h2, h3, g2, g3, not_true_eq_false, not_false_eq_true, if_true, if_false, true_or, or_true, false_or, or_false, true_and, and_true, false_and, and_false, and_self, or_self, reduceIte, Bool.false_eq_true, i10, i01, e_inc1, oI_s]
      · have g2 := hle.mp h2
        have g3 := hle2.mp h3
        cases hf : afV mi x i with
        | none => simp only [b_55_e, b_55_41, b_55_71, b_55_77, b_55_133, b_55_157, k_m1, e_istore_3, e_kpi, e_kpr, e_kpl, e_kpd, e_istore_4, k_0, e_istore_5, e_jsr, e_iload_5, e_aloadr_0, g_5_34, e_icmp_ge, g_2_34, il_37, il_40, e_if_eq, g_1_34, il_2, il_5, il_33, il_35, il_36, il_41, il_42, il_tp, il_ta, il_sc, il_po, ik_2_0, ik_2_1, ik_2_2, ik_2_3, ik_2_4, e_iload_1, e_icmp_gt, e_icmp_lt, e_iload_4, e_if_ge, e_iinc_5, e_goto, kl_1, e_lstore_5, kl_0, e_lstore_7, e_iload_3, e_if_lt, e_icmp_le, e_isub, e_i2l, cc_Circuit_lostBetween_0, cc_Circuit_lostBetween_1, cc_Circuit_lostBetween_2, cc_Circuit_lostBetween_3, Option.toList_some, Option.toList_none, List.cons_append, List.nil_append, e_icmp_eq, e_fadd_0, e_fadd_1, e_fadd_2, e_fadd_3, e_fadd_4, cc_Circuit_lostBeyond_0, cc_Circuit_lostBeyond_1, cc_Circuit_lostBeyond_2, cc_Circuit_lostBeyond_3, e_aloadr_2, kl_1000, g_9_34, k_2, e_lmul, e_lload_5, k_1, e_lload_7, e_lsub, cc_Share_become_0, cc_Share_become_1, cc_Share_become_2, cc_Share_become_3, lay_27, lay_28, lay_30, lay_31, lay_32, lay_43, lay_44, lay_46, lay_49, lay_60, e_ret, eq_self, hm, lec (show m < 1000 by omega) hi, hi5, h1, hc, h2, h3, g2, g3, not_true_eq_false, not_false_eq_true, if_true, if_false, true_or, or_true, false_or, or_false, true_and, and_true, false_and, and_false, and_self, or_self, reduceIte, Bool.false_eq_true, i10, i01, e_inc1, oI_n, oI_s, ge_n]
        | some f =>
          have hf5 : f < 5 := by have := afV_some hf; omega
          simp only [b_55_e, b_55_41, b_55_71, b_55_77, b_55_133, b_55_157, k_m1, e_istore_3, e_kpi, e_kpr, e_kpl, e_kpd, e_istore_4, k_0, e_istore_5, e_jsr, e_iload_5, e_aloadr_0, g_5_34, e_icmp_ge, g_2_34, il_37, il_40, e_if_eq, g_1_34, il_2, il_5, il_33, il_35, il_36, il_41, il_42, il_tp, il_ta, il_sc, il_po, ik_2_0, ik_2_1, ik_2_2, ik_2_3, ik_2_4, e_iload_1, e_icmp_gt, e_icmp_lt, e_iload_4, e_if_ge, e_iinc_5, e_goto, kl_1, e_lstore_5, kl_0, e_lstore_7, e_iload_3, e_if_lt, e_icmp_le, e_isub, e_i2l, cc_Circuit_lostBetween_0, cc_Circuit_lostBetween_1, cc_Circuit_lostBetween_2, cc_Circuit_lostBetween_3, Option.toList_some, Option.toList_none, List.cons_append, List.nil_append, e_icmp_eq, e_fadd_0, e_fadd_1, e_fadd_2, e_fadd_3, e_fadd_4, cc_Circuit_lostBeyond_0, cc_Circuit_lostBeyond_1, cc_Circuit_lostBeyond_2, cc_Circuit_lostBeyond_3, e_aloadr_2, kl_1000, g_9_34, k_2, e_lmul, e_lload_5, k_1, e_lload_7, e_lsub, cc_Share_become_0, cc_Share_become_1, cc_Share_become_2, cc_Share_become_3, lay_27, lay_28, lay_30, lay_31, lay_32, lay_43, lay_44, lay_46, lay_49, lay_60, e_ret, eq_self, hm, lec (show m < 1000 by omega) hi, hi5, h1, hc, h2, h3, g2, g3, not_true_eq_false, not_false_eq_true, if_true, if_false, true_or, or_true, false_or, or_false, true_and, and_true, false_and, and_false, and_self, or_self, reduceIte, Bool.false_eq_true, i10, i01, e_inc1, oI_n, oI_s, ge_s hf5, reduceCtorEq]) (by omega)
  refine Eq.trans (show _ = _ from hl) ?_
  unfold vUp vDn
  have hbf : ∀ p, bfV mi x m = some p → p < 5 ∧ bd (mi 36 p) := fun p q => by have := bfV_some q; exact ⟨by omega, hp p this.1⟩
  have haf : ∀ p, afV mi x m = some p → p < 5 ∧ bd (mi 36 p) := fun p q => by have := afV_some q; exact ⟨by omega, hp p this.1⟩
  simp only [b_55_8, b_55_e, b_55_41, b_55_71, b_55_77, b_55_133, b_55_157, k_m1, e_istore_3, e_kpi, e_kpr, e_kpl, e_kpd, e_istore_4, k_0, e_istore_5, e_jsr, e_iload_5, e_aloadr_0, g_5_34, e_icmp_ge, g_2_34, il_37, il_40, e_if_eq, g_1_34, il_2, il_5, il_33, il_35, il_36, il_41, il_42, il_tp, il_ta, il_sc, il_po, ik_2_0, ik_2_1, ik_2_2, ik_2_3, ik_2_4, e_iload_1, e_icmp_gt, e_icmp_lt, e_iload_4, e_if_ge, e_iinc_5, e_goto, kl_1, e_lstore_5, kl_0, e_lstore_7, e_iload_3, e_if_lt, e_icmp_le, e_isub, e_i2l, cc_Circuit_lostBetween_0, cc_Circuit_lostBetween_1, cc_Circuit_lostBetween_2, cc_Circuit_lostBetween_3, Option.toList_some, Option.toList_none, List.cons_append, List.nil_append, e_icmp_eq, e_fadd_0, e_fadd_1, e_fadd_2, e_fadd_3, e_fadd_4, cc_Circuit_lostBeyond_0, cc_Circuit_lostBeyond_1, cc_Circuit_lostBeyond_2, cc_Circuit_lostBeyond_3, e_aloadr_2, kl_1000, g_9_34, k_2, e_lmul, e_lload_5, k_1, e_lload_7, e_lsub, cc_Share_become_0, cc_Share_become_1, cc_Share_become_2, cc_Share_become_3, lay_27, lay_28, lay_30, lay_31, lay_32, lay_43, lay_44, lay_46, lay_49, lay_60, e_ret, eq_self, hm, lecc, not_true_eq_false, not_false_eq_true, if_true, if_false, true_or, or_true, false_or, or_false, true_and, and_true, false_and, and_false, and_self, or_self, reduceIte, Bool.false_eq_true, i10, i01]
  have fin : ∀ g lo : Int, Int64.ofInt (1000 * (mi 2 2).toInt * g - (mi 2 1).toInt * lo) = 1000 * (mi 2 2).toInt64 * Int64.ofInt g - (mi 2 1).toInt64 * Int64.ofInt lo := fun g lo => by
    rw [Int64.ofInt_sub', Int64.ofInt_mul, Int64.ofInt_mul, Int64.ofInt_mul, i64_of, i64_of]
    rfl
  have fin2 : ∀ g : Int, Int64.ofInt (1000 * g) = 1000 * Int64.ofInt g := fun g => by rw [Int64.ofInt_mul]; rfl
  rw [fin, fin2]
  cases hb : bfV mi x m with
  | none =>
    cases ha : afV mi x m with
    | none => simp only [b_55_e, b_55_41, b_55_71, b_55_77, b_55_133, b_55_157, k_m1, e_istore_3, e_kpi, e_kpr, e_kpl, e_kpd, e_istore_4, k_0, e_istore_5, e_jsr, e_iload_5, e_aloadr_0, g_5_34, e_icmp_ge, g_2_34, il_37, il_40, e_if_eq, g_1_34, il_2, il_5, il_33, il_35, il_36, il_41, il_42, il_tp, il_ta, il_sc, il_po, ik_2_0, ik_2_1, ik_2_2, ik_2_3, ik_2_4, e_iload_1, e_icmp_gt, e_icmp_lt, e_iload_4, e_if_ge, e_iinc_5, e_goto, kl_1, e_lstore_5, kl_0, e_lstore_7, e_iload_3, e_if_lt, e_icmp_le, e_isub, e_i2l, cc_Circuit_lostBetween_0, cc_Circuit_lostBetween_1, cc_Circuit_lostBetween_2, cc_Circuit_lostBetween_3, Option.toList_some, Option.toList_none, List.cons_append, List.nil_append, e_icmp_eq, e_fadd_0, e_fadd_1, e_fadd_2, e_fadd_3, e_fadd_4, cc_Circuit_lostBeyond_0, cc_Circuit_lostBeyond_1, cc_Circuit_lostBeyond_2, cc_Circuit_lostBeyond_3, e_aloadr_2, kl_1000, g_9_34, k_2, e_lmul, e_lload_5, k_1, e_lload_7, e_lsub, cc_Share_become_0, cc_Share_become_1, cc_Share_become_2, cc_Share_become_3, lay_27, lay_28, lay_30, lay_31, lay_32, lay_43, lay_44, lay_46, lay_49, lay_60, e_ret, eq_self, not_true_eq_false, not_false_eq_true, if_true, if_false, true_or, or_true, false_or, or_false, true_and, and_true, false_and, and_false, and_self, or_self, reduceIte, Bool.false_eq_true, i10, i01, oI_n, lt_nN, hk, gapV, losV, show Int64.ofInt 1 = 1 from rfl, show Int64.ofInt 0 = 0 from rfl]
    | some q =>
      obtain ⟨hq5, hqb⟩ := haf q ha
      simp only [b_55_e, b_55_41, b_55_71, b_55_77, b_55_133, b_55_157, k_m1, e_istore_3, e_kpi, e_kpr, e_kpl, e_kpd, e_istore_4, k_0, e_istore_5, e_jsr, e_iload_5, e_aloadr_0, g_5_34, e_icmp_ge, g_2_34, il_37, il_40, e_if_eq, g_1_34, il_2, il_5, il_33, il_35, il_36, il_41, il_42, il_tp, il_ta, il_sc, il_po, ik_2_0, ik_2_1, ik_2_2, ik_2_3, ik_2_4, e_iload_1, e_icmp_gt, e_icmp_lt, e_iload_4, e_if_ge, e_iinc_5, e_goto, kl_1, e_lstore_5, kl_0, e_lstore_7, e_iload_3, e_if_lt, e_icmp_le, e_isub, e_i2l, cc_Circuit_lostBetween_0, cc_Circuit_lostBetween_1, cc_Circuit_lostBetween_2, cc_Circuit_lostBetween_3, Option.toList_some, Option.toList_none, List.cons_append, List.nil_append, e_icmp_eq, e_fadd_0, e_fadd_1, e_fadd_2, e_fadd_3, e_fadd_4, cc_Circuit_lostBeyond_0, cc_Circuit_lostBeyond_1, cc_Circuit_lostBeyond_2, cc_Circuit_lostBeyond_3, e_aloadr_2, kl_1000, g_9_34, k_2, e_lmul, e_lload_5, k_1, e_lload_7, e_lsub, cc_Share_become_0, cc_Share_become_1, cc_Share_become_2, cc_Share_become_3, lay_27, lay_28, lay_30, lay_31, lay_32, lay_43, lay_44, lay_46, lay_49, lay_60, e_ret, eq_self, not_true_eq_false, not_false_eq_true, if_true, if_false, true_or, or_true, false_or, or_false, true_and, and_true, false_and, and_false, and_self, or_self, reduceIte, Bool.false_eq_true, i10, i01, oI_n, oI_s, lt_nN, eq_m1p hq5, le_m1 hq5, hq5, hk, gapV, losV, cc_Circuit_lostBeyond_0 hqb hx hy, show Int64.ofInt 1 = 1 from rfl]
      rfl
  | some p =>
    obtain ⟨hp5, hpb⟩ := hbf p hb
    cases ha : afV mi x m with
    | none =>
      simp only [b_55_e, b_55_41, b_55_71, b_55_77, b_55_133, b_55_157, k_m1, e_istore_3, e_kpi, e_kpr, e_kpl, e_kpd, e_istore_4, k_0, e_istore_5, e_jsr, e_iload_5, e_aloadr_0, g_5_34, e_icmp_ge, g_2_34, il_37, il_40, e_if_eq, g_1_34, il_2, il_5, il_33, il_35, il_36, il_41, il_42, il_tp, il_ta, il_sc, il_po, ik_2_0, ik_2_1, ik_2_2, ik_2_3, ik_2_4, e_iload_1, e_icmp_gt, e_icmp_lt, e_iload_4, e_if_ge, e_iinc_5, e_goto, kl_1, e_lstore_5, kl_0, e_lstore_7, e_iload_3, e_if_lt, e_icmp_le, e_isub, e_i2l, cc_Circuit_lostBetween_0, cc_Circuit_lostBetween_1, cc_Circuit_lostBetween_2, cc_Circuit_lostBetween_3, Option.toList_some, Option.toList_none, List.cons_append, List.nil_append, e_icmp_eq, e_fadd_0, e_fadd_1, e_fadd_2, e_fadd_3, e_fadd_4, cc_Circuit_lostBeyond_0, cc_Circuit_lostBeyond_1, cc_Circuit_lostBeyond_2, cc_Circuit_lostBeyond_3, e_aloadr_2, kl_1000, g_9_34, k_2, e_lmul, e_lload_5, k_1, e_lload_7, e_lsub, cc_Share_become_0, cc_Share_become_1, cc_Share_become_2, cc_Share_become_3, lay_27, lay_28, lay_30, lay_31, lay_32, lay_43, lay_44, lay_46, lay_49, lay_60, e_ret, eq_self, not_true_eq_false, not_false_eq_true, if_true, if_false, true_or, or_true, false_or, or_false, true_and, and_true, false_and, and_false, and_self, or_self, reduceIte, Bool.false_eq_true, i10, i01, oI_n, oI_s, lt_sN hp5, eq_pm1 hp5, le_m1p hp5, nlt_m1 hp5, hp5, hk, gapV, losV, cc_Circuit_lostBeyond_0 hpb hx hy, show Int64.ofInt 1 = 1 from rfl]
      rfl
    | some q =>
      obtain ⟨hq5, hqb⟩ := haf q ha
      by_cases h1 : p < q
      · simp only [b_55_e, b_55_41, b_55_71, b_55_77, b_55_133, b_55_157, k_m1, e_istore_3, e_kpi, e_kpr, e_kpl, e_kpd, e_istore_4, k_0, e_istore_5, e_jsr, e_iload_5, e_aloadr_0, g_5_34, e_icmp_ge, g_2_34, il_37, il_40, e_if_eq, g_1_34, il_2, il_5, il_33, il_35, il_36, il_41, il_42, il_tp, il_ta, il_sc, il_po, ik_2_0, ik_2_1, ik_2_2, ik_2_3, ik_2_4, e_iload_1, e_icmp_gt, e_icmp_lt, e_iload_4, e_if_ge, e_iinc_5, e_goto, kl_1, e_lstore_5, kl_0, e_lstore_7, e_iload_3, e_if_lt, e_icmp_le, e_isub, e_i2l, cc_Circuit_lostBetween_0, cc_Circuit_lostBetween_1, cc_Circuit_lostBetween_2, cc_Circuit_lostBetween_3, Option.toList_some, Option.toList_none, List.cons_append, List.nil_append, e_icmp_eq, e_fadd_0, e_fadd_1, e_fadd_2, e_fadd_3, e_fadd_4, cc_Circuit_lostBeyond_0, cc_Circuit_lostBeyond_1, cc_Circuit_lostBeyond_2, cc_Circuit_lostBeyond_3, e_aloadr_2, kl_1000, g_9_34, k_2, e_lmul, e_lload_5, k_1, e_lload_7, e_lsub, cc_Share_become_0, cc_Share_become_1, cc_Share_become_2, cc_Share_become_3, lay_27, lay_28, lay_30, lay_31, lay_32, lay_43, lay_44, lay_46, lay_49, lay_60, e_ret, eq_self, not_true_eq_false, not_false_eq_true, if_true, if_false, true_or, or_true, false_or, or_false, true_and, and_true, false_and, and_false, and_self, or_self, reduceIte, Bool.false_eq_true, i10, i01, oI_s, lt_sN hp5, leN hq5 hp5, show ¬ q ≤ p by omega, h1, hp5, hq5, hk, gapV, losV, cc_Circuit_lostBetween_0 hpb hqb hx hy, i64_of, i32sub hqb hpb]
        rfl
      · by_cases h2 : p = q
        · subst h2
          simp only [b_55_e, b_55_41, b_55_71, b_55_77, b_55_133, b_55_157, k_m1, e_istore_3, e_kpi, e_kpr, e_kpl, e_kpd, e_istore_4, k_0, e_istore_5, e_jsr, e_iload_5, e_aloadr_0, g_5_34, e_icmp_ge, g_2_34, il_37, il_40, e_if_eq, g_1_34, il_2, il_5, il_33, il_35, il_36, il_41, il_42, il_tp, il_ta, il_sc, il_po, ik_2_0, ik_2_1, ik_2_2, ik_2_3, ik_2_4, e_iload_1, e_icmp_gt, e_icmp_lt, e_iload_4, e_if_ge, e_iinc_5, e_goto, kl_1, e_lstore_5, kl_0, e_lstore_7, e_iload_3, e_if_lt, e_icmp_le, e_isub, e_i2l, cc_Circuit_lostBetween_0, cc_Circuit_lostBetween_1, cc_Circuit_lostBetween_2, cc_Circuit_lostBetween_3, Option.toList_some, Option.toList_none, List.cons_append, List.nil_append, e_icmp_eq, e_fadd_0, e_fadd_1, e_fadd_2, e_fadd_3, e_fadd_4, cc_Circuit_lostBeyond_0, cc_Circuit_lostBeyond_1, cc_Circuit_lostBeyond_2, cc_Circuit_lostBeyond_3, e_aloadr_2, kl_1000, g_9_34, k_2, e_lmul, e_lload_5, k_1, e_lload_7, e_lsub, cc_Share_become_0, cc_Share_become_1, cc_Share_become_2, cc_Share_become_3, lay_27, lay_28, lay_30, lay_31, lay_32, lay_43, lay_44, lay_46, lay_49, lay_60, e_ret, eq_self, not_true_eq_false, not_false_eq_true, if_true, if_false, true_or, or_true, false_or, or_false, true_and, and_true, false_and, and_false, and_self, or_self, reduceIte, Bool.false_eq_true, i10, i01, oI_s, lt_sN hp5, Int32.le_refl, Nat.lt_irrefl, hp5, hk, gapV, losV, show Int64.ofInt 1 = 1 from rfl, show Int64.ofInt 0 = 0 from rfl]
        · simp only [b_55_e, b_55_41, b_55_71, b_55_77, b_55_133, b_55_157, k_m1, e_istore_3, e_kpi, e_kpr, e_kpl, e_kpd, e_istore_4, k_0, e_istore_5, e_jsr, e_iload_5, e_aloadr_0, g_5_34, e_icmp_ge, g_2_34, il_37, il_40, e_if_eq, g_1_34, il_2, il_5, il_33, il_35, il_36, il_41, il_42, il_tp, il_ta, il_sc, il_po, ik_2_0, ik_2_1, ik_2_2, ik_2_3, ik_2_4, e_iload_1, e_icmp_gt, e_icmp_lt, e_iload_4, e_if_ge, e_iinc_5, e_goto, kl_1, e_lstore_5, kl_0, e_lstore_7, e_iload_3, e_if_lt, e_icmp_le, e_isub, e_i2l, cc_Circuit_lostBetween_0, cc_Circuit_lostBetween_1, cc_Circuit_lostBetween_2, cc_Circuit_lostBetween_3, Option.toList_some, Option.toList_none, List.cons_append, List.nil_append, e_icmp_eq, e_fadd_0, e_fadd_1, e_fadd_2, e_fadd_3, e_fadd_4, cc_Circuit_lostBeyond_0, cc_Circuit_lostBeyond_1, cc_Circuit_lostBeyond_2, cc_Circuit_lostBeyond_3, e_aloadr_2, kl_1000, g_9_34, k_2, e_lmul, e_lload_5, k_1, e_lload_7, e_lsub, cc_Share_become_0, cc_Share_become_1, cc_Share_become_2, cc_Share_become_3, lay_27, lay_28, lay_30, lay_31, lay_32, lay_43, lay_44, lay_46, lay_49, lay_60, e_ret, eq_self, not_true_eq_false, not_false_eq_true, if_true, if_false, true_or, or_true, false_or, or_false, true_and, and_true, false_and, and_false, and_self, or_self, reduceIte, Bool.false_eq_true, i10, i01, oI_s, lt_sN hp5, leN hq5 hp5, show q ≤ p by omega, eqN hp5 hq5, ltN hp5 hq5, h1, h2, hp5, hq5, hk, gapV, losV, cc_Circuit_lostBeyond_0 hpb hx hy, show Int64.ofInt 1 = 1 from rfl]
          rfl
theorem cc_Circuit_voltsAt_0 {M : Nat} {c : List Instr} {L : List Value} {m k : Nat} {x : Int32} (hk : am_LAY[k]? = some (.inl 4)) (hm : mi 34 5 = nI m) (hm5 : m ≤ 5) (hx : bd x) (hp : ∀ n, n < m → bd (mi 36 n)) (hy : ∀ n, n < 5 → cTh mi n = true → bd (mi 41 n)) : ev E M (.invokevirtual 55 :: c) L (.ref k :: .int x :: .ref 34 :: []) (HH mi ml) = ev E M c L [] (HH mi (am_up (am_up ml k 0 (Int64.ofInt (vUp mi m x))) k 1 (Int64.ofInt (vDn mi m x)))) := e_inv (as := [.ref 34, .int x, .ref k]) (S := []) rfl rfl (Nat.le_of_ble_eq_true rfl) (rfl) (ct_Circuit_voltsAt hk hm hm5 hx hp hy)
theorem cc_Circuit_voltsAt_1 {M : Nat} {c : List Instr} {L : List Value} {s0 : Value} {m k : Nat} {x : Int32} (hk : am_LAY[k]? = some (.inl 4)) (hm : mi 34 5 = nI m) (hm5 : m ≤ 5) (hx : bd x) (hp : ∀ n, n < m → bd (mi 36 n)) (hy : ∀ n, n < 5 → cTh mi n = true → bd (mi 41 n)) : ev E M (.invokevirtual 55 :: c) L (.ref k :: .int x :: .ref 34 :: [s0]) (HH mi ml) = ev E M c L [s0] (HH mi (am_up (am_up ml k 0 (Int64.ofInt (vUp mi m x))) k 1 (Int64.ofInt (vDn mi m x)))) := e_inv (as := [.ref 34, .int x, .ref k]) (S := [s0]) rfl rfl (Nat.le_of_ble_eq_true rfl) (rfl) (ct_Circuit_voltsAt hk hm hm5 hx hp hy)
theorem cc_Circuit_voltsAt_2 {M : Nat} {c : List Instr} {L : List Value} {s0 s1 : Value} {m k : Nat} {x : Int32} (hk : am_LAY[k]? = some (.inl 4)) (hm : mi 34 5 = nI m) (hm5 : m ≤ 5) (hx : bd x) (hp : ∀ n, n < m → bd (mi 36 n)) (hy : ∀ n, n < 5 → cTh mi n = true → bd (mi 41 n)) : ev E M (.invokevirtual 55 :: c) L (.ref k :: .int x :: .ref 34 :: [s0, s1]) (HH mi ml) = ev E M c L [s0, s1] (HH mi (am_up (am_up ml k 0 (Int64.ofInt (vUp mi m x))) k 1 (Int64.ofInt (vDn mi m x)))) := e_inv (as := [.ref 34, .int x, .ref k]) (S := [s0, s1]) rfl rfl (Nat.le_of_ble_eq_true rfl) (rfl) (ct_Circuit_voltsAt hk hm hm5 hx hp hy)
theorem cc_Circuit_voltsAt_3 {M : Nat} {c : List Instr} {L : List Value} {s0 s1 s2 : Value} {m k : Nat} {x : Int32} (hk : am_LAY[k]? = some (.inl 4)) (hm : mi 34 5 = nI m) (hm5 : m ≤ 5) (hx : bd x) (hp : ∀ n, n < m → bd (mi 36 n)) (hy : ∀ n, n < 5 → cTh mi n = true → bd (mi 41 n)) : ev E M (.invokevirtual 55 :: c) L (.ref k :: .int x :: .ref 34 :: [s0, s1, s2]) (HH mi ml) = ev E M c L [s0, s1, s2] (HH mi (am_up (am_up ml k 0 (Int64.ofInt (vUp mi m x))) k 1 (Int64.ofInt (vDn mi m x)))) := e_inv (as := [.ref 34, .int x, .ref k]) (S := [s0, s1, s2]) rfl rfl (Nat.le_of_ble_eq_true rfl) (rfl) (ct_Circuit_voltsAt hk hm hm5 hx hp hy)
end Cl8
end
section
/-! THE REST OF THE CIRCUIT -/
def bitsF (mi : Nat → Nat → Int32) : Nat → Int32
  | 0 => 0
  | i + 1 => if cF mi i = true then bitsF mi i ||| (1 <<< (mi 35 i &&& 31)) else bitsF mi i
/-- a share becomes what two longs are -/
def shr (ml : Nat → Nat → Int64) (k : Nat) (u l : Int64) : Nat → Nat → Int64 := am_up (am_up ml k 0 u) k 1 l
theorem shr_a {ml : Nat → Nat → Int64} {k a b : Nat} {u l : Int64} : shr ml k u l a b = if a = k ∧ b = 1 then l else if a = k ∧ b = 0 then u else ml a b := by
  unfold shr
  rw [am_upa, am_upa]
theorem shr_0 {ml : Nat → Nat → Int64} {k : Nat} {u l : Int64} : shr ml k u l k 0 = u := by simp [shr_a]
theorem shr_1 {ml : Nat → Nat → Int64} {k : Nat} {u l : Int64} : shr ml k u l k 1 = l := by simp [shr_a]
theorem shr_ne {ml : Nat → Nat → Int64} {k a b : Nat} {u l : Int64} (h : ¬ a = k) : shr ml k u l a b = ml a b := by simp [shr_a, h]
theorem share_ne {k : Nat} (hk : am_LAY[k]? = some (.inl 4)) : ¬ 38 = k ∧ ¬ 39 = k := by
  constructor
  · intro h; subst h; cases hk
  · intro h; subst h; cases hk
def gbF (mi : Nat → Nat → Int32) (ml : Nat → Nat → Int64) (s : Int32) (k : Nat) : Nat → Nat → Nat → Int64
  | 0 => shr ml k 0 1
  | i + 1 => if cF mi i = true ∧ mi 35 i = s then shr (gbF mi ml s k i) k (ml 38 i) (ml 39 i) else gbF mi ml s k i
theorem gbF_ne {mi : Nat → Nat → Int32} {ml : Nat → Nat → Int64} {s : Int32} {k a b : Nat} (h : ¬ a = k) : ∀ i, gbF mi ml s k i a b = ml a b := by
  intro i
  induction i with
  | zero => exact shr_ne h
  | succ i ih =>
    rw [gbF]
    split
    · rw [shr_ne h, ih]
    · exact ih
def rtmF (mi : Nat → Nat → Int32) (ml : Nat → Nat → Int64) (k : Nat) : Nat → Nat → Nat → Int64
  | 0 => ml
  | i + 1 => if cF mi i = true then (if rtmF mi ml k i k 0 * ml 39 i < ml 38 i * rtmF mi ml k i k 1 then shr (shr (rtmF mi ml k i) 43 (ml 38 i) (ml 39 i)) k (ml 38 i) (ml 39 i) else shr (rtmF mi ml k i) 43 (ml 38 i) (ml 39 i)) else rtmF mi ml k i
theorem rtmF_ne {mi : Nat → Nat → Int32} {ml : Nat → Nat → Int64} {k a b : Nat} (h : ¬ a = k) (h2 : ¬ a = 43) : ∀ i, rtmF mi ml k i a b = ml a b := by
  intro i
  induction i with
  | zero => rfl
  | succ i ih =>
    rw [rtmF]
    split
    · split
      · rw [shr_ne h, shr_ne h2, ih]
      · rw [shr_ne h2, ih]
    · exact ih
section Cl9
variable {E : aE} {mi : Nat → Nat → Int32} {ml : Nat → Nat → Int64}
theorem ct_Circuit_bits {m : Nat} (hm : mi 34 5 = nI m) (hm5 : m ≤ 5) : ev E 61 (am_B 61 0) [.ref 34, am_dm, am_dm] [] (HH mi ml) = some (some (.int (bitsF mi m)), HH mi ml) := by
  simp only [b_61_e, b_61_32, b_61_38, k_0, e_istore_1, e_kpi, e_kpr, e_kpl, e_kpd, e_istore_2, e_jsr, e_iload_2, e_aloadr_0, g_5_34, e_icmp_ge, g_2_34, il_37, il_40, e_if_eq, e_iload_1, k_1, g_0_34, il_2, il_5, il_33, il_35, il_36, il_41, il_42, il_tp, il_ta, il_sc, il_po, ik_2_0, ik_2_1, ik_2_2, ik_2_3, ik_2_4, e_ishl, e_ior, e_iinc_2, e_goto, e_iret, eq_self]
  have hl := loop_up (fun i => ev E 61 (am_B 61 (Int.toNat 4)) [.ref 34, .int (bitsF mi i), .int (nI i)] [] (HH mi ml)) 0 m (fun i _ hi => by
    refine hd b_61_4 ?_
    have hi5 : i < 5 := by omega
    rw [bitsF]
    by_cases h1 : mi 37 i = 0
    · have hc : cF mi i = false := by simp [cF, h1]
      simp only [b_61_e, b_61_32, b_61_38, k_0, e_istore_1, e_kpi, e_kpr, e_kpl, e_kpd, e_istore_2, e_jsr, e_iload_2, e_aloadr_0, g_5_34, e_icmp_ge, g_2_34, il_37, il_40, e_if_eq, e_iload_1, k_1, g_0_34, il_2, il_5, il_33, il_35, il_36, il_41, il_42, il_tp, il_ta, il_sc, il_po, ik_2_0, ik_2_1, ik_2_2, ik_2_3, ik_2_4, e_ishl, e_ior, e_iinc_2, e_goto, e_iret, eq_self, hm, lec (show m < 1000 by omega) hi, hi5, h1, hc, not_true_eq_false, not_false_eq_true, if_true, if_false, true_or, or_true, false_or, or_false, true_and, and_true, false_and, and_false, and_self, or_self, reduceIte, Bool.false_eq_true, i10, i01, e_inc1]
    · have hc : cF mi i = true := by simp [cF, h1]
      simp only [b_61_e, b_61_32, b_61_38, k_0, e_istore_1, e_kpi, e_kpr, e_kpl, e_kpd, e_istore_2, e_jsr, e_iload_2, e_aloadr_0, g_5_34, e_icmp_ge, g_2_34, il_37, il_40, e_if_eq, e_iload_1, k_1, g_0_34, il_2, il_5, il_33, il_35, il_36, il_41, il_42, il_tp, il_ta, il_sc, il_po, ik_2_0, ik_2_1, ik_2_2, ik_2_3, ik_2_4, e_ishl, e_ior, e_iinc_2, e_goto, e_iret, eq_self, hm, lec (show m < 1000 by omega) hi, hi5, h1, hc, not_true_eq_false, not_false_eq_true, if_true, if_false, true_or, or_true, false_or, or_false, true_and, and_true, false_and, and_false, and_self, or_self, reduceIte, Bool.false_eq_true, i10, i01, e_inc1]) (by omega)
  refine Eq.trans (show _ = _ from hl) ?_
  simp only [b_61_4, b_61_e, b_61_32, b_61_38, k_0, e_istore_1, e_kpi, e_kpr, e_kpl, e_kpd, e_istore_2, e_jsr, e_iload_2, e_aloadr_0, g_5_34, e_icmp_ge, g_2_34, il_37, il_40, e_if_eq, e_iload_1, k_1, g_0_34, il_2, il_5, il_33, il_35, il_36, il_41, il_42, il_tp, il_ta, il_sc, il_po, ik_2_0, ik_2_1, ik_2_2, ik_2_3, ik_2_4, e_ishl, e_ior, e_iinc_2, e_goto, e_iret, eq_self, hm, lecc, not_true_eq_false, not_false_eq_true, if_true, if_false, true_or, or_true, false_or, or_false, true_and, and_true, false_and, and_false, and_self, or_self, reduceIte, Bool.false_eq_true, i10, i01]
theorem cc_Circuit_bits_0 {M : Nat} {c : List Instr} {L : List Value} {m : Nat} (hm : mi 34 5 = nI m) (hm5 : m ≤ 5) : ev E M (.invokevirtual 61 :: c) L (.ref 34 :: []) (HH mi ml) = ev E M c L (.int (bitsF mi m) :: []) (HH mi ml) := e_inv (as := [.ref 34]) (S := []) rfl rfl (Nat.le_of_ble_eq_true rfl) (rfl) (ct_Circuit_bits hm hm5)
theorem cc_Circuit_bits_1 {M : Nat} {c : List Instr} {L : List Value} {s0 : Value} {m : Nat} (hm : mi 34 5 = nI m) (hm5 : m ≤ 5) : ev E M (.invokevirtual 61 :: c) L (.ref 34 :: [s0]) (HH mi ml) = ev E M c L (.int (bitsF mi m) :: [s0]) (HH mi ml) := e_inv (as := [.ref 34]) (S := [s0]) rfl rfl (Nat.le_of_ble_eq_true rfl) (rfl) (ct_Circuit_bits hm hm5)
theorem cc_Circuit_bits_2 {M : Nat} {c : List Instr} {L : List Value} {s0 s1 : Value} {m : Nat} (hm : mi 34 5 = nI m) (hm5 : m ≤ 5) : ev E M (.invokevirtual 61 :: c) L (.ref 34 :: [s0, s1]) (HH mi ml) = ev E M c L (.int (bitsF mi m) :: [s0, s1]) (HH mi ml) := e_inv (as := [.ref 34]) (S := [s0, s1]) rfl rfl (Nat.le_of_ble_eq_true rfl) (rfl) (ct_Circuit_bits hm hm5)
theorem cc_Circuit_bits_3 {M : Nat} {c : List Instr} {L : List Value} {s0 s1 s2 : Value} {m : Nat} (hm : mi 34 5 = nI m) (hm5 : m ≤ 5) : ev E M (.invokevirtual 61 :: c) L (.ref 34 :: [s0, s1, s2]) (HH mi ml) = ev E M c L (.int (bitsF mi m) :: [s0, s1, s2]) (HH mi ml) := e_inv (as := [.ref 34]) (S := [s0, s1, s2]) rfl rfl (Nat.le_of_ble_eq_true rfl) (rfl) (ct_Circuit_bits hm hm5)
theorem ct_Circuit_givenBy {m k : Nat} {s : Int32} (hk : am_LAY[k]? = some (.inl 4)) (hm : mi 34 5 = nI m) (hm5 : m ≤ 5) : ev E 67 (am_B 67 0) [.ref 34, .int s, .ref k, am_dm] [] (HH mi ml) = some (none, HH mi (gbF mi ml s k m)) := by
  obtain ⟨n38, n39⟩ := share_ne hk
  simp only [b_67_e, b_67_51, b_67_57, e_aloadr_2, kl_0, kl_1, cc_Share_become_0, cc_Share_become_1, cc_Share_become_2, cc_Share_become_3, lay_27, lay_28, lay_30, lay_31, lay_32, lay_43, lay_44, lay_46, lay_49, lay_60, Option.toList_some, Option.toList_none, List.cons_append, List.nil_append, k_0, e_istore_3, e_kpi, e_kpr, e_kpl, e_kpd, e_jsr, e_iload_3, e_aloadr_0, g_5_34, e_icmp_ge, g_2_34, il_37, il_40, e_if_eq, g_0_34, il_2, il_5, il_33, il_35, il_36, il_41, il_42, il_tp, il_ta, il_sc, il_po, ik_2_0, ik_2_1, ik_2_2, ik_2_3, ik_2_4, e_iload_1, e_icmp_ne, g_3_34, il_38, il_39, g_4_34, e_iinc_3, e_goto, e_ret, eq_self, hk]
  have hl := loop_up (fun i => ev E 67 (am_B 67 (Int.toNat 8)) [.ref 34, .int s, .ref k, .int (nI i)] [] (HH mi (gbF mi ml s k i))) 0 m (fun i _ hi => by
    refine hd b_67_8 ?_
    have hi5 : i < 5 := by omega
    have a1 : gbF mi ml s k i 38 i = ml 38 i := gbF_ne n38 i
    have a2 : gbF mi ml s k i 39 i = ml 39 i := gbF_ne n39 i
    rw [gbF]
    by_cases h1 : mi 37 i = 0
    · have hc : cF mi i = false := by simp [cF, h1]
      simp only [b_67_e, b_67_51, b_67_57, e_aloadr_2, kl_0, kl_1, cc_Share_become_0, cc_Share_become_1, cc_Share_become_2, cc_Share_become_3, lay_27, lay_28, lay_30, lay_31, lay_32, lay_43, lay_44, lay_46, lay_49, lay_60, Option.toList_some, Option.toList_none, List.cons_append, List.nil_append, k_0, e_istore_3, e_kpi, e_kpr, e_kpl, e_kpd, e_jsr, e_iload_3, e_aloadr_0, g_5_34, e_icmp_ge, g_2_34, il_37, il_40, e_if_eq, g_0_34, il_2, il_5, il_33, il_35, il_36, il_41, il_42, il_tp, il_ta, il_sc, il_po, ik_2_0, ik_2_1, ik_2_2, ik_2_3, ik_2_4, e_iload_1, e_icmp_ne, g_3_34, il_38, il_39, g_4_34, e_iinc_3, e_goto, e_ret, eq_self, hm, lec (show m < 1000 by omega) hi, hi5, h1, hc, not_true_eq_false, not_false_eq_true, if_true, if_false, true_or, or_true, false_or, or_false, true_and, and_true, false_and, and_false, and_self, or_self, reduceIte, Bool.false_eq_true, i10, i01, e_inc1]
    · have hc : cF mi i = true := by simp [cF, h1]
      by_cases h2 : mi 35 i = s
      · simp only [b_67_e, b_67_51, b_67_57, e_aloadr_2, kl_0, kl_1, cc_Share_become_0, cc_Share_become_1, cc_Share_become_2, cc_Share_become_3, lay_27, lay_28, lay_30, lay_31, lay_32, lay_43, lay_44, lay_46, lay_49, lay_60, Option.toList_some, Option.toList_none, List.cons_append, List.nil_append, k_0, e_istore_3, e_kpi, e_kpr, e_kpl, e_kpd, e_jsr, e_iload_3, e_aloadr_0, g_5_34, e_icmp_ge, g_2_34, il_37, il_40, e_if_eq, g_0_34, il_2, il_5, il_33, il_35, il_36, il_41, il_42, il_tp, il_ta, il_sc, il_po, ik_2_0, ik_2_1, ik_2_2, ik_2_3, ik_2_4, e_iload_1, e_icmp_ne, g_3_34, il_38, il_39, g_4_34, e_iinc_3, e_goto, e_ret, eq_self, hm, lec (show m < 1000 by omega) hi, hi5, h1, hc, h2, hk, a1, a2, not_true_eq_false, not_false_eq_true, if_true, if_false, true_or, or_true, false_or, or_false, true_and, and_true, false_and, and_false, and_self, or_self, reduceIte, Bool.false_eq_true, i10, i01, e_inc1]
        rfl
      · simp only [b_67_e, b_67_51, b_67_57, e_aloadr_2, kl_0, kl_1, cc_Share_become_0, cc_Share_become_1, cc_Share_become_2, cc_Share_become_3, lay_27, lay_28, lay_30, lay_31, lay_32, lay_43, lay_44, lay_46, lay_49, lay_60, Option.toList_some, Option.toList_none, List.cons_append, List.nil_append, k_0, e_istore_3, e_kpi, e_kpr, e_kpl, e_kpd, e_jsr, e_iload_3, e_aloadr_0, g_5_34, e_icmp_ge, g_2_34, il_37, il_40, e_if_eq, g_0_34, il_2, il_5, il_33, il_35, il_36, il_41, il_42, il_tp, il_ta, il_sc, il_po, ik_2_0, ik_2_1, ik_2_2, ik_2_3, ik_2_4, e_iload_1, e_icmp_ne, g_3_34, il_38, il_39, g_4_34, e_iinc_3, e_goto, e_ret, eq_self, hm, lec (show m < 1000 by omega) hi, hi5, h1, hc, h2, not_true_eq_false, not_false_eq_true, if_true, if_false, true_or, or_true, false_or, or_false, true_and, and_true, false_and, and_false, and_self, or_self, reduceIte, Bool.false_eq_true, i10, i01, e_inc1]) (by omega)
  refine Eq.trans (show _ = _ from hl) ?_
  simp only [b_67_8, b_67_e, b_67_51, b_67_57, e_aloadr_2, kl_0, kl_1, cc_Share_become_0, cc_Share_become_1, cc_Share_become_2, cc_Share_become_3, lay_27, lay_28, lay_30, lay_31, lay_32, lay_43, lay_44, lay_46, lay_49, lay_60, Option.toList_some, Option.toList_none, List.cons_append, List.nil_append, k_0, e_istore_3, e_kpi, e_kpr, e_kpl, e_kpd, e_jsr, e_iload_3, e_aloadr_0, g_5_34, e_icmp_ge, g_2_34, il_37, il_40, e_if_eq, g_0_34, il_2, il_5, il_33, il_35, il_36, il_41, il_42, il_tp, il_ta, il_sc, il_po, ik_2_0, ik_2_1, ik_2_2, ik_2_3, ik_2_4, e_iload_1, e_icmp_ne, g_3_34, il_38, il_39, g_4_34, e_iinc_3, e_goto, e_ret, eq_self, hm, lecc, not_true_eq_false, not_false_eq_true, if_true, if_false, true_or, or_true, false_or, or_false, true_and, and_true, false_and, and_false, and_self, or_self, reduceIte, Bool.false_eq_true, i10, i01]
theorem cc_Circuit_givenBy_0 {M : Nat} {c : List Instr} {L : List Value} {m k : Nat} {s : Int32} (hk : am_LAY[k]? = some (.inl 4)) (hm : mi 34 5 = nI m) (hm5 : m ≤ 5) : ev E M (.invokevirtual 67 :: c) L (.ref k :: .int s :: .ref 34 :: []) (HH mi ml) = ev E M c L [] (HH mi (gbF mi ml s k m)) := e_inv (as := [.ref 34, .int s, .ref k]) (S := []) rfl rfl (Nat.le_of_ble_eq_true rfl) (rfl) (ct_Circuit_givenBy hk hm hm5)
theorem cc_Circuit_givenBy_1 {M : Nat} {c : List Instr} {L : List Value} {s0 : Value} {m k : Nat} {s : Int32} (hk : am_LAY[k]? = some (.inl 4)) (hm : mi 34 5 = nI m) (hm5 : m ≤ 5) : ev E M (.invokevirtual 67 :: c) L (.ref k :: .int s :: .ref 34 :: [s0]) (HH mi ml) = ev E M c L [s0] (HH mi (gbF mi ml s k m)) := e_inv (as := [.ref 34, .int s, .ref k]) (S := [s0]) rfl rfl (Nat.le_of_ble_eq_true rfl) (rfl) (ct_Circuit_givenBy hk hm hm5)
theorem cc_Circuit_givenBy_2 {M : Nat} {c : List Instr} {L : List Value} {s0 s1 : Value} {m k : Nat} {s : Int32} (hk : am_LAY[k]? = some (.inl 4)) (hm : mi 34 5 = nI m) (hm5 : m ≤ 5) : ev E M (.invokevirtual 67 :: c) L (.ref k :: .int s :: .ref 34 :: [s0, s1]) (HH mi ml) = ev E M c L [s0, s1] (HH mi (gbF mi ml s k m)) := e_inv (as := [.ref 34, .int s, .ref k]) (S := [s0, s1]) rfl rfl (Nat.le_of_ble_eq_true rfl) (rfl) (ct_Circuit_givenBy hk hm hm5)
theorem cc_Circuit_givenBy_3 {M : Nat} {c : List Instr} {L : List Value} {s0 s1 s2 : Value} {m k : Nat} {s : Int32} (hk : am_LAY[k]? = some (.inl 4)) (hm : mi 34 5 = nI m) (hm5 : m ≤ 5) : ev E M (.invokevirtual 67 :: c) L (.ref k :: .int s :: .ref 34 :: [s0, s1, s2]) (HH mi ml) = ev E M c L [s0, s1, s2] (HH mi (gbF mi ml s k m)) := e_inv (as := [.ref 34, .int s, .ref k]) (S := [s0, s1, s2]) rfl rfl (Nat.le_of_ble_eq_true rfl) (rfl) (ct_Circuit_givenBy hk hm hm5)
theorem ct_Circuit_raiseToMost {m k : Nat} (hk : am_LAY[k]? = some (.inl 4)) (hk3 : ¬ k = 43) (hm : mi 34 5 = nI m) (hm5 : m ≤ 5) : ev E 76 (am_B 76 0) [.ref 34, .ref k, am_dm] [] (HH mi ml) = some (none, HH mi (rtmF mi ml k m)) := by
  obtain ⟨n38, n39⟩ := share_ne hk
  simp only [b_76_e, b_76_65, b_76_71, k_0, e_istore_2, e_kpi, e_kpr, e_kpl, e_kpd, e_jsr, e_iload_2, e_aloadr_0, g_5_34, e_icmp_ge, g_2_34, il_37, il_40, e_if_eq, g_10_34, g_3_34, il_38, il_39, g_4_34, cc_Share_become_0, cc_Share_become_1, cc_Share_become_2, cc_Share_become_3, lay_27, lay_28, lay_30, lay_31, lay_32, lay_43, lay_44, lay_46, lay_49, lay_60, Option.toList_some, Option.toList_none, List.cons_append, List.nil_append, e_aloadr_1, cc_Share_isBelow_0, cc_Share_isBelow_1, cc_Share_isBelow_2, cc_Share_isBelow_3, e_iinc_2, e_goto, e_ret, eq_self]
  have hl := loop_up (fun i => ev E 76 (am_B 76 (Int.toNat 2)) [.ref 34, .ref k, .int (nI i)] [] (HH mi (rtmF mi ml k i))) 0 m (fun i _ hi => by
    refine hd b_76_2 ?_
    have hi5 : i < 5 := by omega
    have a1 : rtmF mi ml k i 38 i = ml 38 i := rtmF_ne n38 (by decide) i
    have a2 : rtmF mi ml k i 39 i = ml 39 i := rtmF_ne n39 (by decide) i
    rw [rtmF]
    generalize rtmF mi ml k i = mq at a1 a2 ⊢
    by_cases h1 : mi 37 i = 0
    · have hc : cF mi i = false := by simp [cF, h1]
      simp only [b_76_e, b_76_65, b_76_71, k_0, e_istore_2, e_kpi, e_kpr, e_kpl, e_kpd, e_jsr, e_iload_2, e_aloadr_0, g_5_34, e_icmp_ge, g_2_34, il_37, il_40, e_if_eq, g_10_34, g_3_34, il_38, il_39, g_4_34, cc_Share_become_0, cc_Share_become_1, cc_Share_become_2, cc_Share_become_3, lay_27, lay_28, lay_30, lay_31, lay_32, lay_43, lay_44, lay_46, lay_49, lay_60, Option.toList_some, Option.toList_none, List.cons_append, List.nil_append, e_aloadr_1, cc_Share_isBelow_0, cc_Share_isBelow_1, cc_Share_isBelow_2, cc_Share_isBelow_3, e_iinc_2, e_goto, e_ret, eq_self, hm, lec (show m < 1000 by omega) hi, hi5, h1, hc, not_true_eq_false, not_false_eq_true, if_true, if_false, true_or, or_true, false_or, or_false, true_and, and_true, false_and, and_false, and_self, or_self, reduceIte, Bool.false_eq_true, i10, i01, e_inc1]
    · have hc : cF mi i = true := by simp [cF, h1]
      have b0 : ∀ u l, am_up (am_up mq 43 0 u) 43 1 l = shr mq 43 u l := fun _ _ => rfl
      have b1 : ∀ u l, am_up (am_up (shr mq 43 u l) k 0 u) k 1 l = shr (shr mq 43 u l) k u l := fun _ _ => rfl
      by_cases h2 : mq k 0 * ml 39 i < ml 38 i * mq k 1
      · simp only [b_76_e, b_76_65, b_76_71, k_0, e_istore_2, e_kpi, e_kpr, e_kpl, e_kpd, e_jsr, e_iload_2, e_aloadr_0, g_5_34, e_icmp_ge, g_2_34, il_37, il_40, e_if_eq, g_10_34, g_3_34, il_38, il_39, g_4_34, cc_Share_become_0, cc_Share_become_1, cc_Share_become_2, cc_Share_become_3, lay_27, lay_28, lay_30, lay_31, lay_32, lay_43, lay_44, lay_46, lay_49, lay_60, Option.toList_some, Option.toList_none, List.cons_append, List.nil_append, e_aloadr_1, cc_Share_isBelow_0, cc_Share_isBelow_1, cc_Share_isBelow_2, cc_Share_isBelow_3, e_iinc_2, e_goto, e_ret, eq_self, hm, lec (show m < 1000 by omega) hi, hi5, h1, hc, cc_Share_become_0 lay_43, cc_Share_isBelow_0 hk lay_43, cc_Share_become_0 hk, a1, a2, b0, b1, shr_ne hk3, shr_ne (show ¬ 38 = 43 by decide), shr_ne (show ¬ 39 = 43 by decide), shr_0, shr_1, bz0, h2, not_true_eq_false, not_false_eq_true, if_true, if_false, true_or, or_true, false_or, or_false, true_and, and_true, false_and, and_false, and_self, or_self, reduceIte, Bool.false_eq_true, i10, i01, e_inc1]
      · simp only [b_76_e, b_76_65, b_76_71, k_0, e_istore_2, e_kpi, e_kpr, e_kpl, e_kpd, e_jsr, e_iload_2, e_aloadr_0, g_5_34, e_icmp_ge, g_2_34, il_37, il_40, e_if_eq, g_10_34, g_3_34, il_38, il_39, g_4_34, cc_Share_become_0, cc_Share_become_1, cc_Share_become_2, cc_Share_become_3, lay_27, lay_28, lay_30, lay_31, lay_32, lay_43, lay_44, lay_46, lay_49, lay_60, Option.toList_some, Option.toList_none, List.cons_append, List.nil_append, e_aloadr_1, cc_Share_isBelow_0, cc_Share_isBelow_1, cc_Share_isBelow_2, cc_Share_isBelow_3, e_iinc_2, e_goto, e_ret, eq_self, hm, lec (show m < 1000 by omega) hi, hi5, h1, hc, cc_Share_become_0 lay_43, cc_Share_isBelow_0 hk lay_43, cc_Share_become_0 hk, a1, a2, b0, b1, shr_ne hk3, shr_ne (show ¬ 38 = 43 by decide), shr_ne (show ¬ 39 = 43 by decide), shr_0, shr_1, bz0, h2, not_true_eq_false, not_false_eq_true, if_true, if_false, true_or, or_true, false_or, or_false, true_and, and_true, false_and, and_false, and_self, or_self, reduceIte, Bool.false_eq_true, i10, i01, e_inc1]) (by omega)
  refine Eq.trans (show _ = _ from hl) ?_
  simp only [b_76_2, b_76_e, b_76_65, b_76_71, k_0, e_istore_2, e_kpi, e_kpr, e_kpl, e_kpd, e_jsr, e_iload_2, e_aloadr_0, g_5_34, e_icmp_ge, g_2_34, il_37, il_40, e_if_eq, g_10_34, g_3_34, il_38, il_39, g_4_34, cc_Share_become_0, cc_Share_become_1, cc_Share_become_2, cc_Share_become_3, lay_27, lay_28, lay_30, lay_31, lay_32, lay_43, lay_44, lay_46, lay_49, lay_60, Option.toList_some, Option.toList_none, List.cons_append, List.nil_append, e_aloadr_1, cc_Share_isBelow_0, cc_Share_isBelow_1, cc_Share_isBelow_2, cc_Share_isBelow_3, e_iinc_2, e_goto, e_ret, eq_self, hm, lecc, not_true_eq_false, not_false_eq_true, if_true, if_false, true_or, or_true, false_or, or_false, true_and, and_true, false_and, and_false, and_self, or_self, reduceIte, Bool.false_eq_true, i10, i01]
theorem cc_Circuit_raiseToMost_0 {M : Nat} {c : List Instr} {L : List Value} {m k : Nat} (hk : am_LAY[k]? = some (.inl 4)) (hk3 : ¬ k = 43) (hm : mi 34 5 = nI m) (hm5 : m ≤ 5) : ev E M (.invokevirtual 76 :: c) L (.ref k :: .ref 34 :: []) (HH mi ml) = ev E M c L [] (HH mi (rtmF mi ml k m)) := e_inv (as := [.ref 34, .ref k]) (S := []) rfl rfl (Nat.le_of_ble_eq_true rfl) (rfl) (ct_Circuit_raiseToMost hk hk3 hm hm5)
theorem cc_Circuit_raiseToMost_1 {M : Nat} {c : List Instr} {L : List Value} {s0 : Value} {m k : Nat} (hk : am_LAY[k]? = some (.inl 4)) (hk3 : ¬ k = 43) (hm : mi 34 5 = nI m) (hm5 : m ≤ 5) : ev E M (.invokevirtual 76 :: c) L (.ref k :: .ref 34 :: [s0]) (HH mi ml) = ev E M c L [s0] (HH mi (rtmF mi ml k m)) := e_inv (as := [.ref 34, .ref k]) (S := [s0]) rfl rfl (Nat.le_of_ble_eq_true rfl) (rfl) (ct_Circuit_raiseToMost hk hk3 hm hm5)
theorem cc_Circuit_raiseToMost_2 {M : Nat} {c : List Instr} {L : List Value} {s0 s1 : Value} {m k : Nat} (hk : am_LAY[k]? = some (.inl 4)) (hk3 : ¬ k = 43) (hm : mi 34 5 = nI m) (hm5 : m ≤ 5) : ev E M (.invokevirtual 76 :: c) L (.ref k :: .ref 34 :: [s0, s1]) (HH mi ml) = ev E M c L [s0, s1] (HH mi (rtmF mi ml k m)) := e_inv (as := [.ref 34, .ref k]) (S := [s0, s1]) rfl rfl (Nat.le_of_ble_eq_true rfl) (rfl) (ct_Circuit_raiseToMost hk hk3 hm hm5)
theorem cc_Circuit_raiseToMost_3 {M : Nat} {c : List Instr} {L : List Value} {s0 s1 s2 : Value} {m k : Nat} (hk : am_LAY[k]? = some (.inl 4)) (hk3 : ¬ k = 43) (hm : mi 34 5 = nI m) (hm5 : m ≤ 5) : ev E M (.invokevirtual 76 :: c) L (.ref k :: .ref 34 :: [s0, s1, s2]) (HH mi ml) = ev E M c L [s0, s1, s2] (HH mi (rtmF mi ml k m)) := e_inv (as := [.ref 34, .ref k]) (S := [s0, s1, s2]) rfl rfl (Nat.le_of_ble_eq_true rfl) (rfl) (ct_Circuit_raiseToMost hk hk3 hm hm5)
end Cl9
end
section
/-! BOUNDS; THE TRAIN WITH THE HIGHEST VOLTS -/
def CB (mi : Nat → Nat → Int32) (m : Nat) : Prop := mi 34 5 = nI m ∧ m ≤ 5 ∧ (∀ n, n < m → bd (mi 36 n)) ∧ (∀ i j, i < j → j < m → cP mi i < cP mi j) ∧ (∀ n, n < 5 → cTh mi n = true → bd (mi 41 n)) ∧ (∀ n, n < 5 → (mi 42 n).toInt.natAbs ≤ 100000) ∧ (mi 2 2).toInt.natAbs ≤ 2000 ∧ (mi 2 1).toInt.natAbs ≤ 20 ∧ (mi 2 3).toInt.natAbs ≤ 3000
theorem mul_bd {a b : Int} {A B : Nat} (ha : a.natAbs ≤ A) (hb : b.natAbs ≤ B) : (a * b).natAbs ≤ A * B := by
  rw [Int.natAbs_mul]
  exact Nat.mul_le_mul ha hb
theorem sumI_bd {f : Nat → Int} {B : Nat} : ∀ {k : Nat}, (∀ n, n < k → (f n).natAbs ≤ B) → (sumI f k).natAbs ≤ k * B := by
  intro k
  induction k with
  | zero => intro _; simp [sumI]
  | succ k ih =>
    intro h
    have h1 := ih (fun n hn => h n (by omega))
    have h2 := h k (by omega)
    rw [sumI, Nat.succ_mul]
    have := Int.natAbs_add_le (sumI f k) (f k)
    omega
theorem tmB_bd {th : Bool} {y A a b x : Int} (hy : th = true → 0 ≤ y ∧ y ≤ 200) (hA : A.natAbs ≤ 100000) (ha : 0 ≤ a ∧ a ≤ 200) (hb : 0 ≤ b ∧ b ≤ 200) (hx : 0 ≤ x ∧ x ≤ 200) : (tmB th y A a b x).natAbs ≤ 100000 * 200 * 200 := by
  unfold tmB
  split
  · rename_i h
    have hy := hy h.1
    exact mul_bd (mul_bd hA (by omega)) (by omega)
  · exact Nat.zero_le _
theorem tmY_bd {th : Bool} {y A a x : Int} (hy : th = true → 0 ≤ y ∧ y ≤ 200) (hA : A.natAbs ≤ 100000) (ha : 0 ≤ a ∧ a ≤ 200) (hx : 0 ≤ x ∧ x ≤ 200) : (tmY th y A a x).natAbs ≤ 100000 * 200 := by
  unfold tmY
  split
  · rename_i h
    have hy := hy h.1
    exact mul_bd hA (by omega)
  · exact Nat.zero_le _
theorem CB_v {mi : Nat → Nat → Int32} {m : Nat} {x : Int32} (h : CB mi m) (hx : bd x) : (vUp mi m x).natAbs ≤ 1000000000000 ∧ 0 < vDn mi m x ∧ vDn mi m x ≤ 200000 := by
  obtain ⟨h1, h2, h3, h4, h5, h6, h7, h8, h9⟩ := h
  have hY : ∀ n, n < 5 → cTh mi n = true → 0 ≤ cY mi n ∧ cY mi n ≤ 200 := fun n hn hc => h5 n hn hc
  have hP : ∀ n, n < m → 0 ≤ cP mi n ∧ cP mi n ≤ 200 := fun n hn => h3 n hn
  have hB : ∀ a : Int, 0 ≤ a ∧ a ≤ 200 → (losB mi a x.toInt).natAbs ≤ 5 * (100000 * 200) := fun a ha => sumI_bd (fun n hn => tmY_bd (hY n hn) (h6 n hn) ha hx)
  have hg : 0 < gapV mi (bfV mi x m) (afV mi x m) ∧ gapV mi (bfV mi x m) (afV mi x m) ≤ 200 ∧ (losV mi x.toInt (bfV mi x m) (afV mi x m)).natAbs ≤ 5 * (100000 * 200 * 200) := by
    cases hb : bfV mi x m with
    | none =>
      cases ha : afV mi x m with
      | none => exact ⟨by simp [gapV], by simp [gapV], by simp [losV]⟩
      | some q =>
        have := hB _ (hP q (afV_some ha).1)
        exact ⟨by simp [gapV], by simp [gapV], by show (losB mi (cP mi q) x.toInt).natAbs ≤ _; omega⟩
    | some p =>
      have hp := (bfV_some hb).1
      cases ha : afV mi x m with
      | none =>
        have := hB _ (hP p hp)
        exact ⟨by simp [gapV], by simp [gapV], by show (losB mi (cP mi p) x.toInt).natAbs ≤ _; omega⟩
      | some q =>
        have hq := (afV_some ha).1
        have b1 := hB _ (hP p hp)
        have b2 := hP p hp
        have b3 := hP q hq
        unfold gapV losV
        dsimp only
        by_cases hpq : p < q
        · rw [if_pos hpq, if_pos hpq]
          have := h4 p q hpq hq
          exact ⟨by omega, by omega, sumI_bd (fun n hn => tmB_bd (hY n hn) (h6 n hn) b2 b3 hx)⟩
        · rw [if_neg hpq, if_neg hpq]
          refine ⟨by decide, by decide, ?_⟩
          split
          · decide
          · omega
  obtain ⟨g1, g2, g3⟩ := hg
  unfold vUp vDn
  refine ⟨?_, by omega, by omega⟩
  have e1 : (1000 * (mi 2 2).toInt * gapV mi (bfV mi x m) (afV mi x m)).natAbs ≤ 1000 * 2000 * 200 := mul_bd (mul_bd (by decide) h7) (by omega)
  have e2 := mul_bd h8 g3
  have := Int.natAbs_sub_le (1000 * (mi 2 2).toInt * gapV mi (bfV mi x m) (afV mi x m)) ((mi 2 1).toInt * losV mi x.toInt (bfV mi x m) (afV mi x m))
  omega
/-- volts at train n's place -/
def vU (mi : Nat → Nat → Int32) (m n : Nat) : Int := vUp mi m (mi 41 n)
def vD (mi : Nat → Nat → Int32) (m n : Nat) : Int := vDn mi m (mi 41 n)
def hiA (mi : Nat → Nat → Int32) (m : Nat) : Nat → Option Nat
  | 0 => none
  | i + 1 => if cTh mi i = true ∧ cA mi i < 0 then (match hiA mi m i with
    | none => some i
    | some f => if vU mi m f * vD mi m i < vU mi m i * vD mi m f then some i else some f) else hiA mi m i
def thB (mi : Nat → Nat → Int32) (m : Nat) : Nat → Bool
  | 0 => false
  | i + 1 => thB mi m i || (cTh mi i && decide ((mi 2 3).toInt * vD mi m i < vU mi m i))
def hiM (mi : Nat → Nat → Int32) (ml : Nat → Nat → Int64) (m : Nat) : Nat → Nat → Nat → Int64
  | 0 => ml
  | i + 1 => if cTh mi i = true then (if cA mi i < 0 ∧ ¬ hiA mi m (i + 1) = hiA mi m i then shr (shr (hiM mi ml m i) 43 (Int64.ofInt (vU mi m i)) (Int64.ofInt (vD mi m i))) 44 (Int64.ofInt (vU mi m i)) (Int64.ofInt (vD mi m i)) else shr (hiM mi ml m i) 43 (Int64.ofInt (vU mi m i)) (Int64.ofInt (vD mi m i))) else hiM mi ml m i
theorem hiA_lt {mi : Nat → Nat → Int32} {m : Nat} : ∀ {i f : Nat}, hiA mi m i = some f → f < i ∧ cTh mi f = true ∧ cA mi f < 0 := by
  intro i
  induction i with
  | zero => intro f h; cases h
  | succ i ih =>
    intro f h
    rw [hiA] at h
    split at h
    · rename_i hc
      split at h
      · cases h; exact ⟨by omega, hc.1, hc.2⟩
      · rename_i g hg
        have := ih hg
        split at h
        · cases h; exact ⟨by omega, hc.1, hc.2⟩
        · cases h; exact ⟨by omega, this.2⟩
    · have := ih h; exact ⟨by omega, this.2⟩
theorem hiM_ne {mi : Nat → Nat → Int32} {ml : Nat → Nat → Int64} {m a b : Nat} (h : ¬ a = 43) (h2 : ¬ a = 44) : ∀ i, hiM mi ml m i a b = ml a b := by
  intro i
  induction i with
  | zero => rfl
  | succ i ih =>
    rw [hiM]
    split
    · split
      · rw [shr_ne h2, shr_ne h, ih]
      · rw [shr_ne h, ih]
    · exact ih
theorem hiM_44 {mi : Nat → Nat → Int32} {ml : Nat → Nat → Int64} {m : Nat} : ∀ {i f : Nat}, hiA mi m i = some f → hiM mi ml m i 44 0 = Int64.ofInt (vU mi m f) ∧ hiM mi ml m i 44 1 = Int64.ofInt (vD mi m f) := by
  intro i
  induction i with
  | zero => intro f h; cases h
  | succ i ih =>
    intro f h
    rw [hiM]
    by_cases hs : hiA mi m (i + 1) = hiA mi m i
    · rw [hs] at h
      have := ih h
      split
      · rw [if_neg (fun q => q.2 hs), shr_ne (by decide), shr_ne (by decide)]
        exact this
      · exact this
    · have hc : cTh mi i = true ∧ cA mi i < 0 := by
        rcases Decidable.em (cTh mi i = true ∧ cA mi i < 0) with q | q
        · exact q
        · exfalso; apply hs; rw [hiA, if_neg q]
      have hf : f = i := by
        have h' := h
        rw [hiA, if_pos hc] at h'
        split at h'
        · cases h'; rfl
        · rename_i g hg
          split at h'
          · cases h'; rfl
          · exfalso; apply hs; rw [h, hg, h']
      subst hf
      rw [if_pos hc.1, if_pos ⟨hc.2, hs⟩, shr_0, shr_1]
      exact ⟨rfl, rfl⟩
theorem CB_A0 {mi : Nat → Nat → Int32} {n : Nat} : (0 ≤ mi 42 n) = ¬ (cA mi n < 0) := by
  have h0 : (0 : Int32).toInt = 0 := rfl
  unfold cA
  rw [Int32.le_iff_toInt_le, h0]
  exact propext ⟨fun h => by omega, fun h => by omega⟩
section Cl10
variable {E : aE} {mi : Nat → Nat → Int32} {ml : Nat → Nat → Int64}
theorem ct_Circuit_highestIfAnyTooHigh {m : Nat} (hB : CB mi m) : ev E 53 (am_B 53 0) [.ref 34, am_dm, am_dm, am_dm] [] (HH mi ml) = some (some (.int (if gbm mi 5 = none then -1 else if thB mi m 5 = true then oI (hiA mi m 5) else -1)), HH mi (if gbm mi 5 = none then ml else hiM mi ml m 5)) := by
  obtain ⟨hm, hm5, hp, hso, hy, hA, hV, hR, hT⟩ := id hB
  simp only [b_53_e, b_53_9, b_53_32, b_53_76, b_53_80, b_53_81, b_53_109, b_53_132, b_53_138, b_53_146, b_53_147, e_aloadr_0, cc_Circuit_givingBackMost_0, cc_Circuit_givingBackMost_1, cc_Circuit_givingBackMost_2, cc_Circuit_givingBackMost_3, Option.toList_some, Option.toList_none, List.cons_append, List.nil_append, e_if_ge, k_m1, e_iret, e_istore_1, e_kpi, e_kpr, e_kpl, e_kpd, k_0, e_istore_2, e_istore_3, e_jsr, e_iload_3, k_5, e_icmp_ge, g_6_34, il_37, il_40, e_if_ne, e_goto, g_7_34, il_2, il_5, il_33, il_35, il_36, il_41, il_42, il_tp, il_ta, il_sc, il_po, ik_2_0, ik_2_1, ik_2_2, ik_2_3, ik_2_4, g_10_34, cc_Circuit_voltsAt_0, cc_Circuit_voltsAt_1, cc_Circuit_voltsAt_2, cc_Circuit_voltsAt_3, e_iload_2, g_256_27, g_256_28, g_256_30, g_256_31, g_256_32, g_256_43, g_256_44, g_256_46, g_256_49, g_256_60, gS_0, g_9_34, k_3, e_i2l, g_257_27, g_257_28, g_257_30, g_257_31, g_257_32, g_257_43, g_257_44, g_257_46, g_257_49, g_257_60, gS_1, e_lmul, e_lcmp, e_if_le, k_1, g_8_34, e_iload_1, e_if_lt, g_11_34, cc_Share_isBelow_0, cc_Share_isBelow_1, cc_Share_isBelow_2, cc_Share_isBelow_3, lay_27, lay_28, lay_30, lay_31, lay_32, lay_43, lay_44, lay_46, lay_49, lay_60, e_if_eq, cc_Share_become_0, cc_Share_become_1, cc_Share_become_2, cc_Share_become_3, e_iinc_3, eq_self]
  cases hgb : gbm mi 5 with
  | none => simp only [not_true_eq_false, not_false_eq_true, if_true, if_false, true_or, or_true, false_or, or_false, true_and, and_true, false_and, and_false, and_self, or_self, reduceIte, Bool.false_eq_true, i10, i01, oI_n, ge_n]
  | some f0 =>
    have hf0 : f0 < 5 := gbm_lt hgb
    simp only [not_true_eq_false, not_false_eq_true, if_true, if_false, true_or, or_true, false_or, or_false, true_and, and_true, false_and, and_false, and_self, or_self, reduceIte, Bool.false_eq_true, i10, i01, oI_s, ge_s hf0, reduceCtorEq]
    have hl := loop_up (fun i => ev E 53 (am_B 53 (Int.toNat 15)) [.ref 34, .int (oI (hiA mi m i)), .int (if thB mi m i = true then 1 else 0), .int (nI i)] [] (HH mi (hiM mi ml m i))) 0 5 (fun i _ hi => by
      refine hd b_53_15 ?_
      by_cases h1 : mi 40 i = 0
      · have hc : cTh mi i = false := by simp [cTh, h1]
        have e1 : hiA mi m (i + 1) = hiA mi m i := by rw [hiA, if_neg (by simp [hc])]
        have e2 : thB mi m (i + 1) = thB mi m i := by rw [thB]; simp [hc]
        have e3 : hiM mi ml m (i + 1) = hiM mi ml m i := by rw [hiM, if_neg (by simp [hc])]
        rw [e1, e2, e3]
        simp only [b_53_e, b_53_9, b_53_32, b_53_76, b_53_80, b_53_81, b_53_109, b_53_132, b_53_138, b_53_146, b_53_147, e_aloadr_0, cc_Circuit_givingBackMost_0, cc_Circuit_givingBackMost_1, cc_Circuit_givingBackMost_2, cc_Circuit_givingBackMost_3, Option.toList_some, Option.toList_none, List.cons_append, List.nil_append, e_if_ge, k_m1, e_iret, e_istore_1, e_kpi, e_kpr, e_kpl, e_kpd, k_0, e_istore_2, e_istore_3, e_jsr, e_iload_3, k_5, e_icmp_ge, g_6_34, il_37, il_40, e_if_ne, e_goto, g_7_34, il_2, il_5, il_33, il_35, il_36, il_41, il_42, il_tp, il_ta, il_sc, il_po, ik_2_0, ik_2_1, ik_2_2, ik_2_3, ik_2_4, g_10_34, cc_Circuit_voltsAt_0, cc_Circuit_voltsAt_1, cc_Circuit_voltsAt_2, cc_Circuit_voltsAt_3, e_iload_2, g_256_27, g_256_28, g_256_30, g_256_31, g_256_32, g_256_43, g_256_44, g_256_46, g_256_49, g_256_60, gS_0, g_9_34, k_3, e_i2l, g_257_27, g_257_28, g_257_30, g_257_31, g_257_32, g_257_43, g_257_44, g_257_46, g_257_49, g_257_60, gS_1, e_lmul, e_lcmp, e_if_le, k_1, g_8_34, e_iload_1, e_if_lt, g_11_34, cc_Share_isBelow_0, cc_Share_isBelow_1, cc_Share_isBelow_2, cc_Share_isBelow_3, lay_27, lay_28, lay_30, lay_31, lay_32, lay_43, lay_44, lay_46, lay_49, lay_60, e_if_eq, cc_Share_become_0, cc_Share_become_1, cc_Share_become_2, cc_Share_become_3, e_iinc_3, eq_self, le5 hi, hi, h1, not_true_eq_false, not_false_eq_true, if_true, if_false, true_or, or_true, false_or, or_false, true_and, and_true, false_and, and_false, and_self, or_self, reduceIte, Bool.false_eq_true, i10, i01, e_inc1]
      · have hc : cTh mi i = true := by simp [cTh, h1]
        have hyi := hy i hi hc
        have hvi := CB_v hB hyi
        have b0 : ∀ (mq : Nat → Nat → Int64) (k : Nat) u l, am_up (am_up mq k 0 u) k 1 l = shr mq k u l := fun _ _ _ _ => rfl
        have hu : vUp mi m (mi 41 i) = vU mi m i := rfl
        have hdn : vDn mi m (mi 41 i) = vD mi m i := rfl
        rw [hu, hdn] at hvi
        have hTop : (Int64.ofInt (vU mi m i) ≤ (mi 2 3).toInt64 * Int64.ofInt (vD mi m i)) = ¬ ((mi 2 3).toInt * vD mi m i < vU mi m i) := by
          rw [i64_of, ← Int64.ofInt_mul]
          have := mul_bd (A := 3000) (B := 200000) hT (b := vD mi m i) (by omega)
          rw [propext (i64_le (a := vU mi m i) (b := (mi 2 3).toInt * vD mi m i) (by omega) (by omega))]
          exact propext ⟨fun h => by omega, fun h => by omega⟩
        have eT : (if thB mi m i = true then (1 : Int32) else if (¬ ((mi 2 3).toInt * vD mi m i < vU mi m i)) then 0 else 1) = if thB mi m (i + 1) = true then 1 else 0 := by
          rw [thB]
          by_cases hs : thB mi m i = true
          · simp [hs]
          · by_cases h2 : (mi 2 3).toInt * vD mi m i < vU mi m i
            · simp [hs, hc, h2]
            · simp [hs, hc, h2]
        rw [← eT]
        by_cases h3 : cA mi i < 0
        · have e1 : hiA mi m (i + 1) = (match hiA mi m i with
            | none => some i
            | some f => if vU mi m f * vD mi m i < vU mi m i * vD mi m f then some i else some f) := by rw [hiA, if_pos ⟨hc, h3⟩]
          cases hf : hiA mi m i with
          | none =>
            rw [hf] at e1
            have e3 : hiM mi ml m (i + 1) = shr (shr (hiM mi ml m i) 43 (Int64.ofInt (vU mi m i)) (Int64.ofInt (vD mi m i))) 44 (Int64.ofInt (vU mi m i)) (Int64.ofInt (vD mi m i)) := by rw [hiM, if_pos hc, if_pos ⟨h3, by rw [e1, hf]; simp⟩]
            rw [e1, e3]
            by_cases hs : thB mi m i = true <;> by_cases h2 : (mi 2 3).toInt * vD mi m i < vU mi m i <;>
            simp only [b_53_e, b_53_9, b_53_32, b_53_76, b_53_80, b_53_81, b_53_109, b_53_132, b_53_138, b_53_146, b_53_147, e_aloadr_0, cc_Circuit_givingBackMost_0, cc_Circuit_givingBackMost_1, cc_Circuit_givingBackMost_2, cc_Circuit_givingBackMost_3, Option.toList_some, Option.toList_none, List.cons_append, List.nil_append, e_if_ge, k_m1, e_iret, e_istore_1, e_kpi, e_kpr, e_kpl, e_kpd, k_0, e_istore_2, e_istore_3, e_jsr, e_iload_3, k_5, e_icmp_ge, g_6_34, il_37, il_40, e_if_ne, e_goto, g_7_34, il_2, il_5, il_33, il_35, il_36, il_41, il_42, il_tp, il_ta, il_sc, il_po, ik_2_0, ik_2_1, ik_2_2, ik_2_3, ik_2_4, g_10_34, cc_Circuit_voltsAt_0, cc_Circuit_voltsAt_1, cc_Circuit_voltsAt_2, cc_Circuit_voltsAt_3, e_iload_2, g_256_27, g_256_28, g_256_30, g_256_31, g_256_32, g_256_43, g_256_44, g_256_46, g_256_49, g_256_60, gS_0, g_9_34, k_3, e_i2l, g_257_27, g_257_28, g_257_30, g_257_31, g_257_32, g_257_43, g_257_44, g_257_46, g_257_49, g_257_60, gS_1, e_lmul, e_lcmp, e_if_le, k_1, g_8_34, e_iload_1, e_if_lt, g_11_34, cc_Share_isBelow_0, cc_Share_isBelow_1, cc_Share_isBelow_2, cc_Share_isBelow_3, lay_27, lay_28, lay_30, lay_31, lay_32, lay_43, lay_44, lay_46, lay_49, lay_60, e_if_eq, cc_Share_become_0, cc_Share_become_1, cc_Share_become_2, cc_Share_become_3, e_iinc_3, eq_self, le5 hi, hi, h1, cc_Circuit_voltsAt_0 lay_43 hm hm5 hyi hp hy, b0, hu, hdn, shr_0, shr_1, hTop, hs, h2, bz1, CB_A0, h3, lg_cmp_le, oI_n, oI_s, lt_nN, cc_Share_become_0 lay_44, shr_ne (show ¬ 44 = 43 by decide), not_true_eq_false, not_false_eq_true, if_true, if_false, true_or, or_true, false_or, or_false, true_and, and_true, false_and, and_false, and_self, or_self, reduceIte, Bool.false_eq_true, i10, i01, e_inc1]
          | some f =>
            rw [hf] at e1
            dsimp only at e1
            have hfl := hiA_lt hf
            have hf5 : f < 5 := by omega
            have hvf := CB_v hB (hy f hf5 hfl.2.1)
            have hu2 : vUp mi m (mi 41 f) = vU mi m f := rfl
            have hdn2 : vDn mi m (mi 41 f) = vD mi m f := rfl
            rw [hu2, hdn2] at hvf
            obtain ⟨q0, q1⟩ := hiM_44 (ml := ml) hf
            have hcmp : (Int64.ofInt (vU mi m f) * Int64.ofInt (vD mi m i) < Int64.ofInt (vU mi m i) * Int64.ofInt (vD mi m f)) = (vU mi m f * vD mi m i < vU mi m i * vD mi m f) := by
              rw [← Int64.ofInt_mul, ← Int64.ofInt_mul]
              have m1 := mul_bd (A := 1000000000000) (B := 200000) hvf.1 (b := vD mi m i) (by omega)
              have m2 := mul_bd (A := 1000000000000) (B := 200000) hvi.1 (b := vD mi m f) (by omega)
              exact propext (i64_lt (by omega) (by omega))
            by_cases h4 : vU mi m f * vD mi m i < vU mi m i * vD mi m f
            · have hne : ¬ some i = some f := fun q => by cases q; omega
              rw [if_pos h4] at e1
              have e3 : hiM mi ml m (i + 1) = shr (shr (hiM mi ml m i) 43 (Int64.ofInt (vU mi m i)) (Int64.ofInt (vD mi m i))) 44 (Int64.ofInt (vU mi m i)) (Int64.ofInt (vD mi m i)) := by rw [hiM, if_pos hc, if_pos ⟨h3, by rw [e1, hf]; exact hne⟩]
              rw [e1, e3]
              by_cases hs : thB mi m i = true <;> by_cases h2 : (mi 2 3).toInt * vD mi m i < vU mi m i <;>
              simp only [b_53_e, b_53_9, b_53_32, b_53_76, b_53_80, b_53_81, b_53_109, b_53_132, b_53_138, b_53_146, b_53_147, e_aloadr_0, cc_Circuit_givingBackMost_0, cc_Circuit_givingBackMost_1, cc_Circuit_givingBackMost_2, cc_Circuit_givingBackMost_3, Option.toList_some, Option.toList_none, List.cons_append, List.nil_append, e_if_ge, k_m1, e_iret, e_istore_1, e_kpi, e_kpr, e_kpl, e_kpd, k_0, e_istore_2, e_istore_3, e_jsr, e_iload_3, k_5, e_icmp_ge, g_6_34, il_37, il_40, e_if_ne, e_goto, g_7_34, il_2, il_5, il_33, il_35, il_36, il_41, il_42, il_tp, il_ta, il_sc, il_po, ik_2_0, ik_2_1, ik_2_2, ik_2_3, ik_2_4, g_10_34, cc_Circuit_voltsAt_0, cc_Circuit_voltsAt_1, cc_Circuit_voltsAt_2, cc_Circuit_voltsAt_3, e_iload_2, g_256_27, g_256_28, g_256_30, g_256_31, g_256_32, g_256_43, g_256_44, g_256_46, g_256_49, g_256_60, gS_0, g_9_34, k_3, e_i2l, g_257_27, g_257_28, g_257_30, g_257_31, g_257_32, g_257_43, g_257_44, g_257_46, g_257_49, g_257_60, gS_1, e_lmul, e_lcmp, e_if_le, k_1, g_8_34, e_iload_1, e_if_lt, g_11_34, cc_Share_isBelow_0, cc_Share_isBelow_1, cc_Share_isBelow_2, cc_Share_isBelow_3, lay_27, lay_28, lay_30, lay_31, lay_32, lay_43, lay_44, lay_46, lay_49, lay_60, e_if_eq, cc_Share_become_0, cc_Share_become_1, cc_Share_become_2, cc_Share_become_3, e_iinc_3, eq_self, le5 hi, hi, h1, cc_Circuit_voltsAt_0 lay_43 hm hm5 hyi hp hy, b0, hu, hdn, shr_0, shr_1, hTop, hs, h2, bz1, bz0, CB_A0, h3, lg_cmp_le, oI_n, oI_s, lt_sN hf5, cc_Share_isBelow_0 lay_44 lay_43, q0, q1, hcmp, h4, cc_Share_become_0 lay_44, shr_ne (show ¬ 44 = 43 by decide), not_true_eq_false, not_false_eq_true, if_true, if_false, true_or, or_true, false_or, or_false, true_and, and_true, false_and, and_false, and_self, or_self, reduceIte, Bool.false_eq_true, i10, i01, e_inc1]
            · rw [if_neg h4] at e1
              have e3 : hiM mi ml m (i + 1) = shr (hiM mi ml m i) 43 (Int64.ofInt (vU mi m i)) (Int64.ofInt (vD mi m i)) := by rw [hiM, if_pos hc, if_neg (fun q => q.2 (by rw [e1, hf]))]
              rw [e1, e3]
              by_cases hs : thB mi m i = true <;> by_cases h2 : (mi 2 3).toInt * vD mi m i < vU mi m i <;>
              simp only [b_53_e, b_53_9, b_53_32, b_53_76, b_53_80, b_53_81, b_53_109, b_53_132, b_53_138, b_53_146, b_53_147, e_aloadr_0, cc_Circuit_givingBackMost_0, cc_Circuit_givingBackMost_1, cc_Circuit_givingBackMost_2, cc_Circuit_givingBackMost_3, Option.toList_some, Option.toList_none, List.cons_append, List.nil_append, e_if_ge, k_m1, e_iret, e_istore_1, e_kpi, e_kpr, e_kpl, e_kpd, k_0, e_istore_2, e_istore_3, e_jsr, e_iload_3, k_5, e_icmp_ge, g_6_34, il_37, il_40, e_if_ne, e_goto, g_7_34, il_2, il_5, il_33, il_35, il_36, il_41, il_42, il_tp, il_ta, il_sc, il_po, ik_2_0, ik_2_1, ik_2_2, ik_2_3, ik_2_4, g_10_34, cc_Circuit_voltsAt_0, cc_Circuit_voltsAt_1, cc_Circuit_voltsAt_2, cc_Circuit_voltsAt_3, e_iload_2, g_256_27, g_256_28, g_256_30, g_256_31, g_256_32, g_256_43, g_256_44, g_256_46, g_256_49, g_256_60, gS_0, g_9_34, k_3, e_i2l, g_257_27, g_257_28, g_257_30, g_257_31, g_257_32, g_257_43, g_257_44, g_257_46, g_257_49, g_257_60, gS_1, e_lmul, e_lcmp, e_if_le, k_1, g_8_34, e_iload_1, e_if_lt, g_11_34, cc_Share_isBelow_0, cc_Share_isBelow_1, cc_Share_isBelow_2, cc_Share_isBelow_3, lay_27, lay_28, lay_30, lay_31, lay_32, lay_43, lay_44, lay_46, lay_49, lay_60, e_if_eq, cc_Share_become_0, cc_Share_become_1, cc_Share_become_2, cc_Share_become_3, e_iinc_3, eq_self, le5 hi, hi, h1, cc_Circuit_voltsAt_0 lay_43 hm hm5 hyi hp hy, b0, hu, hdn, shr_0, shr_1, hTop, hs, h2, bz1, bz0, CB_A0, h3, lg_cmp_le, oI_n, oI_s, lt_sN hf5, cc_Share_isBelow_0 lay_44 lay_43, q0, q1, hcmp, h4, shr_ne (show ¬ 44 = 43 by decide), not_true_eq_false, not_false_eq_true, if_true, if_false, true_or, or_true, false_or, or_false, true_and, and_true, false_and, and_false, and_self, or_self, reduceIte, Bool.false_eq_true, i10, i01, e_inc1]
        · have e1 : hiA mi m (i + 1) = hiA mi m i := by rw [hiA, if_neg (fun q => h3 q.2)]
          have e3 : hiM mi ml m (i + 1) = shr (hiM mi ml m i) 43 (Int64.ofInt (vU mi m i)) (Int64.ofInt (vD mi m i)) := by rw [hiM, if_pos hc, if_neg (fun q => h3 q.1)]
          rw [e1, e3]
          by_cases hs : thB mi m i = true <;> by_cases h2 : (mi 2 3).toInt * vD mi m i < vU mi m i <;>
          simp only [b_53_e, b_53_9, b_53_32, b_53_76, b_53_80, b_53_81, b_53_109, b_53_132, b_53_138, b_53_146, b_53_147, e_aloadr_0, cc_Circuit_givingBackMost_0, cc_Circuit_givingBackMost_1, cc_Circuit_givingBackMost_2, cc_Circuit_givingBackMost_3, Option.toList_some, Option.toList_none, List.cons_append, List.nil_append, e_if_ge, k_m1, e_iret, e_istore_1, e_kpi, e_kpr, e_kpl, e_kpd, k_0, e_istore_2, e_istore_3, e_jsr, e_iload_3, k_5, e_icmp_ge, g_6_34, il_37, il_40, e_if_ne, e_goto, g_7_34, il_2, il_5, il_33, il_35, il_36, il_41, il_42, il_tp, il_ta, il_sc, il_po, ik_2_0, ik_2_1, ik_2_2, ik_2_3, ik_2_4, g_10_34, cc_Circuit_voltsAt_0, cc_Circuit_voltsAt_1, cc_Circuit_voltsAt_2, cc_Circuit_voltsAt_3, e_iload_2, g_256_27, g_256_28, g_256_30, g_256_31, g_256_32, g_256_43, g_256_44, g_256_46, g_256_49, g_256_60, gS_0, g_9_34, k_3, e_i2l, g_257_27, g_257_28, g_257_30, g_257_31, g_257_32, g_257_43, g_257_44, g_257_46, g_257_49, g_257_60, gS_1, e_lmul, e_lcmp, e_if_le, k_1, g_8_34, e_iload_1, e_if_lt, g_11_34, cc_Share_isBelow_0, cc_Share_isBelow_1, cc_Share_isBelow_2, cc_Share_isBelow_3, lay_27, lay_28, lay_30, lay_31, lay_32, lay_43, lay_44, lay_46, lay_49, lay_60, e_if_eq, cc_Share_become_0, cc_Share_become_1, cc_Share_become_2, cc_Share_become_3, e_iinc_3, eq_self, le5 hi, hi, h1, cc_Circuit_voltsAt_0 lay_43 hm hm5 hyi hp hy, b0, hu, hdn, shr_0, shr_1, hTop, hs, h2, bz1, CB_A0, h3, lg_cmp_le, not_true_eq_false, not_false_eq_true, if_true, if_false, true_or, or_true, false_or, or_false, true_and, and_true, false_and, and_false, and_self, or_self, reduceIte, Bool.false_eq_true, i10, i01, e_inc1]) (by decide)
    refine Eq.trans (show _ = _ from hl) ?_
    by_cases hs : thB mi m 5 = true
    · simp only [b_53_15, b_53_e, b_53_9, b_53_32, b_53_76, b_53_80, b_53_81, b_53_109, b_53_132, b_53_138, b_53_146, b_53_147, e_aloadr_0, cc_Circuit_givingBackMost_0, cc_Circuit_givingBackMost_1, cc_Circuit_givingBackMost_2, cc_Circuit_givingBackMost_3, Option.toList_some, Option.toList_none, List.cons_append, List.nil_append, e_if_ge, k_m1, e_iret, e_istore_1, e_kpi, e_kpr, e_kpl, e_kpd, k_0, e_istore_2, e_istore_3, e_jsr, e_iload_3, k_5, e_icmp_ge, g_6_34, il_37, il_40, e_if_ne, e_goto, g_7_34, il_2, il_5, il_33, il_35, il_36, il_41, il_42, il_tp, il_ta, il_sc, il_po, ik_2_0, ik_2_1, ik_2_2, ik_2_3, ik_2_4, g_10_34, cc_Circuit_voltsAt_0, cc_Circuit_voltsAt_1, cc_Circuit_voltsAt_2, cc_Circuit_voltsAt_3, e_iload_2, g_256_27, g_256_28, g_256_30, g_256_31, g_256_32, g_256_43, g_256_44, g_256_46, g_256_49, g_256_60, gS_0, g_9_34, k_3, e_i2l, g_257_27, g_257_28, g_257_30, g_257_31, g_257_32, g_257_43, g_257_44, g_257_46, g_257_49, g_257_60, gS_1, e_lmul, e_lcmp, e_if_le, k_1, g_8_34, e_iload_1, e_if_lt, g_11_34, cc_Share_isBelow_0, cc_Share_isBelow_1, cc_Share_isBelow_2, cc_Share_isBelow_3, lay_27, lay_28, lay_30, lay_31, lay_32, lay_43, lay_44, lay_46, lay_49, lay_60, e_if_eq, cc_Share_become_0, cc_Share_become_1, cc_Share_become_2, cc_Share_become_3, e_iinc_3, eq_self, le55, hs, not_true_eq_false, not_false_eq_true, if_true, if_false, true_or, or_true, false_or, or_false, true_and, and_true, false_and, and_false, and_self, or_self, reduceIte, Bool.false_eq_true, i10, i01]
    · simp only [b_53_15, b_53_e, b_53_9, b_53_32, b_53_76, b_53_80, b_53_81, b_53_109, b_53_132, b_53_138, b_53_146, b_53_147, e_aloadr_0, cc_Circuit_givingBackMost_0, cc_Circuit_givingBackMost_1, cc_Circuit_givingBackMost_2, cc_Circuit_givingBackMost_3, Option.toList_some, Option.toList_none, List.cons_append, List.nil_append, e_if_ge, k_m1, e_iret, e_istore_1, e_kpi, e_kpr, e_kpl, e_kpd, k_0, e_istore_2, e_istore_3, e_jsr, e_iload_3, k_5, e_icmp_ge, g_6_34, il_37, il_40, e_if_ne, e_goto, g_7_34, il_2, il_5, il_33, il_35, il_36, il_41, il_42, il_tp, il_ta, il_sc, il_po, ik_2_0, ik_2_1, ik_2_2, ik_2_3, ik_2_4, g_10_34, cc_Circuit_voltsAt_0, cc_Circuit_voltsAt_1, cc_Circuit_voltsAt_2, cc_Circuit_voltsAt_3, e_iload_2, g_256_27, g_256_28, g_256_30, g_256_31, g_256_32, g_256_43, g_256_44, g_256_46, g_256_49, g_256_60, gS_0, g_9_34, k_3, e_i2l, g_257_27, g_257_28, g_257_30, g_257_31, g_257_32, g_257_43, g_257_44, g_257_46, g_257_49, g_257_60, gS_1, e_lmul, e_lcmp, e_if_le, k_1, g_8_34, e_iload_1, e_if_lt, g_11_34, cc_Share_isBelow_0, cc_Share_isBelow_1, cc_Share_isBelow_2, cc_Share_isBelow_3, lay_27, lay_28, lay_30, lay_31, lay_32, lay_43, lay_44, lay_46, lay_49, lay_60, e_if_eq, cc_Share_become_0, cc_Share_become_1, cc_Share_become_2, cc_Share_become_3, e_iinc_3, eq_self, le55, hs, not_true_eq_false, not_false_eq_true, if_true, if_false, true_or, or_true, false_or, or_false, true_and, and_true, false_and, and_false, and_self, or_self, reduceIte, Bool.false_eq_true, i10, i01]
theorem cc_Circuit_highestIfAnyTooHigh_0 {M : Nat} {c : List Instr} {L : List Value} {m : Nat} (hB : CB mi m) : ev E M (.invokevirtual 53 :: c) L (.ref 34 :: []) (HH mi ml) = ev E M c L (.int (if gbm mi 5 = none then -1 else if thB mi m 5 = true then oI (hiA mi m 5) else -1) :: []) (HH mi (if gbm mi 5 = none then ml else hiM mi ml m 5)) := e_inv (as := [.ref 34]) (S := []) rfl rfl (Nat.le_of_ble_eq_true rfl) (rfl) (ct_Circuit_highestIfAnyTooHigh hB)
theorem cc_Circuit_highestIfAnyTooHigh_1 {M : Nat} {c : List Instr} {L : List Value} {s0 : Value} {m : Nat} (hB : CB mi m) : ev E M (.invokevirtual 53 :: c) L (.ref 34 :: [s0]) (HH mi ml) = ev E M c L (.int (if gbm mi 5 = none then -1 else if thB mi m 5 = true then oI (hiA mi m 5) else -1) :: [s0]) (HH mi (if gbm mi 5 = none then ml else hiM mi ml m 5)) := e_inv (as := [.ref 34]) (S := [s0]) rfl rfl (Nat.le_of_ble_eq_true rfl) (rfl) (ct_Circuit_highestIfAnyTooHigh hB)
theorem cc_Circuit_highestIfAnyTooHigh_2 {M : Nat} {c : List Instr} {L : List Value} {s0 s1 : Value} {m : Nat} (hB : CB mi m) : ev E M (.invokevirtual 53 :: c) L (.ref 34 :: [s0, s1]) (HH mi ml) = ev E M c L (.int (if gbm mi 5 = none then -1 else if thB mi m 5 = true then oI (hiA mi m 5) else -1) :: [s0, s1]) (HH mi (if gbm mi 5 = none then ml else hiM mi ml m 5)) := e_inv (as := [.ref 34]) (S := [s0, s1]) rfl rfl (Nat.le_of_ble_eq_true rfl) (rfl) (ct_Circuit_highestIfAnyTooHigh hB)
theorem cc_Circuit_highestIfAnyTooHigh_3 {M : Nat} {c : List Instr} {L : List Value} {s0 s1 s2 : Value} {m : Nat} (hB : CB mi m) : ev E M (.invokevirtual 53 :: c) L (.ref 34 :: [s0, s1, s2]) (HH mi ml) = ev E M c L (.int (if gbm mi 5 = none then -1 else if thB mi m 5 = true then oI (hiA mi m 5) else -1) :: [s0, s1, s2]) (HH mi (if gbm mi 5 = none then ml else hiM mi ml m 5)) := e_inv (as := [.ref 34]) (S := [s0, s1, s2]) rfl rfl (Nat.le_of_ble_eq_true rfl) (rfl) (ct_Circuit_highestIfAnyTooHigh hB)
end Cl10
end
section
/-! SETTLE -/
/-- the train that gives back less now, and the cells ahead of that -/
def stB (mi : Nat → Nat → Int32) (ml : Nat → Nat → Int64) (m : Nat) : Option Nat := if 0 ≤ sumI (cA mi) 5 then (if gbm (ffI mi ml m) 5 = none then none else if thB (ffI mi ml m) m 5 = true then hiA (ffI mi ml m) m 5 else none) else gbm mi 5
def stI (mi : Nat → Nat → Int32) (ml : Nat → Nat → Int64) (m : Nat) : Nat → Nat → Int32 := if 0 ≤ sumI (cA mi) 5 then ffI mi ml m else mi
def stJ (mi : Nat → Nat → Int32) (ml : Nat → Nat → Int64) (m : Nat) : Nat → Nat → Int64 := if 0 ≤ sumI (cA mi) 5 then (if gbm (ffI mi ml m) 5 = none then ffJ mi ml m else hiM (ffI mi ml m) (ffJ mi ml m) m 5) else ml
def stL (m : Nat) : Nat → (Nat → Nat → Int32) → (Nat → Nat → Int64) → (Nat → Nat → Int32) × (Nat → Nat → Int64)
  | 0, mi, ml => (mi, ml)
  | k + 1, mi, ml => match stB mi ml m with
    | none => (stI mi ml m, stJ mi ml m)
    | some n => stL m k (am_up (stI mi ml m) 42 n (stI mi ml m 42 n / 2)) (stJ mi ml m)
theorem stI_ne {mi : Nat → Nat → Int32} {ml : Nat → Nat → Int64} {m a b : Nat} (h : ¬ a = 37) : stI mi ml m a b = mi a b := by
  unfold stI
  split
  · exact ffI_ne h
  · rfl
theorem CB_of {mi mj : Nat → Nat → Int32} {m : Nat} (h : CB mi m) (hA : ∀ n, n < 5 → (mj 42 n).toInt.natAbs ≤ 100000) (he : ∀ a b, ¬ a = 37 → ¬ a = 42 → mj a b = mi a b) : CB mj m := by
  obtain ⟨h1, h2, h3, h4, h5, h6, h7, h8, h9⟩ := h
  have eP : ∀ n, mj 36 n = mi 36 n := fun n => he 36 n (by decide) (by decide)
  refine ⟨by rw [he 34 5 (by decide) (by decide)]; exact h1, h2, fun n hn => by rw [eP]; exact h3 n hn, fun i j hi hj => ?_, fun n hn hc => ?_, hA, by rw [he 2 2 (by decide) (by decide)]; exact h7, by rw [he 2 1 (by decide) (by decide)]; exact h8, by rw [he 2 3 (by decide) (by decide)]; exact h9⟩
  · unfold cP
    rw [eP, eP]
    exact h4 i j hi hj
  · rw [he 41 n (by decide) (by decide)]
    refine h5 n hn ?_
    unfold cTh at hc ⊢
    rwa [he 40 n (by decide) (by decide)] at hc
theorem half_bd {x : Int32} {B : Nat} (h : x.toInt.natAbs ≤ B) : (x / 2).toInt.natAbs ≤ B := by
  have h2 : (2 : Int32).toInt = 2 := rfl
  rw [Int32.toInt_div_of_ne_right _ _ (by decide), h2]
  have := Int.natAbs_tdiv x.toInt 2
  rw [this]
  exact Nat.le_trans (Nat.div_le_self _ _) h
theorem CB_ff {mi : Nat → Nat → Int32} {ml : Nat → Nat → Int64} {m : Nat} (h : CB mi m) : CB (ffI mi ml m) m := CB_of h (fun n hn => by rw [ffI_ne (by decide)]; exact h.2.2.2.2.2.1 n hn) (fun a b h1 _ => ffI_ne h1)
theorem CB_st {mi : Nat → Nat → Int32} {ml : Nat → Nat → Int64} {m n : Nat} (h : CB mi m) (hn : n < 5) : CB (am_up (stI mi ml m) 42 n (stI mi ml m 42 n / 2)) m := by
  refine CB_of h (fun k hk => ?_) (fun a b h1 h2 => by rw [am_upa, if_neg (fun q => h2 q.1), stI_ne h1])
  rw [am_upa]
  split
  · rw [stI_ne (by decide)]
    exact half_bd (h.2.2.2.2.2.1 n hn)
  · rw [stI_ne (by decide)]
    exact h.2.2.2.2.2.1 k hk
theorem CB_sum {mi : Nat → Nat → Int32} {m : Nat} (h : CB mi m) : -4611686018427387904 ≤ sumI (cA mi) 5 ∧ sumI (cA mi) 5 ≤ 4611686018427387904 := by
  have := sumI_bd (f := cA mi) (k := 5) h.2.2.2.2.2.1
  omega
theorem stB_lt {mi : Nat → Nat → Int32} {ml : Nat → Nat → Int64} {m n : Nat} (h : stB mi ml m = some n) : n < 5 := by
  unfold stB at h
  split at h
  · split at h
    · cases h
    · split at h
      · exact (hiA_lt h).1
      · cases h
  · exact gbm_lt h
theorem gt45 {i : Nat} (h : i ≤ 45) : ((45 : Int32) < nI i) = False := eq_false (fun q => by
  have := (nI_ltI (a := 45) (b := i) (by decide) (by omega)).mp q
  omega)
theorem gt46 : ((45 : Int32) < nI 46) = True := by decide +kernel
section Cl11
variable {E : aE}
theorem st_loop {m : Nat} : ∀ (k i : Nat) (mi : Nat → Nat → Int32) (ml : Nat → Nat → Int64) (v : Value), i + k = 46 → CB mi m → ev E 45 (am_B 45 (Int.toNat 2)) [.ref 34, .int (nI i), v] [] (HH mi ml) = some (none, HH (stL m k mi ml).1 (stL m k mi ml).2) := by
  intro k
  induction k with
  | zero =>
    intro i mi ml v hk hB
    have hi : i = 46 := by omega
    subst hi
    refine hd b_45_2 ?_
    simp only [b_45_e, b_45_22, b_45_26, b_45_32, b_45_48, k_0, e_istore_1, e_kpi, e_kpr, e_kpl, e_kpd, e_jsr, e_iload_1, k_45, e_icmp_gt, e_aloadr_0, cc_Circuit_findFeeding_0, cc_Circuit_findFeeding_1, cc_Circuit_findFeeding_2, cc_Circuit_findFeeding_3, Option.toList_some, Option.toList_none, List.cons_append, List.nil_append, e_if_eq, cc_Circuit_highestIfAnyTooHigh_0, cc_Circuit_highestIfAnyTooHigh_1, cc_Circuit_highestIfAnyTooHigh_2, cc_Circuit_highestIfAnyTooHigh_3, e_goto, cc_Circuit_givingBackMost_0, cc_Circuit_givingBackMost_1, cc_Circuit_givingBackMost_2, cc_Circuit_givingBackMost_3, e_istore_2, e_iload_2, e_if_ge, e_ret, g_8_34, e_dup2, il_2, il_5, il_33, il_35, il_36, il_41, il_42, il_tp, il_ta, il_sc, il_po, ik_2_0, ik_2_1, ik_2_2, ik_2_3, ik_2_4, k_2, e_idiv, is_2, is_5, is_33, is_35, is_36, is_41, is_42, is_tp, is_ta, is_sc, is_po, e_iinc_1, eq_self, gt46, not_true_eq_false, not_false_eq_true, if_true, if_false, true_or, or_true, false_or, or_false, true_and, and_true, false_and, and_false, and_self, or_self, reduceIte, Bool.false_eq_true, i10, i01, stL]
  | succ k ih =>
    intro i mi ml v hk hB
    refine hd b_45_2 ?_
    have hB2 : CB (ffI mi ml m) m := CB_ff hB
    have hbk : ∀ n, stB mi ml m = some n → ev E 45 (am_B 45 (Int.toNat 2)) [.ref 34, .int (nI (i + 1)), .int (nI n)] [] (HH (am_up (stI mi ml m) 42 n (stI mi ml m 42 n / 2)) (stJ mi ml m)) = some (none, HH (stL m (k + 1) mi ml).1 (stL m (k + 1) mi ml).2) := by
      intro n hn
      rw [ih (i + 1) _ _ _ (by omega) (CB_st hB (stB_lt hn)), stL, hn]
    have hbn : stB mi ml m = none → (stL m (k + 1) mi ml) = (stI mi ml m, stJ mi ml m) := by
      intro hn
      rw [stL, hn]
    obtain ⟨hm, hm5, hp, hso, hy, hA, hV, hR, hT⟩ := id hB
    by_cases h0 : 0 ≤ sumI (cA mi) 5
    · have eI : stI mi ml m = ffI mi ml m := by unfold stI; rw [if_pos h0]
      cases hg : gbm (ffI mi ml m) 5 with
      | none =>
        have eb : stB mi ml m = none := by unfold stB; rw [if_pos h0, if_pos hg]
        have eJ : stJ mi ml m = ffJ mi ml m := by unfold stJ; rw [if_pos h0, if_pos hg]
        rw [hbn eb, eI, eJ]
        simp only [b_45_e, b_45_22, b_45_26, b_45_32, b_45_48, k_0, e_istore_1, e_kpi, e_kpr, e_kpl, e_kpd, e_jsr, e_iload_1, k_45, e_icmp_gt, e_aloadr_0, cc_Circuit_findFeeding_0, cc_Circuit_findFeeding_1, cc_Circuit_findFeeding_2, cc_Circuit_findFeeding_3, Option.toList_some, Option.toList_none, List.cons_append, List.nil_append, e_if_eq, cc_Circuit_highestIfAnyTooHigh_0, cc_Circuit_highestIfAnyTooHigh_1, cc_Circuit_highestIfAnyTooHigh_2, cc_Circuit_highestIfAnyTooHigh_3, e_goto, cc_Circuit_givingBackMost_0, cc_Circuit_givingBackMost_1, cc_Circuit_givingBackMost_2, cc_Circuit_givingBackMost_3, e_istore_2, e_iload_2, e_if_ge, e_ret, g_8_34, e_dup2, il_2, il_5, il_33, il_35, il_36, il_41, il_42, il_tp, il_ta, il_sc, il_po, ik_2_0, ik_2_1, ik_2_2, ik_2_3, ik_2_4, k_2, e_idiv, is_2, is_5, is_33, is_35, is_36, is_41, is_42, is_tp, is_ta, is_sc, is_po, e_iinc_1, eq_self, gt45 (show i ≤ 45 by omega), cc_Circuit_findFeeding_0 hm hm5 hp hy (CB_sum hB), h0, cc_Circuit_highestIfAnyTooHigh_0 hB2, hg, ge_n, not_true_eq_false, not_false_eq_true, if_true, if_false, true_or, or_true, false_or, or_false, true_and, and_true, false_and, and_false, and_self, or_self, reduceIte, Bool.false_eq_true, i10, i01]
      | some f0 =>
        have hng : ¬ gbm (ffI mi ml m) 5 = none := by rw [hg]; simp
        have eJ : stJ mi ml m = hiM (ffI mi ml m) (ffJ mi ml m) m 5 := by unfold stJ; rw [if_pos h0, if_neg hng]
        by_cases hs : thB (ffI mi ml m) m 5 = true
        · cases hh : hiA (ffI mi ml m) m 5 with
          | none =>
            have eb : stB mi ml m = none := by unfold stB; rw [if_pos h0, if_neg hng, if_pos hs, hh]
            rw [hbn eb, eI, eJ]
            simp only [b_45_e, b_45_22, b_45_26, b_45_32, b_45_48, k_0, e_istore_1, e_kpi, e_kpr, e_kpl, e_kpd, e_jsr, e_iload_1, k_45, e_icmp_gt, e_aloadr_0, cc_Circuit_findFeeding_0, cc_Circuit_findFeeding_1, cc_Circuit_findFeeding_2, cc_Circuit_findFeeding_3, Option.toList_some, Option.toList_none, List.cons_append, List.nil_append, e_if_eq, cc_Circuit_highestIfAnyTooHigh_0, cc_Circuit_highestIfAnyTooHigh_1, cc_Circuit_highestIfAnyTooHigh_2, cc_Circuit_highestIfAnyTooHigh_3, e_goto, cc_Circuit_givingBackMost_0, cc_Circuit_givingBackMost_1, cc_Circuit_givingBackMost_2, cc_Circuit_givingBackMost_3, e_istore_2, e_iload_2, e_if_ge, e_ret, g_8_34, e_dup2, il_2, il_5, il_33, il_35, il_36, il_41, il_42, il_tp, il_ta, il_sc, il_po, ik_2_0, ik_2_1, ik_2_2, ik_2_3, ik_2_4, k_2, e_idiv, is_2, is_5, is_33, is_35, is_36, is_41, is_42, is_tp, is_ta, is_sc, is_po, e_iinc_1, eq_self, gt45 (show i ≤ 45 by omega), cc_Circuit_findFeeding_0 hm hm5 hp hy (CB_sum hB), h0, cc_Circuit_highestIfAnyTooHigh_0 hB2, hng, hs, hh, oI_n, ge_n, not_true_eq_false, not_false_eq_true, if_true, if_false, true_or, or_true, false_or, or_false, true_and, and_true, false_and, and_false, and_self, or_self, reduceIte, Bool.false_eq_true, i10, i01]
          | some n =>
            have eb : stB mi ml m = some n := by unfold stB; rw [if_pos h0, if_neg hng, if_pos hs, hh]
            have hn5 := stB_lt eb
            rw [← hbk n eb, eI, eJ]
            simp only [b_45_e, b_45_22, b_45_26, b_45_32, b_45_48, k_0, e_istore_1, e_kpi, e_kpr, e_kpl, e_kpd, e_jsr, e_iload_1, k_45, e_icmp_gt, e_aloadr_0, cc_Circuit_findFeeding_0, cc_Circuit_findFeeding_1, cc_Circuit_findFeeding_2, cc_Circuit_findFeeding_3, Option.toList_some, Option.toList_none, List.cons_append, List.nil_append, e_if_eq, cc_Circuit_highestIfAnyTooHigh_0, cc_Circuit_highestIfAnyTooHigh_1, cc_Circuit_highestIfAnyTooHigh_2, cc_Circuit_highestIfAnyTooHigh_3, e_goto, cc_Circuit_givingBackMost_0, cc_Circuit_givingBackMost_1, cc_Circuit_givingBackMost_2, cc_Circuit_givingBackMost_3, e_istore_2, e_iload_2, e_if_ge, e_ret, g_8_34, e_dup2, il_2, il_5, il_33, il_35, il_36, il_41, il_42, il_tp, il_ta, il_sc, il_po, ik_2_0, ik_2_1, ik_2_2, ik_2_3, ik_2_4, k_2, e_idiv, is_2, is_5, is_33, is_35, is_36, is_41, is_42, is_tp, is_ta, is_sc, is_po, e_iinc_1, eq_self, gt45 (show i ≤ 45 by omega), cc_Circuit_findFeeding_0 hm hm5 hp hy (CB_sum hB), h0, cc_Circuit_highestIfAnyTooHigh_0 hB2, hng, hs, hh, oI_s, ge_s hn5, hn5, e_idiv (show ¬ (2 : Int32) = 0 by decide), e_inc1, not_true_eq_false, not_false_eq_true, if_true, if_false, true_or, or_true, false_or, or_false, true_and, and_true, false_and, and_false, and_self, or_self, reduceIte, Bool.false_eq_true, i10, i01]
        · have eb : stB mi ml m = none := by unfold stB; rw [if_pos h0, if_neg hng, if_neg hs]
          rw [hbn eb, eI, eJ]
          simp only [b_45_e, b_45_22, b_45_26, b_45_32, b_45_48, k_0, e_istore_1, e_kpi, e_kpr, e_kpl, e_kpd, e_jsr, e_iload_1, k_45, e_icmp_gt, e_aloadr_0, cc_Circuit_findFeeding_0, cc_Circuit_findFeeding_1, cc_Circuit_findFeeding_2, cc_Circuit_findFeeding_3, Option.toList_some, Option.toList_none, List.cons_append, List.nil_append, e_if_eq, cc_Circuit_highestIfAnyTooHigh_0, cc_Circuit_highestIfAnyTooHigh_1, cc_Circuit_highestIfAnyTooHigh_2, cc_Circuit_highestIfAnyTooHigh_3, e_goto, cc_Circuit_givingBackMost_0, cc_Circuit_givingBackMost_1, cc_Circuit_givingBackMost_2, cc_Circuit_givingBackMost_3, e_istore_2, e_iload_2, e_if_ge, e_ret, g_8_34, e_dup2, il_2, il_5, il_33, il_35, il_36, il_41, il_42, il_tp, il_ta, il_sc, il_po, ik_2_0, ik_2_1, ik_2_2, ik_2_3, ik_2_4, k_2, e_idiv, is_2, is_5, is_33, is_35, is_36, is_41, is_42, is_tp, is_ta, is_sc, is_po, e_iinc_1, eq_self, gt45 (show i ≤ 45 by omega), cc_Circuit_findFeeding_0 hm hm5 hp hy (CB_sum hB), h0, cc_Circuit_highestIfAnyTooHigh_0 hB2, hng, hs, ge_n, not_true_eq_false, not_false_eq_true, if_true, if_false, true_or, or_true, false_or, or_false, true_and, and_true, false_and, and_false, and_self, or_self, reduceIte, Bool.false_eq_true, i10, i01]
    · have eI : stI mi ml m = mi := by unfold stI; rw [if_neg h0]
      have eJ : stJ mi ml m = ml := by unfold stJ; rw [if_neg h0]
      cases hg : gbm mi 5 with
      | none =>
        have eb : stB mi ml m = none := by unfold stB; rw [if_neg h0, hg]
        rw [hbn eb, eI, eJ]
        simp only [b_45_e, b_45_22, b_45_26, b_45_32, b_45_48, k_0, e_istore_1, e_kpi, e_kpr, e_kpl, e_kpd, e_jsr, e_iload_1, k_45, e_icmp_gt, e_aloadr_0, cc_Circuit_findFeeding_0, cc_Circuit_findFeeding_1, cc_Circuit_findFeeding_2, cc_Circuit_findFeeding_3, Option.toList_some, Option.toList_none, List.cons_append, List.nil_append, e_if_eq, cc_Circuit_highestIfAnyTooHigh_0, cc_Circuit_highestIfAnyTooHigh_1, cc_Circuit_highestIfAnyTooHigh_2, cc_Circuit_highestIfAnyTooHigh_3, e_goto, cc_Circuit_givingBackMost_0, cc_Circuit_givingBackMost_1, cc_Circuit_givingBackMost_2, cc_Circuit_givingBackMost_3, e_istore_2, e_iload_2, e_if_ge, e_ret, g_8_34, e_dup2, il_2, il_5, il_33, il_35, il_36, il_41, il_42, il_tp, il_ta, il_sc, il_po, ik_2_0, ik_2_1, ik_2_2, ik_2_3, ik_2_4, k_2, e_idiv, is_2, is_5, is_33, is_35, is_36, is_41, is_42, is_tp, is_ta, is_sc, is_po, e_iinc_1, eq_self, gt45 (show i ≤ 45 by omega), cc_Circuit_findFeeding_0 hm hm5 hp hy (CB_sum hB), h0, hg, oI_n, ge_n, not_true_eq_false, not_false_eq_true, if_true, if_false, true_or, or_true, false_or, or_false, true_and, and_true, false_and, and_false, and_self, or_self, reduceIte, Bool.false_eq_true, i10, i01]
      | some n =>
        have eb : stB mi ml m = some n := by unfold stB; rw [if_neg h0, hg]
        have hn5 := stB_lt eb
        rw [← hbk n eb, eI, eJ]
        simp only [b_45_e, b_45_22, b_45_26, b_45_32, b_45_48, k_0, e_istore_1, e_kpi, e_kpr, e_kpl, e_kpd, e_jsr, e_iload_1, k_45, e_icmp_gt, e_aloadr_0, cc_Circuit_findFeeding_0, cc_Circuit_findFeeding_1, cc_Circuit_findFeeding_2, cc_Circuit_findFeeding_3, Option.toList_some, Option.toList_none, List.cons_append, List.nil_append, e_if_eq, cc_Circuit_highestIfAnyTooHigh_0, cc_Circuit_highestIfAnyTooHigh_1, cc_Circuit_highestIfAnyTooHigh_2, cc_Circuit_highestIfAnyTooHigh_3, e_goto, cc_Circuit_givingBackMost_0, cc_Circuit_givingBackMost_1, cc_Circuit_givingBackMost_2, cc_Circuit_givingBackMost_3, e_istore_2, e_iload_2, e_if_ge, e_ret, g_8_34, e_dup2, il_2, il_5, il_33, il_35, il_36, il_41, il_42, il_tp, il_ta, il_sc, il_po, ik_2_0, ik_2_1, ik_2_2, ik_2_3, ik_2_4, k_2, e_idiv, is_2, is_5, is_33, is_35, is_36, is_41, is_42, is_tp, is_ta, is_sc, is_po, e_iinc_1, eq_self, gt45 (show i ≤ 45 by omega), cc_Circuit_findFeeding_0 hm hm5 hp hy (CB_sum hB), h0, hg, oI_s, ge_s hn5, hn5, e_idiv (show ¬ (2 : Int32) = 0 by decide), e_inc1, not_true_eq_false, not_false_eq_true, if_true, if_false, true_or, or_true, false_or, or_false, true_and, and_true, false_and, and_false, and_self, or_self, reduceIte, Bool.false_eq_true, i10, i01]
variable {mi : Nat → Nat → Int32} {ml : Nat → Nat → Int64}
theorem ct_Circuit_settle {m : Nat} (hB : CB mi m) : ev E 45 (am_B 45 0) [.ref 34, am_dm, am_dm] [] (HH mi ml) = some (none, HH (stL m 46 mi ml).1 (stL m 46 mi ml).2) := by
  simp only [b_45_e, b_45_22, b_45_26, b_45_32, b_45_48, k_0, e_istore_1, e_kpi, e_kpr, e_kpl, e_kpd, e_jsr, e_iload_1, k_45, e_icmp_gt, e_aloadr_0, cc_Circuit_findFeeding_0, cc_Circuit_findFeeding_1, cc_Circuit_findFeeding_2, cc_Circuit_findFeeding_3, Option.toList_some, Option.toList_none, List.cons_append, List.nil_append, e_if_eq, cc_Circuit_highestIfAnyTooHigh_0, cc_Circuit_highestIfAnyTooHigh_1, cc_Circuit_highestIfAnyTooHigh_2, cc_Circuit_highestIfAnyTooHigh_3, e_goto, cc_Circuit_givingBackMost_0, cc_Circuit_givingBackMost_1, cc_Circuit_givingBackMost_2, cc_Circuit_givingBackMost_3, e_istore_2, e_iload_2, e_if_ge, e_ret, g_8_34, e_dup2, il_2, il_5, il_33, il_35, il_36, il_41, il_42, il_tp, il_ta, il_sc, il_po, ik_2_0, ik_2_1, ik_2_2, ik_2_3, ik_2_4, k_2, e_idiv, is_2, is_5, is_33, is_35, is_36, is_41, is_42, is_tp, is_ta, is_sc, is_po, e_iinc_1, eq_self]
  exact st_loop 46 0 mi ml am_dm rfl hB
theorem cc_Circuit_settle_0 {M : Nat} {c : List Instr} {L : List Value} {m : Nat} (hB : CB mi m) : ev E M (.invokevirtual 45 :: c) L (.ref 34 :: []) (HH mi ml) = ev E M c L [] (HH (stL m 46 mi ml).1 (stL m 46 mi ml).2) := e_inv (as := [.ref 34]) (S := []) rfl rfl (Nat.le_of_ble_eq_true rfl) (rfl) (ct_Circuit_settle hB)
theorem cc_Circuit_settle_1 {M : Nat} {c : List Instr} {L : List Value} {s0 : Value} {m : Nat} (hB : CB mi m) : ev E M (.invokevirtual 45 :: c) L (.ref 34 :: [s0]) (HH mi ml) = ev E M c L [s0] (HH (stL m 46 mi ml).1 (stL m 46 mi ml).2) := e_inv (as := [.ref 34]) (S := [s0]) rfl rfl (Nat.le_of_ble_eq_true rfl) (rfl) (ct_Circuit_settle hB)
theorem cc_Circuit_settle_2 {M : Nat} {c : List Instr} {L : List Value} {s0 s1 : Value} {m : Nat} (hB : CB mi m) : ev E M (.invokevirtual 45 :: c) L (.ref 34 :: [s0, s1]) (HH mi ml) = ev E M c L [s0, s1] (HH (stL m 46 mi ml).1 (stL m 46 mi ml).2) := e_inv (as := [.ref 34]) (S := [s0, s1]) rfl rfl (Nat.le_of_ble_eq_true rfl) (rfl) (ct_Circuit_settle hB)
theorem cc_Circuit_settle_3 {M : Nat} {c : List Instr} {L : List Value} {s0 s1 s2 : Value} {m : Nat} (hB : CB mi m) : ev E M (.invokevirtual 45 :: c) L (.ref 34 :: [s0, s1, s2]) (HH mi ml) = ev E M c L [s0, s1, s2] (HH (stL m 46 mi ml).1 (stL m 46 mi ml).2) := e_inv (as := [.ref 34]) (S := [s0, s1, s2]) rfl rfl (Nat.le_of_ble_eq_true rfl) (rfl) (ct_Circuit_settle hB)
end Cl11
end
