-- ===== PART A: goes FIRST, ahead of the names: the tables' words, and 'selects' of the private methods out of them =====
/-- a private method of a class that the tables say can be made, by its rows of tables_1 -/
def lw_okq (q : MethodName × Nat) : Prop := (q.1.cls ≠ "java/lang/invoke/MethodHandle" ∧ q.1.cls ≠ "java/lang/invoke/VarHandle") ∧ Cond.instantiable q.1.cls q.2 ∈ tables_1 ∧ Cond.privateMethod q.1 ∈ tables_1 ∧ Cond.instanceMethod q.1 ∈ tables_1
theorem lw_p0 : lw_okq (⟨"RailPower$Line", "isAnyBeyond", "(I)Z"⟩, 6) := ⟨⟨by decide +kernel, by decide +kernel⟩, List.mem_of_getElem? (i := 21) (by decide +kernel), List.mem_of_getElem? (i := 309) (by decide +kernel), List.mem_of_getElem? (i := 310) (by decide +kernel)⟩
theorem lw_p1 : lw_okq (⟨"RailPower", "failed", "(I)I"⟩, 6) := ⟨⟨by decide +kernel, by decide +kernel⟩, List.mem_of_getElem? (i := 13) (by decide +kernel), List.mem_of_getElem? (i := 389) (by decide +kernel), List.mem_of_getElem? (i := 390) (by decide +kernel)⟩
theorem lw_p2 : lw_okq (⟨"RailPower", "mayRunBy", "(LRailPower$Sheet;II)Z"⟩, 6) := ⟨⟨by decide +kernel, by decide +kernel⟩, List.mem_of_getElem? (i := 13) (by decide +kernel), List.mem_of_getElem? (i := 393) (by decide +kernel), List.mem_of_getElem? (i := 394) (by decide +kernel)⟩
theorem lw_p3 : lw_okq (⟨"RailPower$Day", "takeLoads", "(I[I)Z"⟩, 13) := ⟨⟨by decide +kernel, by decide +kernel⟩, List.mem_of_getElem? (i := 105) (by decide +kernel), List.mem_of_getElem? (i := 432) (by decide +kernel), List.mem_of_getElem? (i := 433) (by decide +kernel)⟩
theorem lw_p4 : lw_okq (⟨"RailPower$Circuit", "pulledTogether", "()J"⟩, 12) := ⟨⟨by decide +kernel, by decide +kernel⟩, List.mem_of_getElem? (i := 130) (by decide +kernel), List.mem_of_getElem? (i := 453) (by decide +kernel), List.mem_of_getElem? (i := 454) (by decide +kernel)⟩
theorem lw_p5 : lw_okq (⟨"RailPower$Circuit", "weigh", "()V"⟩, 12) := ⟨⟨by decide +kernel, by decide +kernel⟩, List.mem_of_getElem? (i := 130) (by decide +kernel), List.mem_of_getElem? (i := 457) (by decide +kernel), List.mem_of_getElem? (i := 458) (by decide +kernel)⟩
theorem lw_p6 : lw_okq (⟨"RailPower$Circuit", "nextFeeding", "(I)I"⟩, 12) := ⟨⟨by decide +kernel, by decide +kernel⟩, List.mem_of_getElem? (i := 130) (by decide +kernel), List.mem_of_getElem? (i := 461) (by decide +kernel), List.mem_of_getElem? (i := 462) (by decide +kernel)⟩
theorem lw_p7 : lw_okq (⟨"RailPower$Circuit", "weighOne", "(III)V"⟩, 12) := ⟨⟨by decide +kernel, by decide +kernel⟩, List.mem_of_getElem? (i := 130) (by decide +kernel), List.mem_of_getElem? (i := 465) (by decide +kernel), List.mem_of_getElem? (i := 466) (by decide +kernel)⟩
theorem lw_p8 : lw_okq (⟨"RailPower$Circuit", "leaveOutTaking", "()Z"⟩, 12) := ⟨⟨by decide +kernel, by decide +kernel⟩, List.mem_of_getElem? (i := 130) (by decide +kernel), List.mem_of_getElem? (i := 472) (by decide +kernel), List.mem_of_getElem? (i := 473) (by decide +kernel)⟩
theorem lw_p9 : lw_okq (⟨"RailPower$Circuit", "leaveOutIdle", "()V"⟩, 12) := ⟨⟨by decide +kernel, by decide +kernel⟩, List.mem_of_getElem? (i := 130) (by decide +kernel), List.mem_of_getElem? (i := 476) (by decide +kernel), List.mem_of_getElem? (i := 477) (by decide +kernel)⟩
theorem lw_p10 : lw_okq (⟨"RailPower$Circuit", "highestIfAnyTooHigh", "()I"⟩, 12) := ⟨⟨by decide +kernel, by decide +kernel⟩, List.mem_of_getElem? (i := 130) (by decide +kernel), List.mem_of_getElem? (i := 480) (by decide +kernel), List.mem_of_getElem? (i := 481) (by decide +kernel)⟩
theorem lw_p11 : lw_okq (⟨"RailPower$Circuit", "givingBackMost", "()I"⟩, 12) := ⟨⟨by decide +kernel, by decide +kernel⟩, List.mem_of_getElem? (i := 130) (by decide +kernel), List.mem_of_getElem? (i := 484) (by decide +kernel), List.mem_of_getElem? (i := 485) (by decide +kernel)⟩
theorem lw_p12 : lw_okq (⟨"RailPower$Circuit", "lostBetween", "(III)J"⟩, 12) := ⟨⟨by decide +kernel, by decide +kernel⟩, List.mem_of_getElem? (i := 130) (by decide +kernel), List.mem_of_getElem? (i := 492) (by decide +kernel), List.mem_of_getElem? (i := 493) (by decide +kernel)⟩
theorem lw_p13 : lw_okq (⟨"RailPower$Circuit", "lostBeyond", "(II)J"⟩, 12) := ⟨⟨by decide +kernel, by decide +kernel⟩, List.mem_of_getElem? (i := 130) (by decide +kernel), List.mem_of_getElem? (i := 499) (by decide +kernel), List.mem_of_getElem? (i := 500) (by decide +kernel)⟩
theorem lw_p14 : lw_okq (⟨"RailPower$Day", "sinkToLowest", "(IZ)V"⟩, 13) := ⟨⟨by decide +kernel, by decide +kernel⟩, List.mem_of_getElem? (i := 105) (by decide +kernel), List.mem_of_getElem? (i := 562) (by decide +kernel), List.mem_of_getElem? (i := 563) (by decide +kernel)⟩
theorem lw_p15 : lw_okq (⟨"RailPower$Day", "someTrips", "()Z"⟩, 13) := ⟨⟨by decide +kernel, by decide +kernel⟩, List.mem_of_getElem? (i := 105) (by decide +kernel), List.mem_of_getElem? (i := 615) (by decide +kernel), List.mem_of_getElem? (i := 616) (by decide +kernel)⟩
def lw_privs_1 : List (MethodName × Nat) := [(⟨"RailPower$Line", "isAnyBeyond", "(I)Z"⟩, 6), (⟨"RailPower", "failed", "(I)I"⟩, 6), (⟨"RailPower", "mayRunBy", "(LRailPower$Sheet;II)Z"⟩, 6), (⟨"RailPower$Day", "takeLoads", "(I[I)Z"⟩, 13), (⟨"RailPower$Circuit", "pulledTogether", "()J"⟩, 12), (⟨"RailPower$Circuit", "weigh", "()V"⟩, 12), (⟨"RailPower$Circuit", "nextFeeding", "(I)I"⟩, 12), (⟨"RailPower$Circuit", "weighOne", "(III)V"⟩, 12), (⟨"RailPower$Circuit", "leaveOutTaking", "()Z"⟩, 12), (⟨"RailPower$Circuit", "leaveOutIdle", "()V"⟩, 12), (⟨"RailPower$Circuit", "highestIfAnyTooHigh", "()I"⟩, 12), (⟨"RailPower$Circuit", "givingBackMost", "()I"⟩, 12), (⟨"RailPower$Circuit", "lostBetween", "(III)J"⟩, 12), (⟨"RailPower$Circuit", "lostBeyond", "(II)J"⟩, 12), (⟨"RailPower$Day", "sinkToLowest", "(IZ)V"⟩, 13), (⟨"RailPower$Day", "someTrips", "()Z"⟩, 13)]
theorem lw_r1 : ∀ q ∈ lw_privs_1, lw_okq q := List.forall_mem_cons.mpr ⟨lw_p0, List.forall_mem_cons.mpr ⟨lw_p1, List.forall_mem_cons.mpr ⟨lw_p2, List.forall_mem_cons.mpr ⟨lw_p3, List.forall_mem_cons.mpr ⟨lw_p4, List.forall_mem_cons.mpr ⟨lw_p5, List.forall_mem_cons.mpr ⟨lw_p6, List.forall_mem_cons.mpr ⟨lw_p7, List.forall_mem_cons.mpr ⟨lw_p8, List.forall_mem_cons.mpr ⟨lw_p9, List.forall_mem_cons.mpr ⟨lw_p10, List.forall_mem_cons.mpr ⟨lw_p11, List.forall_mem_cons.mpr ⟨lw_p12, List.forall_mem_cons.mpr ⟨lw_p13, List.forall_mem_cons.mpr ⟨lw_p14, List.forall_mem_cons.mpr ⟨lw_p15, fun _ h => absurd h List.not_mem_nil⟩⟩⟩⟩⟩⟩⟩⟩⟩⟩⟩⟩⟩⟩⟩⟩
theorem lw_p16 : lw_okq (⟨"RailPower$Day", "spread", "(II)V"⟩, 13) := ⟨⟨by decide +kernel, by decide +kernel⟩, List.mem_of_getElem? (i := 105) (by decide +kernel), List.mem_of_getElem? (i := 633) (by decide +kernel), List.mem_of_getElem? (i := 634) (by decide +kernel)⟩
theorem lw_p17 : lw_okq (⟨"RailPower", "tellWorks", "(LRailPower$Station;)I"⟩, 6) := ⟨⟨by decide +kernel, by decide +kernel⟩, List.mem_of_getElem? (i := 13) (by decide +kernel), List.mem_of_getElem? (i := 700) (by decide +kernel), List.mem_of_getElem? (i := 701) (by decide +kernel)⟩
theorem lw_p18 : lw_okq (⟨"RailPower", "leaveTrace", "(I)V"⟩, 6) := ⟨⟨by decide +kernel, by decide +kernel⟩, List.mem_of_getElem? (i := 13) (by decide +kernel), List.mem_of_getElem? (i := 704) (by decide +kernel), List.mem_of_getElem? (i := 705) (by decide +kernel)⟩
theorem lw_p19 : lw_okq (⟨"RailPower", "tellHouse", "(LRailPower$Station;)I"⟩, 6) := ⟨⟨by decide +kernel, by decide +kernel⟩, List.mem_of_getElem? (i := 13) (by decide +kernel), List.mem_of_getElem? (i := 708) (by decide +kernel), List.mem_of_getElem? (i := 709) (by decide +kernel)⟩
theorem lw_p20 : lw_okq (⟨"RailPower", "tellPost", "(LRailPower$Station;)I"⟩, 6) := ⟨⟨by decide +kernel, by decide +kernel⟩, List.mem_of_getElem? (i := 13) (by decide +kernel), List.mem_of_getElem? (i := 712) (by decide +kernel), List.mem_of_getElem? (i := 713) (by decide +kernel)⟩
theorem lw_p21 : lw_okq (⟨"RailPowerModel", "isAgainst", "(II)Z"⟩, 36) := ⟨⟨by decide +kernel, by decide +kernel⟩, List.mem_of_getElem? (i := 741) (by decide +kernel), List.mem_of_getElem? (i := 869) (by decide +kernel), List.mem_of_getElem? (i := 870) (by decide +kernel)⟩
theorem lw_p22 : lw_okq (⟨"RailPowerModel", "isBeyond", "(I)Z"⟩, 36) := ⟨⟨by decide +kernel, by decide +kernel⟩, List.mem_of_getElem? (i := 741) (by decide +kernel), List.mem_of_getElem? (i := 873) (by decide +kernel), List.mem_of_getElem? (i := 874) (by decide +kernel)⟩
theorem lw_p23 : lw_okq (⟨"RailPowerModel", "isPlace", "(I)Z"⟩, 36) := ⟨⟨by decide +kernel, by decide +kernel⟩, List.mem_of_getElem? (i := 741) (by decide +kernel), List.mem_of_getElem? (i := 881) (by decide +kernel), List.mem_of_getElem? (i := 882) (by decide +kernel)⟩
theorem lw_p24 : lw_okq (⟨"RailPowerModel", "isTaken", "(I)Z"⟩, 36) := ⟨⟨by decide +kernel, by decide +kernel⟩, List.mem_of_getElem? (i := 741) (by decide +kernel), List.mem_of_getElem? (i := 885) (by decide +kernel), List.mem_of_getElem? (i := 886) (by decide +kernel)⟩
theorem lw_p25 : lw_okq (⟨"RailPowerModel", "isStation", "(I)Z"⟩, 36) := ⟨⟨by decide +kernel, by decide +kernel⟩, List.mem_of_getElem? (i := 741) (by decide +kernel), List.mem_of_getElem? (i := 893) (by decide +kernel), List.mem_of_getElem? (i := 894) (by decide +kernel)⟩
theorem lw_p26 : lw_okq (⟨"RailPowerModel", "isTrain", "(I)Z"⟩, 36) := ⟨⟨by decide +kernel, by decide +kernel⟩, List.mem_of_getElem? (i := 741) (by decide +kernel), List.mem_of_getElem? (i := 914) (by decide +kernel), List.mem_of_getElem? (i := 915) (by decide +kernel)⟩
theorem lw_p27 : lw_okq (⟨"RailPowerModel", "mayRun", "(II)Z"⟩, 36) := ⟨⟨by decide +kernel, by decide +kernel⟩, List.mem_of_getElem? (i := 741) (by decide +kernel), List.mem_of_getElem? (i := 921) (by decide +kernel), List.mem_of_getElem? (i := 922) (by decide +kernel)⟩
theorem lw_p28 : lw_okq (⟨"RailPowerModel", "lay", "(IIII)V"⟩, 36) := ⟨⟨by decide +kernel, by decide +kernel⟩, List.mem_of_getElem? (i := 741) (by decide +kernel), List.mem_of_getElem? (i := 925) (by decide +kernel), List.mem_of_getElem? (i := 926) (by decide +kernel)⟩
theorem lw_p29 : lw_okq (⟨"RailPowerModel", "fails", "(I)I"⟩, 36) := ⟨⟨by decide +kernel, by decide +kernel⟩, List.mem_of_getElem? (i := 741) (by decide +kernel), List.mem_of_getElem? (i := 939) (by decide +kernel), List.mem_of_getElem? (i := 940) (by decide +kernel)⟩
theorem lw_p30 : lw_okq (⟨"RailPowerModel", "placeOf", "(II)I"⟩, 36) := ⟨⟨by decide +kernel, by decide +kernel⟩, List.mem_of_getElem? (i := 741) (by decide +kernel), List.mem_of_getElem? (i := 952) (by decide +kernel), List.mem_of_getElem? (i := 953) (by decide +kernel)⟩
theorem lw_p31 : lw_okq (⟨"RailPowerModel", "amperesOf", "(II)I"⟩, 36) := ⟨⟨by decide +kernel, by decide +kernel⟩, List.mem_of_getElem? (i := 741) (by decide +kernel), List.mem_of_getElem? (i := 956) (by decide +kernel), List.mem_of_getElem? (i := 957) (by decide +kernel)⟩
def lw_privs_2 : List (MethodName × Nat) := [(⟨"RailPower$Day", "spread", "(II)V"⟩, 13), (⟨"RailPower", "tellWorks", "(LRailPower$Station;)I"⟩, 6), (⟨"RailPower", "leaveTrace", "(I)V"⟩, 6), (⟨"RailPower", "tellHouse", "(LRailPower$Station;)I"⟩, 6), (⟨"RailPower", "tellPost", "(LRailPower$Station;)I"⟩, 6), (⟨"RailPowerModel", "isAgainst", "(II)Z"⟩, 36), (⟨"RailPowerModel", "isBeyond", "(I)Z"⟩, 36), (⟨"RailPowerModel", "isPlace", "(I)Z"⟩, 36), (⟨"RailPowerModel", "isTaken", "(I)Z"⟩, 36), (⟨"RailPowerModel", "isStation", "(I)Z"⟩, 36), (⟨"RailPowerModel", "isTrain", "(I)Z"⟩, 36), (⟨"RailPowerModel", "mayRun", "(II)Z"⟩, 36), (⟨"RailPowerModel", "lay", "(IIII)V"⟩, 36), (⟨"RailPowerModel", "fails", "(I)I"⟩, 36), (⟨"RailPowerModel", "placeOf", "(II)I"⟩, 36), (⟨"RailPowerModel", "amperesOf", "(II)I"⟩, 36)]
theorem lw_r2 : ∀ q ∈ lw_privs_2, lw_okq q := List.forall_mem_cons.mpr ⟨lw_p16, List.forall_mem_cons.mpr ⟨lw_p17, List.forall_mem_cons.mpr ⟨lw_p18, List.forall_mem_cons.mpr ⟨lw_p19, List.forall_mem_cons.mpr ⟨lw_p20, List.forall_mem_cons.mpr ⟨lw_p21, List.forall_mem_cons.mpr ⟨lw_p22, List.forall_mem_cons.mpr ⟨lw_p23, List.forall_mem_cons.mpr ⟨lw_p24, List.forall_mem_cons.mpr ⟨lw_p25, List.forall_mem_cons.mpr ⟨lw_p26, List.forall_mem_cons.mpr ⟨lw_p27, List.forall_mem_cons.mpr ⟨lw_p28, List.forall_mem_cons.mpr ⟨lw_p29, List.forall_mem_cons.mpr ⟨lw_p30, List.forall_mem_cons.mpr ⟨lw_p31, fun _ h => absurd h List.not_mem_nil⟩⟩⟩⟩⟩⟩⟩⟩⟩⟩⟩⟩⟩⟩⟩⟩
theorem lw_p32 : lw_okq (⟨"RailPowerModel", "isDark", "()Z"⟩, 36) := ⟨⟨by decide +kernel, by decide +kernel⟩, List.mem_of_getElem? (i := 741) (by decide +kernel), List.mem_of_getElem? (i := 960) (by decide +kernel), List.mem_of_getElem? (i := 961) (by decide +kernel)⟩
theorem lw_p33 : lw_okq (⟨"RailPowerModel", "isIn", "()I"⟩, 36) := ⟨⟨by decide +kernel, by decide +kernel⟩, List.mem_of_getElem? (i := 741) (by decide +kernel), List.mem_of_getElem? (i := 964) (by decide +kernel), List.mem_of_getElem? (i := 965) (by decide +kernel)⟩
theorem lw_p34 : lw_okq (⟨"RailPowerModel", "solve", "(I)V"⟩, 36) := ⟨⟨by decide +kernel, by decide +kernel⟩, List.mem_of_getElem? (i := 741) (by decide +kernel), List.mem_of_getElem? (i := 968) (by decide +kernel), List.mem_of_getElem? (i := 969) (by decide +kernel)⟩
theorem lw_p35 : lw_okq (⟨"RailPowerModel", "layLoads", "(I)V"⟩, 36) := ⟨⟨by decide +kernel, by decide +kernel⟩, List.mem_of_getElem? (i := 741) (by decide +kernel), List.mem_of_getElem? (i := 972) (by decide +kernel), List.mem_of_getElem? (i := 973) (by decide +kernel)⟩
theorem lw_p36 : lw_okq (⟨"RailPowerModel", "findFeeding", "()I"⟩, 36) := ⟨⟨by decide +kernel, by decide +kernel⟩, List.mem_of_getElem? (i := 741) (by decide +kernel), List.mem_of_getElem? (i := 976) (by decide +kernel), List.mem_of_getElem? (i := 977) (by decide +kernel)⟩
theorem lw_p37 : lw_okq (⟨"RailPowerModel", "doesFeed", "(II)Z"⟩, 36) := ⟨⟨by decide +kernel, by decide +kernel⟩, List.mem_of_getElem? (i := 741) (by decide +kernel), List.mem_of_getElem? (i := 980) (by decide +kernel), List.mem_of_getElem? (i := 981) (by decide +kernel)⟩
theorem lw_p38 : lw_okq (⟨"RailPowerModel", "findGiven", "(II)V"⟩, 36) := ⟨⟨by decide +kernel, by decide +kernel⟩, List.mem_of_getElem? (i := 741) (by decide +kernel), List.mem_of_getElem? (i := 984) (by decide +kernel), List.mem_of_getElem? (i := 985) (by decide +kernel)⟩
theorem lw_p39 : lw_okq (⟨"RailPowerModel", "neighbour", "(IIZ)I"⟩, 36) := ⟨⟨by decide +kernel, by decide +kernel⟩, List.mem_of_getElem? (i := 741) (by decide +kernel), List.mem_of_getElem? (i := 988) (by decide +kernel), List.mem_of_getElem? (i := 989) (by decide +kernel)⟩
theorem lw_p40 : lw_okq (⟨"RailPowerModel", "findVolts", "(II)V"⟩, 36) := ⟨⟨by decide +kernel, by decide +kernel⟩, List.mem_of_getElem? (i := 741) (by decide +kernel), List.mem_of_getElem? (i := 995) (by decide +kernel), List.mem_of_getElem? (i := 996) (by decide +kernel)⟩
theorem lw_p41 : lw_okq (⟨"RailPowerModel", "isTooHigh", "()Z"⟩, 36) := ⟨⟨by decide +kernel, by decide +kernel⟩, List.mem_of_getElem? (i := 741) (by decide +kernel), List.mem_of_getElem? (i := 1000) (by decide +kernel), List.mem_of_getElem? (i := 1001) (by decide +kernel)⟩
theorem lw_p42 : lw_okq (⟨"RailPowerModel", "nextBack", "()I"⟩, 36) := ⟨⟨by decide +kernel, by decide +kernel⟩, List.mem_of_getElem? (i := 741) (by decide +kernel), List.mem_of_getElem? (i := 1004) (by decide +kernel), List.mem_of_getElem? (i := 1005) (by decide +kernel)⟩
theorem lw_p43 : lw_okq (⟨"RailPowerModel", "part", "(I)J"⟩, 36) := ⟨⟨by decide +kernel, by decide +kernel⟩, List.mem_of_getElem? (i := 741) (by decide +kernel), List.mem_of_getElem? (i := 1017) (by decide +kernel), List.mem_of_getElem? (i := 1018) (by decide +kernel)⟩
theorem lw_p44 : lw_okq (⟨"RailPowerModel", "findLowest", "()V"⟩, 36) := ⟨⟨by decide +kernel, by decide +kernel⟩, List.mem_of_getElem? (i := 741) (by decide +kernel), List.mem_of_getElem? (i := 1029) (by decide +kernel), List.mem_of_getElem? (i := 1030) (by decide +kernel)⟩
theorem lw_p45 : lw_okq (⟨"RailPowerModel", "isSafe", "()Z"⟩, 36) := ⟨⟨by decide +kernel, by decide +kernel⟩, List.mem_of_getElem? (i := 741) (by decide +kernel), List.mem_of_getElem? (i := 1037) (by decide +kernel), List.mem_of_getElem? (i := 1038) (by decide +kernel)⟩
theorem lw_p46 : lw_okq (⟨"RailPowerModel", "findMost", "()V"⟩, 36) := ⟨⟨by decide +kernel, by decide +kernel⟩, List.mem_of_getElem? (i := 741) (by decide +kernel), List.mem_of_getElem? (i := 1049) (by decide +kernel), List.mem_of_getElem? (i := 1050) (by decide +kernel)⟩
theorem lw_p47 : lw_okq (⟨"RailPowerModel", "layFault", "(II)V"⟩, 36) := ⟨⟨by decide +kernel, by decide +kernel⟩, List.mem_of_getElem? (i := 741) (by decide +kernel), List.mem_of_getElem? (i := 1057) (by decide +kernel), List.mem_of_getElem? (i := 1058) (by decide +kernel)⟩
def lw_privs_3 : List (MethodName × Nat) := [(⟨"RailPowerModel", "isDark", "()Z"⟩, 36), (⟨"RailPowerModel", "isIn", "()I"⟩, 36), (⟨"RailPowerModel", "solve", "(I)V"⟩, 36), (⟨"RailPowerModel", "layLoads", "(I)V"⟩, 36), (⟨"RailPowerModel", "findFeeding", "()I"⟩, 36), (⟨"RailPowerModel", "doesFeed", "(II)Z"⟩, 36), (⟨"RailPowerModel", "findGiven", "(II)V"⟩, 36), (⟨"RailPowerModel", "neighbour", "(IIZ)I"⟩, 36), (⟨"RailPowerModel", "findVolts", "(II)V"⟩, 36), (⟨"RailPowerModel", "isTooHigh", "()Z"⟩, 36), (⟨"RailPowerModel", "nextBack", "()I"⟩, 36), (⟨"RailPowerModel", "part", "(I)J"⟩, 36), (⟨"RailPowerModel", "findLowest", "()V"⟩, 36), (⟨"RailPowerModel", "isSafe", "()Z"⟩, 36), (⟨"RailPowerModel", "findMost", "()V"⟩, 36), (⟨"RailPowerModel", "layFault", "(II)V"⟩, 36)]
theorem lw_r3 : ∀ q ∈ lw_privs_3, lw_okq q := List.forall_mem_cons.mpr ⟨lw_p32, List.forall_mem_cons.mpr ⟨lw_p33, List.forall_mem_cons.mpr ⟨lw_p34, List.forall_mem_cons.mpr ⟨lw_p35, List.forall_mem_cons.mpr ⟨lw_p36, List.forall_mem_cons.mpr ⟨lw_p37, List.forall_mem_cons.mpr ⟨lw_p38, List.forall_mem_cons.mpr ⟨lw_p39, List.forall_mem_cons.mpr ⟨lw_p40, List.forall_mem_cons.mpr ⟨lw_p41, List.forall_mem_cons.mpr ⟨lw_p42, List.forall_mem_cons.mpr ⟨lw_p43, List.forall_mem_cons.mpr ⟨lw_p44, List.forall_mem_cons.mpr ⟨lw_p45, List.forall_mem_cons.mpr ⟨lw_p46, List.forall_mem_cons.mpr ⟨lw_p47, fun _ h => absurd h List.not_mem_nil⟩⟩⟩⟩⟩⟩⟩⟩⟩⟩⟩⟩⟩⟩⟩⟩
theorem lw_p48 : lw_okq (⟨"RailPowerModel", "isTripped", "()Z"⟩, 36) := ⟨⟨by decide +kernel, by decide +kernel⟩, List.mem_of_getElem? (i := 741) (by decide +kernel), List.mem_of_getElem? (i := 1065) (by decide +kernel), List.mem_of_getElem? (i := 1066) (by decide +kernel)⟩
theorem lw_p49 : lw_okq (⟨"RailPowerModel", "findPeak", "(I)V"⟩, 36) := ⟨⟨by decide +kernel, by decide +kernel⟩, List.mem_of_getElem? (i := 741) (by decide +kernel), List.mem_of_getElem? (i := 1073) (by decide +kernel), List.mem_of_getElem? (i := 1074) (by decide +kernel)⟩
theorem lw_p50 : lw_okq (⟨"RailPowerModel", "isAnyThere", "()Z"⟩, 36) := ⟨⟨by decide +kernel, by decide +kernel⟩, List.mem_of_getElem? (i := 741) (by decide +kernel), List.mem_of_getElem? (i := 1090) (by decide +kernel), List.mem_of_getElem? (i := 1091) (by decide +kernel)⟩
theorem lw_p51 : lw_okq (⟨"RailPowerModel", "ticksThere", "()I"⟩, 36) := ⟨⟨by decide +kernel, by decide +kernel⟩, List.mem_of_getElem? (i := 741) (by decide +kernel), List.mem_of_getElem? (i := 1094) (by decide +kernel), List.mem_of_getElem? (i := 1095) (by decide +kernel)⟩
theorem lw_p52 : lw_okq (⟨"RailPowerModel", "lost", "(I)J"⟩, 36) := ⟨⟨by decide +kernel, by decide +kernel⟩, List.mem_of_getElem? (i := 741) (by decide +kernel), List.mem_of_getElem? (i := 1114) (by decide +kernel), List.mem_of_getElem? (i := 1115) (by decide +kernel)⟩
theorem lw_p53 : lw_okq (⟨"RailPowerModel", "begins", "(I)V"⟩, 36) := ⟨⟨by decide +kernel, by decide +kernel⟩, List.mem_of_getElem? (i := 741) (by decide +kernel), List.mem_of_getElem? (i := 1122) (by decide +kernel), List.mem_of_getElem? (i := 1123) (by decide +kernel)⟩
def lw_privs_4 : List (MethodName × Nat) := [(⟨"RailPowerModel", "isTripped", "()Z"⟩, 36), (⟨"RailPowerModel", "findPeak", "(I)V"⟩, 36), (⟨"RailPowerModel", "isAnyThere", "()Z"⟩, 36), (⟨"RailPowerModel", "ticksThere", "()I"⟩, 36), (⟨"RailPowerModel", "lost", "(I)J"⟩, 36), (⟨"RailPowerModel", "begins", "(I)V"⟩, 36)]
theorem lw_r4 : ∀ q ∈ lw_privs_4, lw_okq q := List.forall_mem_cons.mpr ⟨lw_p48, List.forall_mem_cons.mpr ⟨lw_p49, List.forall_mem_cons.mpr ⟨lw_p50, List.forall_mem_cons.mpr ⟨lw_p51, List.forall_mem_cons.mpr ⟨lw_p52, List.forall_mem_cons.mpr ⟨lw_p53, fun _ h => absurd h List.not_mem_nil⟩⟩⟩⟩⟩⟩
def lw_privs : List (MethodName × Nat) := lw_privs_1 ++ (lw_privs_2 ++ (lw_privs_3 ++ (lw_privs_4)))
def lw_tbl : List Cond := k2_sels lw_privs ++ tables_1
theorem lw_privs_ok : ∀ q ∈ lw_privs, lw_okq q := by
  show ∀ q ∈ lw_privs_1 ++ (lw_privs_2 ++ (lw_privs_3 ++ (lw_privs_4))), lw_okq q
  exact List.forall_mem_append.mpr ⟨lw_r1, List.forall_mem_append.mpr ⟨lw_r2, List.forall_mem_append.mpr ⟨lw_r3, lw_r4⟩⟩⟩
def RX0 : String := "RailPower$Circuit"
def TX0 : u_T := fun k => match k with
  | 0 => ("RailPower$Circuit", "numbers", "[I", true)
  | 1 => ("RailPower$Circuit", "places", "[I", true)
  | 2 => ("RailPower$Circuit", "feeding", "[Z", true)
  | 3 => ("RailPower$Circuit", "upper", "[J", true)
  | 4 => ("RailPower$Circuit", "lower", "[J", true)
  | 5 => ("RailPower$Circuit", "count", "I", false)
  | 6 => ("RailPower$Circuit", "there", "[Z", true)
  | 7 => ("RailPower$Circuit", "loaded", "[I", true)
  | 8 => ("RailPower$Circuit", "amperes", "[I", true)
  | 9 => ("RailPower$Circuit", "rules", "[I", true)
  | 10 => ("RailPower$Circuit", "here", "LRailPower$Share;", true)
  | _ => ("RailPower$Circuit", "highest", "LRailPower$Share;", true)
def tyX0 : Nat → FieldType := fun k => match k with
  | 0 => .array .int
  | 1 => .array .int
  | 2 => .array .boolean
  | 3 => .array .long
  | 4 => .array .long
  | 5 => .int
  | 6 => .array .boolean
  | 7 => .array .int
  | 8 => .array .int
  | 9 => .array .int
  | 10 => .object "RailPower$Share"
  | _ => .object "RailPower$Share"
abbrev wsX00 : List Cond := u_ws RX0 TX0 12
theorem nmX0 : ∀ a, a < 12 → ∀ b, b < 12 → a ≠ b → (TX0 a).2.1 ≠ (TX0 b).2.1 := by decide +kernel
theorem tyX0_ok : ∀ k, k < 12 → parseFieldDescriptor (TX0 k).2.2.1 = some (tyX0 k) := by decide +kernel
abbrev cX0_init : ByteArray := prog_2_method_1_code
def yX0_init : MethodName := ⟨RX0, "<init>", "([I)V"⟩
abbrev cX0_clearStations : ByteArray := prog_2_method_2_code
def yX0_clearStations : MethodName := ⟨RX0, "clearStations", "()V"⟩
abbrev cX0_addStation : ByteArray := prog_2_method_3_code
def yX0_addStation : MethodName := ⟨RX0, "addStation", "(II)V"⟩
abbrev cX0_clearLoads : ByteArray := prog_2_method_4_code
def yX0_clearLoads : MethodName := ⟨RX0, "clearLoads", "()V"⟩
abbrev cX0_addLoad : ByteArray := prog_2_method_5_code
def yX0_addLoad : MethodName := ⟨RX0, "addLoad", "(III)V"⟩
abbrev cX0_settle : ByteArray := prog_2_method_6_code
def yX0_settle : MethodName := ⟨RX0, "settle", "()V"⟩
abbrev cX0_findFeeding : ByteArray := prog_2_method_7_code
def yX0_findFeeding : MethodName := ⟨RX0, "findFeeding", "()Z"⟩
abbrev cX0_bits : ByteArray := prog_2_method_8_code
def yX0_bits : MethodName := ⟨RX0, "bits", "()I"⟩
abbrev cX0_givenBy : ByteArray := prog_2_method_9_code
def yX0_givenBy : MethodName := ⟨RX0, "givenBy", "(ILRailPower$Share;)V"⟩
abbrev cX0_raiseToMost : ByteArray := prog_2_method_10_code
def yX0_raiseToMost : MethodName := ⟨RX0, "raiseToMost", "(LRailPower$Share;)V"⟩
abbrev cX0_voltsAt : ByteArray := prog_2_method_11_code
def yX0_voltsAt : MethodName := ⟨RX0, "voltsAt", "(ILRailPower$Share;)V"⟩
abbrev cX0_lostBetween : ByteArray := prog_2_method_12_code
def yX0_lostBetween : MethodName := ⟨RX0, "lostBetween", "(III)J"⟩
abbrev cX0_lostBeyond : ByteArray := prog_2_method_13_code
def yX0_lostBeyond : MethodName := ⟨RX0, "lostBeyond", "(II)J"⟩
abbrev cX0_pulledTogether : ByteArray := prog_2_method_14_code
def yX0_pulledTogether : MethodName := ⟨RX0, "pulledTogether", "()J"⟩
abbrev cX0_weigh : ByteArray := prog_2_method_15_code
def yX0_weigh : MethodName := ⟨RX0, "weigh", "()V"⟩
abbrev cX0_nextFeeding : ByteArray := prog_2_method_16_code
def yX0_nextFeeding : MethodName := ⟨RX0, "nextFeeding", "(I)I"⟩
abbrev cX0_weighOne : ByteArray := prog_2_method_17_code
def yX0_weighOne : MethodName := ⟨RX0, "weighOne", "(III)V"⟩
abbrev cX0_leaveOutTaking : ByteArray := prog_2_method_18_code
def yX0_leaveOutTaking : MethodName := ⟨RX0, "leaveOutTaking", "()Z"⟩
abbrev cX0_leaveOutIdle : ByteArray := prog_2_method_19_code
def yX0_leaveOutIdle : MethodName := ⟨RX0, "leaveOutIdle", "()V"⟩
abbrev cX0_givingBackMost : ByteArray := prog_2_method_20_code
def yX0_givingBackMost : MethodName := ⟨RX0, "givingBackMost", "()I"⟩
abbrev cX0_highestIfAnyTooHigh : ByteArray := prog_2_method_21_code
def yX0_highestIfAnyTooHigh : MethodName := ⟨RX0, "highestIfAnyTooHigh", "()I"⟩
def RX1 : String := "RailPower$Day"
def TX1 : u_T := fun k => match k with
  | 0 => ("RailPower$Day", "circuit", "LRailPower$Circuit;", true)
  | 1 => ("RailPower$Day", "low", "LRailPower$Share;", true)
  | 2 => ("RailPower$Day", "lowTick", "I", false)
  | 3 => ("RailPower$Day", "lowTrain", "I", false)
  | 4 => ("RailPower$Day", "high", "LRailPower$Share;", true)
  | 5 => ("RailPower$Day", "peaks", "[LRailPower$Peak;", true)
  | 6 => ("RailPower$Day", "best", "LRailPower$Share;", true)
  | 7 => ("RailPower$Day", "bestPlace", "I", false)
  | 8 => ("RailPower$Day", "bestKnown", "Z", false)
  | 9 => ("RailPower$Day", "line", "LRailPower$Line;", true)
  | 10 => ("RailPower$Day", "here", "LRailPower$Share;", true)
  | 11 => ("RailPower$Day", "bar", "LRailPower$Share;", true)
  | _ => ("RailPower$Day", "trial", "[I", true)
def tyX1 : Nat → FieldType := fun k => match k with
  | 0 => .object "RailPower$Circuit"
  | 1 => .object "RailPower$Share"
  | 2 => .int
  | 3 => .int
  | 4 => .object "RailPower$Share"
  | 5 => .array (.object "RailPower$Peak")
  | 6 => .object "RailPower$Share"
  | 7 => .int
  | 8 => .boolean
  | 9 => .object "RailPower$Line"
  | 10 => .object "RailPower$Share"
  | 11 => .object "RailPower$Share"
  | _ => .array .int
abbrev wsX10 : List Cond := u_ws RX1 TX1 13
theorem nmX1 : ∀ a, a < 13 → ∀ b, b < 13 → a ≠ b → (TX1 a).2.1 ≠ (TX1 b).2.1 := by decide +kernel
theorem tyX1_ok : ∀ k, k < 13 → parseFieldDescriptor (TX1 k).2.2.1 = some (tyX1 k) := by decide +kernel
abbrev cX1_init : ByteArray := prog_3_method_1_code
def yX1_init : MethodName := ⟨RX1, "<init>", "(LRailPower$Line;)V"⟩
abbrev cX1_forget : ByteArray := prog_3_method_2_code
def yX1_forget : MethodName := ⟨RX1, "forget", "()V"⟩
abbrev cX1_takeStations : ByteArray := prog_3_method_3_code
def yX1_takeStations : MethodName := ⟨RX1, "takeStations", "(I)V"⟩
abbrev cX1_solve : ByteArray := prog_3_method_4_code
def yX1_solve : MethodName := ⟨RX1, "solve", "(I)V"⟩
abbrev cX1_takeLoads : ByteArray := prog_3_method_5_code
def yX1_takeLoads : MethodName := ⟨RX1, "takeLoads", "(I[I)Z"⟩
abbrev cX1_busyTicks : ByteArray := prog_3_method_6_code
def yX1_busyTicks : MethodName := ⟨RX1, "busyTicks", "()I"⟩
abbrev cX1_findLowest : ByteArray := prog_3_method_7_code
def yX1_findLowest : MethodName := ⟨RX1, "findLowest", "(JJ)Z"⟩
abbrev cX1_sinkToLowest : ByteArray := prog_3_method_8_code
def yX1_sinkToLowest : MethodName := ⟨RX1, "sinkToLowest", "(IZ)V"⟩
abbrev cX1_isSafeWithout : ByteArray := prog_3_method_9_code
def yX1_isSafeWithout : MethodName := ⟨RX1, "isSafeWithout", "(I)Z"⟩
abbrev cX1_findMost : ByteArray := prog_3_method_10_code
def yX1_findMost : MethodName := ⟨RX1, "findMost", "([IJJ)V"⟩
abbrev cX1_feedFault : ByteArray := prog_3_method_11_code
def yX1_feedFault : MethodName := ⟨RX1, "feedFault", "(II)V"⟩
abbrev cX1_trainsTrip : ByteArray := prog_3_method_12_code
def yX1_trainsTrip : MethodName := ⟨RX1, "trainsTrip", "()Z"⟩
abbrev cX1_partsAll : ByteArray := prog_3_method_13_code
def yX1_partsAll : MethodName := ⟨RX1, "partsAll", "(I)Z"⟩
abbrev cX1_someTrips : ByteArray := prog_3_method_14_code
def yX1_someTrips : MethodName := ⟨RX1, "someTrips", "()Z"⟩
abbrev cX1_findPeak : ByteArray := prog_3_method_15_code
def yX1_findPeak : MethodName := ⟨RX1, "findPeak", "(ILRailPower$Peak;)V"⟩
abbrev cX1_spread : ByteArray := prog_3_method_16_code
def yX1_spread : MethodName := ⟨RX1, "spread", "(II)V"⟩
abbrev cX1_usedBy : ByteArray := prog_3_method_17_code
def yX1_usedBy : MethodName := ⟨RX1, "usedBy", "(I)J"⟩
abbrev cX1_givenBy : ByteArray := prog_3_method_18_code
def yX1_givenBy : MethodName := ⟨RX1, "givenBy", "(I)J"⟩
abbrev cX1_findBest : ByteArray := prog_3_method_19_code
def yX1_findBest : MethodName := ⟨RX1, "findBest", "()V"⟩
def RX2 : String := "RailPower$Line"
def TX2 : u_T := fun k => match k with
  | 0 => ("RailPower$Line", "rules", "[I", true)
  | 1 => ("RailPower$Line", "stations", "[LRailPower$Station;", true)
  | 2 => ("RailPower$Line", "trains", "[LRailPower$Train;", true)
  | 3 => ("RailPower$Line", "off", "[I", true)
  | 4 => ("RailPower$Line", "stationCount", "I", false)
  | _ => ("RailPower$Line", "trainCount", "I", false)
def tyX2 : Nat → FieldType := fun k => match k with
  | 0 => .array .int
  | 1 => .array (.object "RailPower$Station")
  | 2 => .array (.object "RailPower$Train")
  | 3 => .array .int
  | 4 => .int
  | _ => .int
abbrev wsX20 : List Cond := u_ws RX2 TX2 6
theorem nmX2 : ∀ a, a < 6 → ∀ b, b < 6 → a ≠ b → (TX2 a).2.1 ≠ (TX2 b).2.1 := by decide +kernel
theorem tyX2_ok : ∀ k, k < 6 → parseFieldDescriptor (TX2 k).2.2.1 = some (tyX2 k) := by decide +kernel
abbrev cX2_init : ByteArray := prog_4_method_1_code
def yX2_init : MethodName := ⟨RX2, "<init>", "()V"⟩
abbrev cX2_hasStation : ByteArray := prog_4_method_2_code
def yX2_hasStation : MethodName := ⟨RX2, "hasStation", "(I)Z"⟩
abbrev cX2_hasTrain : ByteArray := prog_4_method_3_code
def yX2_hasTrain : MethodName := ⟨RX2, "hasTrain", "(I)Z"⟩
abbrev cX2_hasPlace : ByteArray := prog_4_method_4_code
def yX2_hasPlace : MethodName := ⟨RX2, "hasPlace", "(I)Z"⟩
abbrev cX2_hasStationAt : ByteArray := prog_4_method_5_code
def yX2_hasStationAt : MethodName := ⟨RX2, "hasStationAt", "(I)Z"⟩
abbrev cX2_stationsIn : ByteArray := prog_4_method_6_code
def yX2_stationsIn : MethodName := ⟨RX2, "stationsIn", "()I"⟩
abbrev cX2_isDark : ByteArray := prog_4_method_7_code
def yX2_isDark : MethodName := ⟨RX2, "isDark", "()Z"⟩
abbrev cX2_mayRun : ByteArray := prog_4_method_8_code
def yX2_mayRun : MethodName := ⟨RX2, "mayRun", "(II)Z"⟩
abbrev cX2_allows : ByteArray := prog_4_method_9_code
def yX2_allows : MethodName := ⟨RX2, "allows", "(II)Z"⟩
abbrev cX2_isAnyBeyond : ByteArray := prog_4_method_10_code
def yX2_isAnyBeyond : MethodName := ⟨RX2, "isAnyBeyond", "(I)Z"⟩
def RX3 : String := "RailPower$Peak"
def TX3 : u_T := fun k => match k with
  | 0 => ("RailPower$Peak", "most", "LRailPower$Share;", true)
  | 1 => ("RailPower$Peak", "off", "[I", true)
  | _ => ("RailPower$Peak", "known", "Z", false)
def tyX3 : Nat → FieldType := fun k => match k with
  | 0 => .object "RailPower$Share"
  | 1 => .array .int
  | _ => .boolean
abbrev wsX30 : List Cond := u_ws RX3 TX3 3
theorem nmX3 : ∀ a, a < 3 → ∀ b, b < 3 → a ≠ b → (TX3 a).2.1 ≠ (TX3 b).2.1 := by decide +kernel
theorem tyX3_ok : ∀ k, k < 3 → parseFieldDescriptor (TX3 k).2.2.1 = some (tyX3 k) := by decide +kernel
abbrev cX3_init : ByteArray := prog_5_method_1_code
def yX3_init : MethodName := ⟨RX3, "<init>", "()V"⟩
def RX4 : String := "RailPower$Share"
def TX4 : u_T := fun k => match k with
  | 0 => ("RailPower$Share", "upper", "J", false)
  | _ => ("RailPower$Share", "lower", "J", false)
def tyX4 : Nat → FieldType := fun k => match k with
  | 0 => .long
  | _ => .long
abbrev wsX40 : List Cond := u_ws RX4 TX4 2
theorem nmX4 : ∀ a, a < 2 → ∀ b, b < 2 → a ≠ b → (TX4 a).2.1 ≠ (TX4 b).2.1 := by decide +kernel
theorem tyX4_ok : ∀ k, k < 2 → parseFieldDescriptor (TX4 k).2.2.1 = some (tyX4 k) := by decide +kernel
abbrev cX4_init : ByteArray := prog_6_method_1_code
def yX4_init : MethodName := ⟨RX4, "<init>", "()V"⟩
abbrev cX4_become : ByteArray := prog_6_method_2_code
def yX4_become : MethodName := ⟨RX4, "become", "(JJ)V"⟩
abbrev cX4_isBelow : ByteArray := prog_6_method_3_code
def yX4_isBelow : MethodName := ⟨RX4, "isBelow", "(LRailPower$Share;)Z"⟩
abbrev cX4_times : ByteArray := prog_6_method_4_code
def yX4_times : MethodName := ⟨RX4, "times", "(J)J"⟩
abbrev cX4_told : ByteArray := prog_6_method_5_code
def yX4_told : MethodName := ⟨RX4, "told", "(I)J"⟩
abbrev cX4_greatestDivisor : ByteArray := prog_6_method_6_code
def yX4_greatestDivisor : MethodName := ⟨RX4, "greatestDivisor", "(JJ)J"⟩
def RX5 : String := "RailPower$Sheet"
def TX5 : u_T := fun k => match k with
  | 0 => ("RailPower$Sheet", "cells", "[I", true)
  | 1 => ("RailPower$Sheet", "lane", "I", false)
  | _ => ("RailPower$Sheet", "length", "I", false)
def tyX5 : Nat → FieldType := fun k => match k with
  | 0 => .array .int
  | 1 => .int
  | _ => .int
abbrev wsX50 : List Cond := u_ws RX5 TX5 3
theorem nmX5 : ∀ a, a < 3 → ∀ b, b < 3 → a ≠ b → (TX5 a).2.1 ≠ (TX5 b).2.1 := by decide +kernel
theorem tyX5_ok : ∀ k, k < 3 → parseFieldDescriptor (TX5 k).2.2.1 = some (tyX5 k) := by decide +kernel
abbrev cX5_init : ByteArray := prog_7_method_1_code
def yX5_init : MethodName := ⟨RX5, "<init>", "()V"⟩
abbrev cX5_renew : ByteArray := prog_7_method_2_code
def yX5_renew : MethodName := ⟨RX5, "renew", "(II)V"⟩
abbrev cX5_failingAs : ByteArray := prog_7_method_3_code
def yX5_failingAs : MethodName := ⟨RX5, "failingAs", "(I)I"⟩
abbrev cX5_holds : ByteArray := prog_7_method_4_code
def yX5_holds : MethodName := ⟨RX5, "holds", "(I)Z"⟩
abbrev cX5_holdsFrom : ByteArray := prog_7_method_5_code
def yX5_holdsFrom : MethodName := ⟨RX5, "holdsFrom", "(IJ)Z"⟩
abbrev cX5_write : ByteArray := prog_7_method_6_code
def yX5_write : MethodName := ⟨RX5, "write", "(II)V"⟩
def RX6 : String := "RailPower$Station"
def TX6 : u_T := fun k => match k with
  | 0 => ("RailPower$Station", "kind", "I", false)
  | 1 => ("RailPower$Station", "place", "I", false)
  | 2 => ("RailPower$Station", "in", "Z", false)
  | _ => ("RailPower$Station", "switchedAt", "I", false)
def tyX6 : Nat → FieldType := fun k => match k with
  | 0 => .int
  | 1 => .int
  | 2 => .boolean
  | _ => .int
abbrev wsX60 : List Cond := u_ws RX6 TX6 4
theorem nmX6 : ∀ a, a < 4 → ∀ b, b < 4 → a ≠ b → (TX6 a).2.1 ≠ (TX6 b).2.1 := by decide +kernel
theorem tyX6_ok : ∀ k, k < 4 → parseFieldDescriptor (TX6 k).2.2.1 = some (tyX6 k) := by decide +kernel
abbrev cX6_init : ByteArray := prog_8_method_1_code
def yX6_init : MethodName := ⟨RX6, "<init>", "()V"⟩
def RX7 : String := "RailPower$Train"
def TX7 : u_T := fun k => match k with
  | 0 => ("RailPower$Train", "places", "[I", true)
  | _ => ("RailPower$Train", "amperes", "[I", true)
def tyX7 : Nat → FieldType := fun k => match k with
  | 0 => .array .int
  | _ => .array .int
abbrev wsX70 : List Cond := u_ws RX7 TX7 2
theorem nmX7 : ∀ a, a < 2 → ∀ b, b < 2 → a ≠ b → (TX7 a).2.1 ≠ (TX7 b).2.1 := by decide +kernel
theorem tyX7_ok : ∀ k, k < 2 → parseFieldDescriptor (TX7 k).2.2.1 = some (tyX7 k) := by decide +kernel
abbrev cX7_init : ByteArray := prog_9_method_1_code
def yX7_init : MethodName := ⟨RX7, "<init>", "()V"⟩
abbrev cX7_beAt : ByteArray := prog_9_method_2_code
def yX7_beAt : MethodName := ⟨RX7, "beAt", "(III)V"⟩
def RX8 : String := "RailPower"
def TX8 : u_T := fun k => match k with
  | 0 => ("RailPower", "line", "LRailPower$Line;", true)
  | 1 => ("RailPower", "day", "LRailPower$Day;", true)
  | 2 => ("RailPower", "sheets", "[LRailPower$Sheet;", true)
  | 3 => ("RailPower", "share", "LRailPower$Share;", true)
  | 4 => ("RailPower", "traced", "I", false)
  | _ => ("RailPower", "latestFault", "I", false)
def tyX8 : Nat → FieldType := fun k => match k with
  | 0 => .object "RailPower$Line"
  | 1 => .object "RailPower$Day"
  | 2 => .array (.object "RailPower$Sheet")
  | 3 => .object "RailPower$Share"
  | 4 => .int
  | _ => .int
abbrev wsX80 : List Cond := u_ws RX8 TX8 6
theorem nmX8 : ∀ a, a < 6 → ∀ b, b < 6 → a ≠ b → (TX8 a).2.1 ≠ (TX8 b).2.1 := by decide +kernel
theorem tyX8_ok : ∀ k, k < 6 → parseFieldDescriptor (TX8 k).2.2.1 = some (tyX8 k) := by decide +kernel
abbrev cX8_init : ByteArray := prog_1_method_1_code
def yX8_init : MethodName := ⟨RX8, "<init>", "()V"⟩
abbrev cX8_rule : ByteArray := prog_1_method_2_code
def yX8_rule : MethodName := ⟨RX8, "rule", "(II)I"⟩
abbrev cX8_station : ByteArray := prog_1_method_3_code
def yX8_station : MethodName := ⟨RX8, "station", "(II)I"⟩
abbrev cX8_set : ByteArray := prog_1_method_4_code
def yX8_set : MethodName := ⟨RX8, "set", "(IZ)I"⟩
abbrev cX8_trip : ByteArray := prog_1_method_5_code
def yX8_trip : MethodName := ⟨RX8, "trip", "(II)I"⟩
abbrev cX8_about : ByteArray := prog_1_method_6_code
def yX8_about : MethodName := ⟨RX8, "about", "(II)I"⟩
abbrev cX8_train : ByteArray := prog_1_method_7_code
def yX8_train : MethodName := ⟨RX8, "train", "()I"⟩
abbrev cX8_run : ByteArray := prog_1_method_8_code
def yX8_run : MethodName := ⟨RX8, "run", "(IIII)I"⟩
abbrev cX8_runs : ByteArray := prog_1_method_9_code
def yX8_runs : MethodName := ⟨RX8, "runs", "(IIIII)I"⟩
abbrev cX8_putOff : ByteArray := prog_1_method_10_code
def yX8_putOff : MethodName := ⟨RX8, "putOff", "(II)I"⟩
abbrev cX8_at : ByteArray := prog_1_method_11_code
def yX8_at : MethodName := ⟨RX8, "at", "(III)I"⟩
abbrev cX8_feeds : ByteArray := prog_1_method_12_code
def yX8_feeds : MethodName := ⟨RX8, "feeds", "(I)I"⟩
abbrev cX8_volts : ByteArray := prog_1_method_13_code
def yX8_volts : MethodName := ⟨RX8, "volts", "(III)J"⟩
abbrev cX8_gives : ByteArray := prog_1_method_14_code
def yX8_gives : MethodName := ⟨RX8, "gives", "(III)J"⟩
abbrev cX8_lowest : ByteArray := prog_1_method_15_code
def yX8_lowest : MethodName := ⟨RX8, "lowest", "(I)J"⟩
abbrev cX8_safe : ByteArray := prog_1_method_16_code
def yX8_safe : MethodName := ⟨RX8, "safe", "()I"⟩
abbrev cX8_firstOut : ByteArray := prog_1_method_17_code
def yX8_firstOut : MethodName := ⟨RX8, "firstOut", "()I"⟩
abbrev cX8_most : ByteArray := prog_1_method_18_code
def yX8_most : MethodName := ⟨RX8, "most", "(I)J"⟩
abbrev cX8_shorted : ByteArray := prog_1_method_19_code
def yX8_shorted : MethodName := ⟨RX8, "shorted", "(II)I"⟩
abbrev cX8_right : ByteArray := prog_1_method_20_code
def yX8_right : MethodName := ⟨RX8, "right", "(I)I"⟩
abbrev cX8_peak : ByteArray := prog_1_method_21_code
def yX8_peak : MethodName := ⟨RX8, "peak", "(II)J"⟩
abbrev cX8_used : ByteArray := prog_1_method_22_code
def yX8_used : MethodName := ⟨RX8, "used", "(I)J"⟩
abbrev cX8_given : ByteArray := prog_1_method_23_code
def yX8_given : MethodName := ⟨RX8, "given", "(I)J"⟩
abbrev cX8_best : ByteArray := prog_1_method_24_code
def yX8_best : MethodName := ⟨RX8, "best", "(I)J"⟩
abbrev cX8_sheet : ByteArray := prog_1_method_25_code
def yX8_sheet : MethodName := ⟨RX8, "sheet", "(III)I"⟩
abbrev cX8_lose : ByteArray := prog_1_method_26_code
def yX8_lose : MethodName := ⟨RX8, "lose", "(I)I"⟩
abbrev cX8_put : ByteArray := prog_1_method_27_code
def yX8_put : MethodName := ⟨RX8, "put", "(III)I"⟩
abbrev cX8_cell : ByteArray := prog_1_method_28_code
def yX8_cell : MethodName := ⟨RX8, "cell", "(III)J"⟩
abbrev cX8_tell : ByteArray := prog_1_method_29_code
def yX8_tell : MethodName := ⟨RX8, "tell", "(I)I"⟩
abbrev cX8_call : ByteArray := prog_1_method_30_code
def yX8_call : MethodName := ⟨RX8, "call", "(I)I"⟩
abbrev cX8_as : ByteArray := prog_1_method_31_code
def yX8_as : MethodName := ⟨RX8, "as", "(II)I"⟩
abbrev cX8_trace : ByteArray := prog_1_method_32_code
def yX8_trace : MethodName := ⟨RX8, "trace", "()I"⟩
abbrev cX8_fault : ByteArray := prog_1_method_33_code
def yX8_fault : MethodName := ⟨RX8, "fault", "()I"⟩
abbrev cX8_many : ByteArray := prog_1_method_34_code
def yX8_many : MethodName := ⟨RX8, "many", "(I)I"⟩
abbrev cX8_isTick : ByteArray := prog_1_method_35_code
def yX8_isTick : MethodName := ⟨RX8, "isTick", "(I)Z"⟩
abbrev cX8_isSheet : ByteArray := prog_1_method_36_code
def yX8_isSheet : MethodName := ⟨RX8, "isSheet", "(I)Z"⟩
abbrev cX8_isLane : ByteArray := prog_1_method_37_code
def yX8_isLane : MethodName := ⟨RX8, "isLane", "(I)Z"⟩
abbrev cX8_isHalf : ByteArray := prog_1_method_38_code
def yX8_isHalf : MethodName := ⟨RX8, "isHalf", "(I)Z"⟩
abbrev cX8_isFaultCurrent : ByteArray := prog_1_method_39_code
def yX8_isFaultCurrent : MethodName := ⟨RX8, "isFaultCurrent", "(I)Z"⟩
abbrev cX8_failed : ByteArray := prog_1_method_40_code
def yX8_failed : MethodName := ⟨RX8, "failed", "(I)I"⟩
abbrev cX8_mayRunBy : ByteArray := prog_1_method_41_code
def yX8_mayRunBy : MethodName := ⟨RX8, "mayRunBy", "(LRailPower$Sheet;II)Z"⟩
abbrev cX8_runBy : ByteArray := prog_1_method_42_code
def yX8_runBy : MethodName := ⟨RX8, "runBy", "(LRailPower$Train;LRailPower$Sheet;II)I"⟩
abbrev cX8_leaveTrace : ByteArray := prog_1_method_43_code
def yX8_leaveTrace : MethodName := ⟨RX8, "leaveTrace", "(I)V"⟩
abbrev cX8_tellPost : ByteArray := prog_1_method_44_code
def yX8_tellPost : MethodName := ⟨RX8, "tellPost", "(LRailPower$Station;)I"⟩
abbrev cX8_tellHouse : ByteArray := prog_1_method_45_code
def yX8_tellHouse : MethodName := ⟨RX8, "tellHouse", "(LRailPower$Station;)I"⟩
abbrev cX8_tellWorks : ByteArray := prog_1_method_46_code
def yX8_tellWorks : MethodName := ⟨RX8, "tellWorks", "(LRailPower$Station;)I"⟩
def RX9 : String := "RailPowerModel"
def TX9 : u_T := fun k => match k with
  | 0 => ("RailPowerModel", "fault", "I", false)
  | 1 => ("RailPowerModel", "trace", "I", false)
  | 2 => ("RailPowerModel", "rules", "[I", true)
  | 3 => ("RailPowerModel", "stations", "I", false)
  | 4 => ("RailPowerModel", "kinds", "[I", true)
  | 5 => ("RailPowerModel", "places", "[I", true)
  | 6 => ("RailPowerModel", "isOut", "[Z", true)
  | 7 => ("RailPowerModel", "switches", "[I", true)
  | 8 => ("RailPowerModel", "trains", "I", false)
  | 9 => ("RailPowerModel", "placeAt", "[I", true)
  | 10 => ("RailPowerModel", "amperesAt", "[I", true)
  | 11 => ("RailPowerModel", "putOff", "[I", true)
  | 12 => ("RailPowerModel", "lanes", "[I", true)
  | 13 => ("RailPowerModel", "sheetLong", "[I", true)
  | 14 => ("RailPowerModel", "cells", "[I", true)
  | 15 => ("RailPowerModel", "loads", "I", false)
  | 16 => ("RailPowerModel", "loadPlace", "[I", true)
  | 17 => ("RailPowerModel", "load", "[I", true)
  | 18 => ("RailPowerModel", "feeding", "I", false)
  | 19 => ("RailPowerModel", "up", "J", false)
  | 20 => ("RailPowerModel", "down", "J", false)
  | 21 => ("RailPowerModel", "loadOf", "[I", true)
  | 22 => ("RailPowerModel", "isAny", "Z", false)
  | 23 => ("RailPowerModel", "lowUp", "J", false)
  | 24 => ("RailPowerModel", "lowDown", "J", false)
  | 25 => ("RailPowerModel", "lowTick", "I", false)
  | 26 => ("RailPowerModel", "lowTrain", "I", false)
  | 27 => ("RailPowerModel", "mostUp", "J", false)
  | 28 => ("RailPowerModel", "mostDown", "J", false)
  | 29 => ("RailPowerModel", "wasOff", "[I", true)
  | 30 => ("RailPowerModel", "bestOff", "[I", true)
  | 31 => ("RailPowerModel", "peakUp", "J", false)
  | 32 => ("RailPowerModel", "peakDown", "J", false)
  | 33 => ("RailPowerModel", "newPlace", "I", false)
  | 34 => ("RailPowerModel", "newUp", "J", false)
  | _ => ("RailPowerModel", "newDown", "J", false)
def tyX9 : Nat → FieldType := fun k => match k with
  | 0 => .int
  | 1 => .int
  | 2 => .array .int
  | 3 => .int
  | 4 => .array .int
  | 5 => .array .int
  | 6 => .array .boolean
  | 7 => .array .int
  | 8 => .int
  | 9 => .array .int
  | 10 => .array .int
  | 11 => .array .int
  | 12 => .array .int
  | 13 => .array .int
  | 14 => .array .int
  | 15 => .int
  | 16 => .array .int
  | 17 => .array .int
  | 18 => .int
  | 19 => .long
  | 20 => .long
  | 21 => .array .int
  | 22 => .boolean
  | 23 => .long
  | 24 => .long
  | 25 => .int
  | 26 => .int
  | 27 => .long
  | 28 => .long
  | 29 => .array .int
  | 30 => .array .int
  | 31 => .long
  | 32 => .long
  | 33 => .int
  | 34 => .long
  | _ => .long
abbrev wsX90 : List Cond := u_ws RX9 TX9 36
theorem nmX9 : ∀ a, a < 36 → ∀ b, b < 36 → a ≠ b → (TX9 a).2.1 ≠ (TX9 b).2.1 := by decide +kernel
theorem tyX9_ok : ∀ k, k < 36 → parseFieldDescriptor (TX9 k).2.2.1 = some (tyX9 k) := by decide +kernel
abbrev cX9_init : ByteArray := prog_11_method_1_code
def yX9_init : MethodName := ⟨RX9, "<init>", "()V"⟩
abbrev cX9_fails : ByteArray := prog_11_method_3_code
def yX9_fails : MethodName := ⟨RX9, "fails", "(I)I"⟩
abbrev cX9_lost : ByteArray := prog_11_method_4_code
def yX9_lost : MethodName := ⟨RX9, "lost", "(I)J"⟩
abbrev cX9_within : ByteArray := prog_11_method_5_code
def yX9_within : MethodName := ⟨RX9, "within", "(III)Z"⟩
abbrev cX9_leastOf : ByteArray := prog_11_method_6_code
def yX9_leastOf : MethodName := ⟨RX9, "leastOf", "(I)I"⟩
abbrev cX9_mostOf : ByteArray := prog_11_method_7_code
def yX9_mostOf : MethodName := ⟨RX9, "mostOf", "(I)I"⟩
abbrev cX9_isBeyond : ByteArray := prog_11_method_8_code
def yX9_isBeyond : MethodName := ⟨RX9, "isBeyond", "(I)Z"⟩
abbrev cX9_isAgainst : ByteArray := prog_11_method_9_code
def yX9_isAgainst : MethodName := ⟨RX9, "isAgainst", "(II)Z"⟩
abbrev cX9_rule : ByteArray := prog_11_method_10_code
def yX9_rule : MethodName := ⟨RX9, "rule", "(II)I"⟩
abbrev cX9_isPlace : ByteArray := prog_11_method_11_code
def yX9_isPlace : MethodName := ⟨RX9, "isPlace", "(I)Z"⟩
abbrev cX9_isStation : ByteArray := prog_11_method_12_code
def yX9_isStation : MethodName := ⟨RX9, "isStation", "(I)Z"⟩
abbrev cX9_isTaken : ByteArray := prog_11_method_13_code
def yX9_isTaken : MethodName := ⟨RX9, "isTaken", "(I)Z"⟩
abbrev cX9_station : ByteArray := prog_11_method_14_code
def yX9_station : MethodName := ⟨RX9, "station", "(II)I"⟩
abbrev cX9_set : ByteArray := prog_11_method_15_code
def yX9_set : MethodName := ⟨RX9, "set", "(IZ)I"⟩
abbrev cX9_trip : ByteArray := prog_11_method_16_code
def yX9_trip : MethodName := ⟨RX9, "trip", "(II)I"⟩
abbrev cX9_about : ByteArray := prog_11_method_17_code
def yX9_about : MethodName := ⟨RX9, "about", "(II)I"⟩
abbrev cX9_isTrain : ByteArray := prog_11_method_18_code
def yX9_isTrain : MethodName := ⟨RX9, "isTrain", "(I)Z"⟩
abbrev cX9_isTick : ByteArray := prog_11_method_19_code
def yX9_isTick : MethodName := ⟨RX9, "isTick", "(I)Z"⟩
abbrev cX9_train : ByteArray := prog_11_method_20_code
def yX9_train : MethodName := ⟨RX9, "train", "()I"⟩
abbrev cX9_mayRun : ByteArray := prog_11_method_21_code
def yX9_mayRun : MethodName := ⟨RX9, "mayRun", "(II)Z"⟩
abbrev cX9_lay : ByteArray := prog_11_method_22_code
def yX9_lay : MethodName := ⟨RX9, "lay", "(IIII)V"⟩
abbrev cX9_run : ByteArray := prog_11_method_23_code
def yX9_run : MethodName := ⟨RX9, "run", "(IIII)I"⟩
abbrev cX9_isSheet : ByteArray := prog_11_method_24_code
def yX9_isSheet : MethodName := ⟨RX9, "isSheet", "(I)Z"⟩
abbrev cX9_isLane : ByteArray := prog_11_method_25_code
def yX9_isLane : MethodName := ⟨RX9, "isLane", "(I)Z"⟩
abbrev cX9_runs : ByteArray := prog_11_method_26_code
def yX9_runs : MethodName := ⟨RX9, "runs", "(IIIII)I"⟩
abbrev cX9_putOff : ByteArray := prog_11_method_27_code
def yX9_putOff : MethodName := ⟨RX9, "putOff", "(II)I"⟩
abbrev cX9_placeOf : ByteArray := prog_11_method_28_code
def yX9_placeOf : MethodName := ⟨RX9, "placeOf", "(II)I"⟩
abbrev cX9_amperesOf : ByteArray := prog_11_method_29_code
def yX9_amperesOf : MethodName := ⟨RX9, "amperesOf", "(II)I"⟩
abbrev cX9_isIn : ByteArray := prog_11_method_30_code
def yX9_isIn : MethodName := ⟨RX9, "isIn", "()I"⟩
abbrev cX9_neighbour : ByteArray := prog_11_method_31_code
def yX9_neighbour : MethodName := ⟨RX9, "neighbour", "(IIZ)I"⟩
abbrev cX9_findVolts : ByteArray := prog_11_method_32_code
def yX9_findVolts : MethodName := ⟨RX9, "findVolts", "(II)V"⟩
abbrev cX9_size : ByteArray := prog_11_method_33_code
def yX9_size : MethodName := ⟨RX9, "size", "(I)I"⟩
abbrev cX9_findGiven : ByteArray := prog_11_method_34_code
def yX9_findGiven : MethodName := ⟨RX9, "findGiven", "(II)V"⟩
abbrev cX9_doesFeed : ByteArray := prog_11_method_35_code
def yX9_doesFeed : MethodName := ⟨RX9, "doesFeed", "(II)Z"⟩
abbrev cX9_findFeeding : ByteArray := prog_11_method_36_code
def yX9_findFeeding : MethodName := ⟨RX9, "findFeeding", "()I"⟩
abbrev cX9_layLoads : ByteArray := prog_11_method_37_code
def yX9_layLoads : MethodName := ⟨RX9, "layLoads", "(I)V"⟩
abbrev cX9_isTooHigh : ByteArray := prog_11_method_38_code
def yX9_isTooHigh : MethodName := ⟨RX9, "isTooHigh", "()Z"⟩
abbrev cX9_nextBack : ByteArray := prog_11_method_39_code
def yX9_nextBack : MethodName := ⟨RX9, "nextBack", "()I"⟩
abbrev cX9_solve : ByteArray := prog_11_method_40_code
def yX9_solve : MethodName := ⟨RX9, "solve", "(I)V"⟩
abbrev cX9_isDark : ByteArray := prog_11_method_41_code
def yX9_isDark : MethodName := ⟨RX9, "isDark", "()Z"⟩
abbrev cX9_part : ByteArray := prog_11_method_42_code
def yX9_part : MethodName := ⟨RX9, "part", "(I)J"⟩
abbrev cX9_at : ByteArray := prog_11_method_43_code
def yX9_at : MethodName := ⟨RX9, "at", "(III)I"⟩
abbrev cX9_feeds : ByteArray := prog_11_method_44_code
def yX9_feeds : MethodName := ⟨RX9, "feeds", "(I)I"⟩
abbrev cX9_volts : ByteArray := prog_11_method_45_code
def yX9_volts : MethodName := ⟨RX9, "volts", "(III)J"⟩
abbrev cX9_gives : ByteArray := prog_11_method_46_code
def yX9_gives : MethodName := ⟨RX9, "gives", "(III)J"⟩
abbrev cX9_findLowest : ByteArray := prog_11_method_47_code
def yX9_findLowest : MethodName := ⟨RX9, "findLowest", "()V"⟩
abbrev cX9_lowest : ByteArray := prog_11_method_48_code
def yX9_lowest : MethodName := ⟨RX9, "lowest", "(I)J"⟩
abbrev cX9_isSafe : ByteArray := prog_11_method_49_code
def yX9_isSafe : MethodName := ⟨RX9, "isSafe", "()Z"⟩
abbrev cX9_safe : ByteArray := prog_11_method_50_code
def yX9_safe : MethodName := ⟨RX9, "safe", "()I"⟩
abbrev cX9_firstOut : ByteArray := prog_11_method_51_code
def yX9_firstOut : MethodName := ⟨RX9, "firstOut", "()I"⟩
abbrev cX9_findMost : ByteArray := prog_11_method_52_code
def yX9_findMost : MethodName := ⟨RX9, "findMost", "()V"⟩
abbrev cX9_most : ByteArray := prog_11_method_53_code
def yX9_most : MethodName := ⟨RX9, "most", "(I)J"⟩
abbrev cX9_layFault : ByteArray := prog_11_method_54_code
def yX9_layFault : MethodName := ⟨RX9, "layFault", "(II)V"⟩
abbrev cX9_shorted : ByteArray := prog_11_method_55_code
def yX9_shorted : MethodName := ⟨RX9, "shorted", "(II)I"⟩
abbrev cX9_isTripped : ByteArray := prog_11_method_56_code
def yX9_isTripped : MethodName := ⟨RX9, "isTripped", "()Z"⟩
abbrev cX9_right : ByteArray := prog_11_method_57_code
def yX9_right : MethodName := ⟨RX9, "right", "(I)I"⟩
abbrev cX9_findPeak : ByteArray := prog_11_method_58_code
def yX9_findPeak : MethodName := ⟨RX9, "findPeak", "(I)V"⟩
abbrev cX9_peak : ByteArray := prog_11_method_59_code
def yX9_peak : MethodName := ⟨RX9, "peak", "(II)J"⟩
abbrev cX9_used : ByteArray := prog_11_method_60_code
def yX9_used : MethodName := ⟨RX9, "used", "(I)J"⟩
abbrev cX9_given : ByteArray := prog_11_method_61_code
def yX9_given : MethodName := ⟨RX9, "given", "(I)J"⟩
abbrev cX9_isAnyThere : ByteArray := prog_11_method_62_code
def yX9_isAnyThere : MethodName := ⟨RX9, "isAnyThere", "()Z"⟩
abbrev cX9_ticksThere : ByteArray := prog_11_method_63_code
def yX9_ticksThere : MethodName := ⟨RX9, "ticksThere", "()I"⟩
abbrev cX9_best : ByteArray := prog_11_method_64_code
def yX9_best : MethodName := ⟨RX9, "best", "(I)J"⟩
abbrev cX9_sheet : ByteArray := prog_11_method_65_code
def yX9_sheet : MethodName := ⟨RX9, "sheet", "(III)I"⟩
abbrev cX9_lose : ByteArray := prog_11_method_66_code
def yX9_lose : MethodName := ⟨RX9, "lose", "(I)I"⟩
abbrev cX9_put : ByteArray := prog_11_method_67_code
def yX9_put : MethodName := ⟨RX9, "put", "(III)I"⟩
abbrev cX9_cell : ByteArray := prog_11_method_68_code
def yX9_cell : MethodName := ⟨RX9, "cell", "(III)J"⟩
abbrev cX9_begins : ByteArray := prog_11_method_69_code
def yX9_begins : MethodName := ⟨RX9, "begins", "(I)V"⟩
abbrev cX9_tell : ByteArray := prog_11_method_70_code
def yX9_tell : MethodName := ⟨RX9, "tell", "(I)I"⟩
abbrev cX9_call : ByteArray := prog_11_method_71_code
def yX9_call : MethodName := ⟨RX9, "call", "(I)I"⟩
abbrev cX9_as : ByteArray := prog_11_method_72_code
def yX9_as : MethodName := ⟨RX9, "as", "(II)I"⟩
abbrev cX9_trace : ByteArray := prog_11_method_73_code
def yX9_trace : MethodName := ⟨RX9, "trace", "()I"⟩
abbrev cX9_fault : ByteArray := prog_11_method_74_code
def yX9_fault : MethodName := ⟨RX9, "fault", "()I"⟩
abbrev cX9_many : ByteArray := prog_11_method_75_code
def yX9_many : MethodName := ⟨RX9, "many", "(I)I"⟩
abbrev vwCl : List vw_C := [(RX0, TX0, 12), (RX1, TX1, 13), (RX2, TX2, 6), (RX3, TX3, 3), (RX4, TX4, 2), (RX5, TX5, 3), (RX6, TX6, 4), (RX7, TX7, 2), (RX8, TX8, 6), (RX9, TX9, 36)]
